def BX6_leaves_171 (a1 : Int32) (a4 : Int32) : Nat → Int32 → Int32 → xS → Option (Int32 × xS)
  | 0, _, _, _ => none
  | n + 1, a5, a6, σ => if a6 < 6 then (some (a4, σ)) else (x_b (fX6_queue a1 a6 σ) fun z17 s17 => x_g (x_in z17 6464) (x_b (fX6_least a5 (s17 5 31 0 0 z17.toNatClampNeg) s17) fun z19 s19 => x_b (fX6_queue a1 a6 s19) fun z20 s20 => x_g (x_in z20 6464) (x_g (x_in z20 6464) (x_let (x_set s20 5 31 0 0 z20.toNatClampNeg ((s20 5 31 0 0 z20.toNatClampNeg) - z19)) fun s23 => x_let (a5 - z19) fun t24 => x_let (a6 + (-1)) fun t25 => (BX6_leaves_171 a1 a4 n) t24 t25 s23))))
set_option maxRecDepth 100000 in
set_option maxHeartbeats 4000000 in
theorem TX6_leaves_171 {l : Launch} {w : xW} (hw : w.1.2 = true) {a1 : Int32} {a4 : Int32} {τ : xS} {r : Int32} : ∀ (n : Nat) (a5 : Int32) (a6 : Int32) (σ : xS), BX6_leaves_171 a1 a4 n a5 a6 σ = some (r, τ) → xAt l w mX6_leaves 171 [(0, .ref (w.2.2 5 30 0 0)), (1, .int a1), (4, .int a4), (5, .int a5), (6, .int a6)] [] σ (some (.int r)) τ := by
  intro n
  induction n with
  | zero => intro a5 a6 σ h; cases h
  | succ n ih =>
    intro a5 a6 σ h
    rw [BX6_leaves_171] at h
    refine x_iload dX6_leaves_171 4 rfl ?_
    refine x_bipush (x := 6) dX6_leaves_173 rfl ?_
    refine x_icmp_lt (tgt := 225) dX6_leaves_175 rfl (fun hc => ?_) (fun hc => ?_)
    · have h := x_t hc h
      refine x_iload dX6_leaves_225 2 rfl ?_
      exact x_iretH rfl dX6_leaves_227 h
    · have h := x_f hc h
      refine x_iload dX6_leaves_178 3 rfl ?_
      refine x_aload_n dX6_leaves_180 rfl 0 rfl ?_
      refine x_getR (d1 := 5) (K1 := 31) (p1 := 0) (r1 := 0) fl_X6_7 (ok_e30 hw) rfl dX6_leaves_181 ?_
      refine x_iload_n dX6_leaves_184 rfl 1 rfl ?_
      refine x_iload dX6_leaves_185 4 rfl ?_
      obtain ⟨z17, s17, h17, h⟩ := x_b_e h
      refine x_callS (As := [.int a1, .int a6]) (st := [.ref (w.2.2 5 31 0 0), .int a5]) (eX6_queue hw  h17) cs_X6_48 (Nat.le_of_ble_eq_true rfl) rfl (Nat.le_of_ble_eq_true rfl) _ rfl dX6_leaves_187 [.int z17, .ref (w.2.2 5 31 0 0), .int a5] rfl ?_
      obtain ⟨hg18, h⟩ := x_g_e h
      refine x_iald 6464 z17.toNatClampNeg rfl rfl rfl rfl (ok_e31 hw) hg18 dX6_leaves_190 ?_
      obtain ⟨z19, s19, h19, h⟩ := x_b_e h
      refine x_callS (As := [.int a5, .int (s17 5 31 0 0 z17.toNatClampNeg)]) (st := []) (eX6_least hw  h19) cs_X6_68 (Nat.le_of_ble_eq_true rfl) rfl (Nat.le_of_ble_eq_true rfl) _ rfl dX6_leaves_191 [.int z19] rfl ?_
      refine x_istore z19 rfl dX6_leaves_194 (Nat.le_of_ble_eq_true rfl) [(7, .int z19), (0, .ref (w.2.2 5 30 0 0)), (1, .int a1), (4, .int a4), (5, .int a5), (6, .int a6)] rfl ?_
      refine x_aload_n dX6_leaves_196 rfl 1 rfl ?_
      refine x_getR (d1 := 5) (K1 := 31) (p1 := 0) (r1 := 0) fl_X6_7 (ok_e30 hw) rfl dX6_leaves_197 ?_
      refine x_iload_n dX6_leaves_200 rfl 2 rfl ?_
      refine x_iload dX6_leaves_201 5 rfl ?_
      obtain ⟨z20, s20, h20, h⟩ := x_b_e h
      refine x_callS (As := [.int a1, .int a6]) (st := [.ref (w.2.2 5 31 0 0)]) (eX6_queue hw  h20) cs_X6_48 (Nat.le_of_ble_eq_true rfl) rfl (Nat.le_of_ble_eq_true rfl) _ rfl dX6_leaves_203 [.int z20, .ref (w.2.2 5 31 0 0)] rfl ?_
      refine x_dup2 dX6_leaves_206 rfl rfl ?_
      obtain ⟨hg21, h⟩ := x_g_e h
      refine x_iald 6464 z20.toNatClampNeg rfl rfl rfl rfl (ok_e31 hw) hg21 dX6_leaves_207 ?_
      refine x_iload dX6_leaves_208 0 rfl ?_
      refine x_isub dX6_leaves_210 ?_
      obtain ⟨hg22, h⟩ := x_g_e h
      obtain ⟨s23, hs23, h⟩ := x_let_e h
      refine x_iast 6464 z20.toNatClampNeg rfl s23 hs23 rfl rfl rfl (ok_e31 hw) hg22 dX6_leaves_211 ?_
      refine x_iload dX6_leaves_212 4 rfl ?_
      refine x_iload dX6_leaves_214 0 rfl ?_
      refine x_isub dX6_leaves_216 ?_
      obtain ⟨t24, ht24, h⟩ := x_let_e h
      refine x_istore t24 ht24 dX6_leaves_217 (Nat.le_of_ble_eq_true rfl) [(5, .int t24), (7, .int z19), (0, .ref (w.2.2 5 30 0 0)), (1, .int a1), (4, .int a4), (6, .int a6)] rfl ?_
      obtain ⟨t25, ht25, h⟩ := x_let_e h
      refine x_iinc t25 (-1) (by decide) ht25 dX6_leaves_219 5 rfl (Nat.le_of_ble_eq_true rfl) [(6, .int t25), (5, .int t24), (7, .int z19), (0, .ref (w.2.2 5 30 0 0)), (1, .int a1), (4, .int a4)] rfl ?_
      refine x_goto (tgt := 171) dX6_leaves_222 rfl ?_
      refine x_sub (L1 := [(0, .ref (w.2.2 5 30 0 0)), (1, .int a1), (4, .int a4), (5, .int t24), (6, .int t25)]) [3, 4, 5, 1, 0] rfl ?_
      exact ih _ _ _ h
def BX6_leaves_103 (a1 : Int32) (a3 : Int32) (a4 : Int32) : Nat → Int32 → xS → Option (Int32 × xS)
  | 0, _, _ => none
  | n + 1, a5, σ => if (σ 5 31 0 0 0) ≤ a5 then (BX6_leaves_171 a1 a4 x_FU a4 8 σ) else (x_let (6336 + a5) fun t26 => x_g (x_in t26 6464) (if (σ 5 31 0 0 t26.toNatClampNeg) = (a3 + 1) then (x_let (6336 + a5) fun t34 => x_g (x_in t34 6464) (x_let (x_set σ 5 31 0 0 t34.toNatClampNeg 0) fun s36 => x_let (a5 + 1) fun t37 => (BX6_leaves_103 a1 a3 a4 n) t37 s36)) else (x_let (6336 + a5) fun t28 => x_g (x_in t28 6464) (x_let (6336 + a5) fun t30 => x_g (x_in t30 6464) (x_let (x_set σ 5 31 0 0 t30.toNatClampNeg (σ 5 31 0 0 t28.toNatClampNeg)) fun s32 => x_let (a5 + 1) fun t33 => (BX6_leaves_103 a1 a3 a4 n) t33 s32)))))
set_option maxRecDepth 100000 in
set_option maxHeartbeats 4000000 in
theorem TX6_leaves_103 {l : Launch} {w : xW} (hw : w.1.2 = true) {a1 : Int32} {a3 : Int32} {a4 : Int32} {τ : xS} {r : Int32} : ∀ (n : Nat) (a5 : Int32) (σ : xS), BX6_leaves_103 a1 a3 a4 n a5 σ = some (r, τ) → xAt l w mX6_leaves 103 [(0, .ref (w.2.2 5 30 0 0)), (1, .int a1), (3, .int a3), (4, .int a4), (5, .int a5)] [] σ (some (.int r)) τ := by
  intro n
  induction n with
  | zero => intro a5 σ h; cases h
  | succ n ih =>
    intro a5 σ h
    rw [BX6_leaves_103] at h
    refine x_iload dX6_leaves_103 4 rfl ?_
    refine x_aload_n dX6_leaves_105 rfl 0 rfl ?_
    refine x_getR (d1 := 5) (K1 := 31) (p1 := 0) (r1 := 0) fl_X6_7 (ok_e30 hw) rfl dX6_leaves_106 ?_
    refine x_iconst (x := 0) dX6_leaves_109 rfl ?_
    refine x_iald 6464 0 rfl rfl rfl rfl (ok_e31 hw) rfl dX6_leaves_110 ?_
    refine x_icmp_ge (tgt := 163) dX6_leaves_111 rfl (fun hc => ?_) (fun hc => ?_)
    · have h := x_t hc h
      refine x_iload dX6_leaves_163 3 rfl ?_
      refine x_istore a4 rfl dX6_leaves_165 (Nat.le_of_ble_eq_true rfl) [(5, .int a4), (0, .ref (w.2.2 5 30 0 0)), (1, .int a1), (3, .int a3), (4, .int a4)] rfl ?_
      refine x_bipush (x := 8) dX6_leaves_167 rfl ?_
      refine x_istore 8 rfl dX6_leaves_169 (Nat.le_of_ble_eq_true rfl) [(6, .int 8), (5, .int a4), (0, .ref (w.2.2 5 30 0 0)), (1, .int a1), (3, .int a3), (4, .int a4)] rfl ?_
      refine x_sub (L1 := [(0, .ref (w.2.2 5 30 0 0)), (1, .int a1), (4, .int a4), (5, .int a4), (6, .int 8)]) [2, 3, 5, 1, 0] rfl ?_
      exact TX6_leaves_171 hw _ _ _ _ h
    · have h := x_f hc h
      refine x_aload_n dX6_leaves_114 rfl 0 rfl ?_
      refine x_getR (d1 := 5) (K1 := 31) (p1 := 0) (r1 := 0) fl_X6_7 (ok_e30 hw) rfl dX6_leaves_115 ?_
      refine x_sipush (x := 6336) dX6_leaves_118 rfl ?_
      refine x_iload dX6_leaves_121 4 rfl ?_
      refine x_iadd dX6_leaves_123 ?_
      refine x_aload_n dX6_leaves_124 rfl 0 rfl ?_
      refine x_getR (d1 := 5) (K1 := 31) (p1 := 0) (r1 := 0) fl_X6_7 (ok_e30 hw) rfl dX6_leaves_125 ?_
      refine x_sipush (x := 6336) dX6_leaves_128 rfl ?_
      refine x_iload dX6_leaves_131 4 rfl ?_
      refine x_iadd dX6_leaves_133 ?_
      obtain ⟨t26, ht26, h⟩ := x_let_e h
      refine x_nm t26 ht26 ?_
      obtain ⟨hg27, h⟩ := x_g_e h
      refine x_iald 6464 t26.toNatClampNeg rfl rfl rfl rfl (ok_e31 hw) hg27 dX6_leaves_134 ?_
      refine x_iload_n dX6_leaves_135 rfl 2 rfl ?_
      refine x_iconst (x := 1) dX6_leaves_136 rfl ?_
      refine x_iadd dX6_leaves_137 ?_
      refine x_icmp_ne (tgt := 145) dX6_leaves_138 rfl (fun hc => ?_) (fun hc => ?_)
      · have h := x_f hc h
        refine x_aload_n dX6_leaves_145 rfl 0 rfl ?_
        refine x_getR (d1 := 5) (K1 := 31) (p1 := 0) (r1 := 0) fl_X6_7 (ok_e30 hw) rfl dX6_leaves_146 ?_
        refine x_sipush (x := 6336) dX6_leaves_149 rfl ?_
        refine x_iload dX6_leaves_152 4 rfl ?_
        refine x_iadd dX6_leaves_154 ?_
        obtain ⟨t28, ht28, h⟩ := x_let_e h
        refine x_nm t28 ht28 ?_
        obtain ⟨hg29, h⟩ := x_g_e h
        refine x_iald 6464 t28.toNatClampNeg rfl rfl rfl rfl (ok_e31 hw) hg29 dX6_leaves_155 ?_
        obtain ⟨t30, ht30, h⟩ := x_let_e h
        refine x_nm2 t30 ht30 ?_
        obtain ⟨hg31, h⟩ := x_g_e h
        obtain ⟨s32, hs32, h⟩ := x_let_e h
        refine x_iast 6464 t30.toNatClampNeg rfl s32 hs32 rfl rfl rfl (ok_e31 hw) hg31 dX6_leaves_156 ?_
        obtain ⟨t33, ht33, h⟩ := x_let_e h
        refine x_iinc t33 1 rfl ht33 dX6_leaves_157 4 rfl (Nat.le_of_ble_eq_true rfl) [(5, .int t33), (0, .ref (w.2.2 5 30 0 0)), (1, .int a1), (3, .int a3), (4, .int a4)] rfl ?_
        refine x_goto (tgt := 103) dX6_leaves_160 rfl ?_
        refine x_sub (L1 := [(0, .ref (w.2.2 5 30 0 0)), (1, .int a1), (3, .int a3), (4, .int a4), (5, .int t33)]) [1, 2, 3, 4, 0] rfl ?_
        exact ih _ _ h
      · have h := x_t hc h
        refine x_iconst (x := 0) dX6_leaves_141 rfl ?_
        refine x_goto (tgt := 156) dX6_leaves_142 rfl ?_
        obtain ⟨t34, ht34, h⟩ := x_let_e h
        refine x_nm2 t34 ht34 ?_
        obtain ⟨hg35, h⟩ := x_g_e h
        obtain ⟨s36, hs36, h⟩ := x_let_e h
        refine x_iast 6464 t34.toNatClampNeg rfl s36 hs36 rfl rfl rfl (ok_e31 hw) hg35 dX6_leaves_156 ?_
        obtain ⟨t37, ht37, h⟩ := x_let_e h
        refine x_iinc t37 1 rfl ht37 dX6_leaves_157 4 rfl (Nat.le_of_ble_eq_true rfl) [(5, .int t37), (0, .ref (w.2.2 5 30 0 0)), (1, .int a1), (3, .int a3), (4, .int a4)] rfl ?_
        refine x_goto (tgt := 103) dX6_leaves_160 rfl ?_
        refine x_sub (L1 := [(0, .ref (w.2.2 5 30 0 0)), (1, .int a1), (3, .int a3), (4, .int a4), (5, .int t37)]) [1, 2, 3, 4, 0] rfl ?_
        exact ih _ _ h
def BX6_leaves_28 (a1 : Int32) (a3 : Int32) (a4 : Int32) : Nat → Int32 → xS → Option (Int32 × xS)
  | 0, _, _ => none
  | n + 1, a5, σ => x_b (fX6_queue a1 12 σ) fun z8 s8 => x_g (x_in z8 6464) (if (s8 5 31 0 0 z8.toNatClampNeg) ≤ a5 then (x_b (fX6_queue a1 12 s8) fun z10 s10 => x_g (x_in z10 6464) (x_g (x_in z10 6464) (x_let (x_set s10 5 31 0 0 z10.toNatClampNeg ((s10 5 31 0 0 z10.toNatClampNeg) - 1)) fun s13 => x_b (fX6_packet a3 3 s13) fun z14 s14 => x_g (x_in z14 6464) (x_let (x_set s14 5 31 0 0 z14.toNatClampNeg 0) fun s16 => BX6_leaves_103 a1 a3 a4 x_FU 0 s16)))) else (x_b (fX6_entry a1 (a5 - 1) s8) fun z38 s38 => x_b (fX6_entry a1 a5 s38) fun z39 s39 => x_g (x_in z39 6464) (x_g (x_in z38 6464) (x_let (x_set s39 5 31 0 0 z38.toNatClampNeg (s39 5 31 0 0 z39.toNatClampNeg)) fun s42 => x_let (a5 + 1) fun t43 => (BX6_leaves_28 a1 a3 a4 n) t43 s42))))
set_option maxRecDepth 100000 in
set_option maxHeartbeats 4000000 in
theorem TX6_leaves_28 {l : Launch} {w : xW} (hw : w.1.2 = true) {a1 : Int32} {a3 : Int32} {a4 : Int32} {τ : xS} {r : Int32} : ∀ (n : Nat) (a5 : Int32) (σ : xS), BX6_leaves_28 a1 a3 a4 n a5 σ = some (r, τ) → xAt l w mX6_leaves 28 [(0, .ref (w.2.2 5 30 0 0)), (1, .int a1), (3, .int a3), (4, .int a4), (5, .int a5)] [] σ (some (.int r)) τ := by
  intro n
  induction n with
  | zero => intro a5 σ h; cases h
  | succ n ih =>
    intro a5 σ h
    rw [BX6_leaves_28] at h
    refine x_iload dX6_leaves_28 4 rfl ?_
    refine x_aload_n dX6_leaves_30 rfl 0 rfl ?_
    refine x_getR (d1 := 5) (K1 := 31) (p1 := 0) (r1 := 0) fl_X6_7 (ok_e30 hw) rfl dX6_leaves_31 ?_
    refine x_iload_n dX6_leaves_34 rfl 1 rfl ?_
    refine x_bipush (x := 12) dX6_leaves_35 rfl ?_
    obtain ⟨z8, s8, h8, h⟩ := x_b_e h
    refine x_callS (As := [.int a1, .int 12]) (st := [.ref (w.2.2 5 31 0 0), .int a5]) (eX6_queue hw  h8) cs_X6_48 (Nat.le_of_ble_eq_true rfl) rfl (Nat.le_of_ble_eq_true rfl) _ rfl dX6_leaves_37 [.int z8, .ref (w.2.2 5 31 0 0), .int a5] rfl ?_
    obtain ⟨hg9, h⟩ := x_g_e h
    refine x_iald 6464 z8.toNatClampNeg rfl rfl rfl rfl (ok_e31 hw) hg9 dX6_leaves_40 ?_
    refine x_icmp_ge (tgt := 74) dX6_leaves_41 rfl (fun hc => ?_) (fun hc => ?_)
    · have h := x_t hc h
      refine x_aload_n dX6_leaves_74 rfl 0 rfl ?_
      refine x_getR (d1 := 5) (K1 := 31) (p1 := 0) (r1 := 0) fl_X6_7 (ok_e30 hw) rfl dX6_leaves_75 ?_
      refine x_iload_n dX6_leaves_78 rfl 1 rfl ?_
      refine x_bipush (x := 12) dX6_leaves_79 rfl ?_
      obtain ⟨z10, s10, h10, h⟩ := x_b_e h
      refine x_callS (As := [.int a1, .int 12]) (st := [.ref (w.2.2 5 31 0 0)]) (eX6_queue hw  h10) cs_X6_48 (Nat.le_of_ble_eq_true rfl) rfl (Nat.le_of_ble_eq_true rfl) _ rfl dX6_leaves_81 [.int z10, .ref (w.2.2 5 31 0 0)] rfl ?_
      refine x_dup2 dX6_leaves_84 rfl rfl ?_
      obtain ⟨hg11, h⟩ := x_g_e h
      refine x_iald 6464 z10.toNatClampNeg rfl rfl rfl rfl (ok_e31 hw) hg11 dX6_leaves_85 ?_
      refine x_iconst (x := 1) dX6_leaves_86 rfl ?_
      refine x_isub dX6_leaves_87 ?_
      obtain ⟨hg12, h⟩ := x_g_e h
      obtain ⟨s13, hs13, h⟩ := x_let_e h
      refine x_iast 6464 z10.toNatClampNeg rfl s13 hs13 rfl rfl rfl (ok_e31 hw) hg12 dX6_leaves_88 ?_
      refine x_aload_n dX6_leaves_89 rfl 0 rfl ?_
      refine x_getR (d1 := 5) (K1 := 31) (p1 := 0) (r1 := 0) fl_X6_7 (ok_e30 hw) rfl dX6_leaves_90 ?_
      refine x_iload_n dX6_leaves_93 rfl 2 rfl ?_
      refine x_iconst (x := 3) dX6_leaves_94 rfl ?_
      obtain ⟨z14, s14, h14, h⟩ := x_b_e h
      refine x_callS (As := [.int a3, .int 3]) (st := [.ref (w.2.2 5 31 0 0)]) (eX6_packet hw  h14) cs_X6_92 (Nat.le_of_ble_eq_true rfl) rfl (Nat.le_of_ble_eq_true rfl) _ rfl dX6_leaves_95 [.int z14, .ref (w.2.2 5 31 0 0)] rfl ?_
      refine x_iconst (x := 0) dX6_leaves_98 rfl ?_
      obtain ⟨hg15, h⟩ := x_g_e h
      obtain ⟨s16, hs16, h⟩ := x_let_e h
      refine x_iast 6464 z14.toNatClampNeg rfl s16 hs16 rfl rfl rfl (ok_e31 hw) hg15 dX6_leaves_99 ?_
      refine x_iconst (x := 0) dX6_leaves_100 rfl ?_
      refine x_istore 0 rfl dX6_leaves_101 (Nat.le_of_ble_eq_true rfl) [(5, .int 0), (0, .ref (w.2.2 5 30 0 0)), (1, .int a1), (3, .int a3), (4, .int a4)] rfl ?_
      refine x_sub (L1 := [(0, .ref (w.2.2 5 30 0 0)), (1, .int a1), (3, .int a3), (4, .int a4), (5, .int 0)]) [1, 2, 3, 4, 0] rfl ?_
      exact TX6_leaves_103 hw _ _ _ h
    · have h := x_f hc h
      refine x_aload_n dX6_leaves_44 rfl 0 rfl ?_
      refine x_getR (d1 := 5) (K1 := 31) (p1 := 0) (r1 := 0) fl_X6_7 (ok_e30 hw) rfl dX6_leaves_45 ?_
      refine x_iload_n dX6_leaves_48 rfl 1 rfl ?_
      refine x_iload dX6_leaves_49 4 rfl ?_
      refine x_iconst (x := 1) dX6_leaves_51 rfl ?_
      refine x_isub dX6_leaves_52 ?_
      obtain ⟨z38, s38, h38, h⟩ := x_b_e h
      refine x_callS (As := [.int a1, .int (a5 - 1)]) (st := [.ref (w.2.2 5 31 0 0)]) (eX6_entry hw  h38) cs_X6_107 (Nat.le_of_ble_eq_true rfl) rfl (Nat.le_of_ble_eq_true rfl) _ rfl dX6_leaves_53 [.int z38, .ref (w.2.2 5 31 0 0)] rfl ?_
      refine x_aload_n dX6_leaves_56 rfl 0 rfl ?_
      refine x_getR (d1 := 5) (K1 := 31) (p1 := 0) (r1 := 0) fl_X6_7 (ok_e30 hw) rfl dX6_leaves_57 ?_
      refine x_iload_n dX6_leaves_60 rfl 1 rfl ?_
      refine x_iload dX6_leaves_61 4 rfl ?_
      obtain ⟨z39, s39, h39, h⟩ := x_b_e h
      refine x_callS (As := [.int a1, .int a5]) (st := [.ref (w.2.2 5 31 0 0), .int z38, .ref (w.2.2 5 31 0 0)]) (eX6_entry hw  h39) cs_X6_107 (Nat.le_of_ble_eq_true rfl) rfl (Nat.le_of_ble_eq_true rfl) _ rfl dX6_leaves_63 [.int z39, .ref (w.2.2 5 31 0 0), .int z38, .ref (w.2.2 5 31 0 0)] rfl ?_
      obtain ⟨hg40, h⟩ := x_g_e h
      refine x_iald 6464 z39.toNatClampNeg rfl rfl rfl rfl (ok_e31 hw) hg40 dX6_leaves_66 ?_
      obtain ⟨hg41, h⟩ := x_g_e h
      obtain ⟨s42, hs42, h⟩ := x_let_e h
      refine x_iast 6464 z38.toNatClampNeg rfl s42 hs42 rfl rfl rfl (ok_e31 hw) hg41 dX6_leaves_67 ?_
      obtain ⟨t43, ht43, h⟩ := x_let_e h
      refine x_iinc t43 1 rfl ht43 dX6_leaves_68 4 rfl (Nat.le_of_ble_eq_true rfl) [(5, .int t43), (0, .ref (w.2.2 5 30 0 0)), (1, .int a1), (3, .int a3), (4, .int a4)] rfl ?_
      refine x_goto (tgt := 28) dX6_leaves_71 rfl ?_
      refine x_sub (L1 := [(0, .ref (w.2.2 5 30 0 0)), (1, .int a1), (3, .int a3), (4, .int a4), (5, .int t43)]) [1, 2, 3, 4, 0] rfl ?_
      exact ih _ _ h
def fX6_leaves (a1 : Int32) (a2 : Int32) (σ : xS) : Option (Int32 × xS) :=
  x_b (fX6_entry a1 a2 σ) fun z1 s1 => x_g (x_in z1 6464) (x_let (s1 5 31 0 0 z1.toNatClampNeg) fun t3 => x_b (fX6_packet t3 1 s1) fun z4 s4 => x_g (x_in z4 6464) (x_let (s4 5 31 0 0 z4.toNatClampNeg) fun t6 => x_let (a2 + 1) fun t7 => BX6_leaves_28 a1 t3 t6 x_FU t7 s4))
set_option maxRecDepth 100000 in
set_option maxHeartbeats 4000000 in
theorem eX6_leaves {l : Launch} {w : xW} (hw : w.1.2 = true) {a1 : Int32} {a2 : Int32} {σ τ : xS} {r : Int32} (h : fX6_leaves a1 a2 σ = some (r, τ)) : xEV l w yX6_leaves mX6_leaves [.ref (w.2.2 5 30 0 0), .int a1, .int a2] σ (some (.int r)) τ := by
  rw [fX6_leaves] at h
  refine x_enter (by decide +kernel) rfl (Nat.le_of_ble_eq_true rfl) ?_
  refine x_sub (L1 := [(0, .ref (w.2.2 5 30 0 0)), (1, .int a1), (2, .int a2)]) [0, 1, 2] rfl ?_
  refine x_aload_n dX6_leaves_0 rfl 0 rfl ?_
  refine x_getR (d1 := 5) (K1 := 31) (p1 := 0) (r1 := 0) fl_X6_7 (ok_e30 hw) rfl dX6_leaves_1 ?_
  refine x_iload_n dX6_leaves_4 rfl 1 rfl ?_
  refine x_iload_n dX6_leaves_5 rfl 2 rfl ?_
  obtain ⟨z1, s1, h1, h⟩ := x_b_e h
  refine x_callS (As := [.int a1, .int a2]) (st := [.ref (w.2.2 5 31 0 0)]) (eX6_entry hw  h1) cs_X6_107 (Nat.le_of_ble_eq_true rfl) rfl (Nat.le_of_ble_eq_true rfl) _ rfl dX6_leaves_6 [.int z1, .ref (w.2.2 5 31 0 0)] rfl ?_
  obtain ⟨hg2, h⟩ := x_g_e h
  refine x_iald 6464 z1.toNatClampNeg rfl rfl rfl rfl (ok_e31 hw) hg2 dX6_leaves_9 ?_
  obtain ⟨t3, ht3, h⟩ := x_let_e h
  refine x_istore_n t3 ht3 dX6_leaves_10 rfl (Nat.le_of_ble_eq_true rfl) [(3, .int t3), (0, .ref (w.2.2 5 30 0 0)), (1, .int a1), (2, .int a2)] rfl ?_
  refine x_aload_n dX6_leaves_11 rfl 1 rfl ?_
  refine x_getR (d1 := 5) (K1 := 31) (p1 := 0) (r1 := 0) fl_X6_7 (ok_e30 hw) rfl dX6_leaves_12 ?_
  refine x_iload_n dX6_leaves_15 rfl 0 rfl ?_
  refine x_iconst (x := 1) dX6_leaves_16 rfl ?_
  obtain ⟨z4, s4, h4, h⟩ := x_b_e h
  refine x_callS (As := [.int t3, .int 1]) (st := [.ref (w.2.2 5 31 0 0)]) (eX6_packet hw  h4) cs_X6_92 (Nat.le_of_ble_eq_true rfl) rfl (Nat.le_of_ble_eq_true rfl) _ rfl dX6_leaves_17 [.int z4, .ref (w.2.2 5 31 0 0)] rfl ?_
  obtain ⟨hg5, h⟩ := x_g_e h
  refine x_iald 6464 z4.toNatClampNeg rfl rfl rfl rfl (ok_e31 hw) hg5 dX6_leaves_20 ?_
  obtain ⟨t6, ht6, h⟩ := x_let_e h
  refine x_istore t6 ht6 dX6_leaves_21 (Nat.le_of_ble_eq_true rfl) [(4, .int t6), (3, .int t3), (0, .ref (w.2.2 5 30 0 0)), (1, .int a1), (2, .int a2)] rfl ?_
  refine x_iload_n dX6_leaves_23 rfl 4 rfl ?_
  refine x_iconst (x := 1) dX6_leaves_24 rfl ?_
  refine x_iadd dX6_leaves_25 ?_
  obtain ⟨t7, ht7, h⟩ := x_let_e h
  refine x_istore t7 ht7 dX6_leaves_26 (Nat.le_of_ble_eq_true rfl) [(5, .int t7), (4, .int t6), (3, .int t3), (0, .ref (w.2.2 5 30 0 0)), (1, .int a1), (2, .int a2)] rfl ?_
  refine x_sub (L1 := [(0, .ref (w.2.2 5 30 0 0)), (1, .int a1), (3, .int t3), (4, .int t6), (5, .int t7)]) [3, 4, 2, 1, 0] rfl ?_
  exact TX6_leaves_28 hw _ _ _ h
def BX6_settles_29 (a2 : Int32) (σ : xS) : Option (Unit × xS) :=
  x_b (fX6_hasPackets a2 σ) fun z4 s4 => if z4 = 0 then (x_b (fX6_port a2 4 s4) fun z5 s5 => x_g (x_in z5 6464) (x_let (x_set s5 5 31 0 0 z5.toNatClampNeg 0) fun s7 => x_b (fX6_port a2 6 s7) fun z8 s8 => x_g (x_in z8 6464) (x_let (x_set s8 5 31 0 0 z8.toNatClampNeg 0) fun s10 => x_b (fX6_port a2 7 s10) fun z11 s11 => x_g (x_in z11 6464) (x_let (x_set s11 5 31 0 0 z11.toNatClampNeg 1) fun s13 => some ((), s13))))) else (some ((), s4))
set_option maxRecDepth 100000 in
set_option maxHeartbeats 4000000 in
theorem TX6_settles_29 {l : Launch} {w : xW} (hw : w.1.2 = true) {a2 : Int32} {σ τ : xS} {r : Unit} (h : BX6_settles_29 a2 σ = some (r, τ)) : xAt l w mX6_settles 29 [(0, .ref (w.2.2 5 30 0 0)), (2, .int a2)] [] σ none τ := by
  rw [BX6_settles_29] at h
  refine x_aload_n dX6_settles_29 rfl 0 rfl ?_
  refine x_iload_n dX6_settles_30 rfl 1 rfl ?_
  obtain ⟨z4, s4, h4, h⟩ := x_b_e h
  refine x_callV (As := [.int a2]) (st := []) (eX6_hasPackets hw  h4) cv_X6_110 (Nat.le_of_ble_eq_true rfl) (ok_e30 hw) rfl (Nat.le_of_ble_eq_true rfl) _ rfl dX6_settles_31 [.int z4] rfl ?_
  refine x_if_ne (tgt := 72) dX6_settles_34 rfl (fun hc => ?_) (fun hc => ?_)
  · have h := x_f hc h
    exact x_vretH rfl dX6_settles_72 h
  · have h := x_t hc h
    refine x_aload_n dX6_settles_37 rfl 0 rfl ?_
    refine x_getR (d1 := 5) (K1 := 31) (p1 := 0) (r1 := 0) fl_X6_7 (ok_e30 hw) rfl dX6_settles_38 ?_
    refine x_iload_n dX6_settles_41 rfl 1 rfl ?_
    refine x_iconst (x := 4) dX6_settles_42 rfl ?_
    obtain ⟨z5, s5, h5, h⟩ := x_b_e h
    refine x_callS (As := [.int a2, .int 4]) (st := [.ref (w.2.2 5 31 0 0)]) (eX6_port hw  h5) cs_X6_44 (Nat.le_of_ble_eq_true rfl) rfl (Nat.le_of_ble_eq_true rfl) _ rfl dX6_settles_43 [.int z5, .ref (w.2.2 5 31 0 0)] rfl ?_
    refine x_iconst (x := 0) dX6_settles_46 rfl ?_
    obtain ⟨hg6, h⟩ := x_g_e h
    obtain ⟨s7, hs7, h⟩ := x_let_e h
    refine x_iast 6464 z5.toNatClampNeg rfl s7 hs7 rfl rfl rfl (ok_e31 hw) hg6 dX6_settles_47 ?_
    refine x_aload_n dX6_settles_48 rfl 0 rfl ?_
    refine x_getR (d1 := 5) (K1 := 31) (p1 := 0) (r1 := 0) fl_X6_7 (ok_e30 hw) rfl dX6_settles_49 ?_
    refine x_iload_n dX6_settles_52 rfl 1 rfl ?_
    refine x_bipush (x := 6) dX6_settles_53 rfl ?_
    obtain ⟨z8, s8, h8, h⟩ := x_b_e h
    refine x_callS (As := [.int a2, .int 6]) (st := [.ref (w.2.2 5 31 0 0)]) (eX6_port hw  h8) cs_X6_44 (Nat.le_of_ble_eq_true rfl) rfl (Nat.le_of_ble_eq_true rfl) _ rfl dX6_settles_55 [.int z8, .ref (w.2.2 5 31 0 0)] rfl ?_
    refine x_iconst (x := 0) dX6_settles_58 rfl ?_
    obtain ⟨hg9, h⟩ := x_g_e h
    obtain ⟨s10, hs10, h⟩ := x_let_e h
    refine x_iast 6464 z8.toNatClampNeg rfl s10 hs10 rfl rfl rfl (ok_e31 hw) hg9 dX6_settles_59 ?_
    refine x_aload_n dX6_settles_60 rfl 0 rfl ?_
    refine x_getR (d1 := 5) (K1 := 31) (p1 := 0) (r1 := 0) fl_X6_7 (ok_e30 hw) rfl dX6_settles_61 ?_
    refine x_iload_n dX6_settles_64 rfl 1 rfl ?_
    refine x_bipush (x := 7) dX6_settles_65 rfl ?_
    obtain ⟨z11, s11, h11, h⟩ := x_b_e h
    refine x_callS (As := [.int a2, .int 7]) (st := [.ref (w.2.2 5 31 0 0)]) (eX6_port hw  h11) cs_X6_44 (Nat.le_of_ble_eq_true rfl) rfl (Nat.le_of_ble_eq_true rfl) _ rfl dX6_settles_67 [.int z11, .ref (w.2.2 5 31 0 0)] rfl ?_
    refine x_iconst (x := 1) dX6_settles_70 rfl ?_
    obtain ⟨hg12, h⟩ := x_g_e h
    obtain ⟨s13, hs13, h⟩ := x_let_e h
    refine x_iast 6464 z11.toNatClampNeg rfl s13 hs13 rfl rfl rfl (ok_e31 hw) hg12 dX6_settles_71 ?_
    exact x_vretH rfl dX6_settles_72 h
def fX6_settles (a1 : Int32) (σ : xS) : Option (Unit × xS) :=
  x_let (a1 / 3) fun t1 => x_b (fX6_queue a1 12 σ) fun z2 s2 => x_g (x_in z2 6464) (if (s2 5 31 0 0 z2.toNatClampNeg) = 0 then (x_b (fX6_queue a1 5 s2) fun z14 s14 => x_g (x_in z14 6464) (x_let (x_set s14 5 31 0 0 z14.toNatClampNeg 0) fun s16 => BX6_settles_29 t1 s16)) else (BX6_settles_29 t1 s2))
set_option maxRecDepth 100000 in
set_option maxHeartbeats 4000000 in
theorem eX6_settles {l : Launch} {w : xW} (hw : w.1.2 = true) {a1 : Int32} {σ τ : xS} {r : Unit} (h : fX6_settles a1 σ = some (r, τ)) : xEV l w yX6_settles mX6_settles [.ref (w.2.2 5 30 0 0), .int a1] σ none τ := by
  rw [fX6_settles] at h
  refine x_enter (by decide +kernel) rfl (Nat.le_of_ble_eq_true rfl) ?_
  refine x_sub (L1 := [(0, .ref (w.2.2 5 30 0 0)), (1, .int a1)]) [0, 1] rfl ?_
  refine x_iload_n dX6_settles_0 rfl 1 rfl ?_
  refine x_iconst (x := 3) dX6_settles_1 rfl ?_
  refine x_idiv dX6_settles_2 (by decide) ?_
  obtain ⟨t1, ht1, h⟩ := x_let_e h
  refine x_istore_n t1 ht1 dX6_settles_3 rfl (Nat.le_of_ble_eq_true rfl) [(2, .int t1), (0, .ref (w.2.2 5 30 0 0)), (1, .int a1)] rfl ?_
  refine x_aload_n dX6_settles_4 rfl 1 rfl ?_
  refine x_getR (d1 := 5) (K1 := 31) (p1 := 0) (r1 := 0) fl_X6_7 (ok_e30 hw) rfl dX6_settles_5 ?_
  refine x_iload_n dX6_settles_8 rfl 2 rfl ?_
  refine x_bipush (x := 12) dX6_settles_9 rfl ?_
  obtain ⟨z2, s2, h2, h⟩ := x_b_e h
  refine x_callS (As := [.int a1, .int 12]) (st := [.ref (w.2.2 5 31 0 0)]) (eX6_queue hw  h2) cs_X6_48 (Nat.le_of_ble_eq_true rfl) rfl (Nat.le_of_ble_eq_true rfl) _ rfl dX6_settles_11 [.int z2, .ref (w.2.2 5 31 0 0)] rfl ?_
  obtain ⟨hg3, h⟩ := x_g_e h
  refine x_iald 6464 z2.toNatClampNeg rfl rfl rfl rfl (ok_e31 hw) hg3 dX6_settles_14 ?_
  refine x_if_ne (tgt := 29) dX6_settles_15 rfl (fun hc => ?_) (fun hc => ?_)
  · have h := x_f hc h
    refine x_sub (L1 := [(0, .ref (w.2.2 5 30 0 0)), (2, .int t1)]) [1, 0] rfl ?_
    exact TX6_settles_29 hw  h
  · have h := x_t hc h
    refine x_aload_n dX6_settles_18 rfl 1 rfl ?_
    refine x_getR (d1 := 5) (K1 := 31) (p1 := 0) (r1 := 0) fl_X6_7 (ok_e30 hw) rfl dX6_settles_19 ?_
    refine x_iload_n dX6_settles_22 rfl 2 rfl ?_
    refine x_iconst (x := 5) dX6_settles_23 rfl ?_
    obtain ⟨z14, s14, h14, h⟩ := x_b_e h
    refine x_callS (As := [.int a1, .int 5]) (st := [.ref (w.2.2 5 31 0 0)]) (eX6_queue hw  h14) cs_X6_48 (Nat.le_of_ble_eq_true rfl) rfl (Nat.le_of_ble_eq_true rfl) _ rfl dX6_settles_24 [.int z14, .ref (w.2.2 5 31 0 0)] rfl ?_
    refine x_iconst (x := 0) dX6_settles_27 rfl ?_
    obtain ⟨hg15, h⟩ := x_g_e h
    obtain ⟨s16, hs16, h⟩ := x_let_e h
    refine x_iast 6464 z14.toNatClampNeg rfl s16 hs16 rfl rfl rfl (ok_e31 hw) hg15 dX6_settles_28 ?_
    refine x_sub (L1 := [(0, .ref (w.2.2 5 30 0 0)), (2, .int t1)]) [1, 0] rfl ?_
    exact TX6_settles_29 hw  h
def fX6_loses (a1 : Int32) (a2 : Int32) (a3 : Int32) (σ : xS) : Option (Unit × xS) :=
  x_b (fX6_port a1 (11 + a2) σ) fun z1 s1 => x_g (x_in z1 6464) (x_g (x_in z1 6464) (x_let (x_set s1 5 31 0 0 z1.toNatClampNeg ((s1 5 31 0 0 z1.toNatClampNeg) + 1)) fun s4 => x_b (fX6_port a1 10 s4) fun z5 s5 => x_g (x_in z5 6464) (x_g (x_in z5 6464) (x_let (x_set s5 5 31 0 0 z5.toNatClampNeg ((s5 5 31 0 0 z5.toNatClampNeg) + a3)) fun s8 => some ((), s8)))))
set_option maxRecDepth 100000 in
set_option maxHeartbeats 4000000 in
theorem eX6_loses {l : Launch} {w : xW} (hw : w.1.2 = true) {a1 : Int32} {a2 : Int32} {a3 : Int32} {σ τ : xS} {r : Unit} (h : fX6_loses a1 a2 a3 σ = some (r, τ)) : xEV l w yX6_loses mX6_loses [.ref (w.2.2 5 30 0 0), .int a1, .int a2, .int a3] σ none τ := by
  rw [fX6_loses] at h
  refine x_enter (by decide +kernel) rfl (Nat.le_of_ble_eq_true rfl) ?_
  refine x_sub (L1 := [(0, .ref (w.2.2 5 30 0 0)), (1, .int a1), (2, .int a2), (3, .int a3)]) [0, 1, 2, 3] rfl ?_
  refine x_aload_n dX6_loses_0 rfl 0 rfl ?_
  refine x_getR (d1 := 5) (K1 := 31) (p1 := 0) (r1 := 0) fl_X6_7 (ok_e30 hw) rfl dX6_loses_1 ?_
  refine x_iload_n dX6_loses_4 rfl 1 rfl ?_
  refine x_bipush (x := 11) dX6_loses_5 rfl ?_
  refine x_iload_n dX6_loses_7 rfl 2 rfl ?_
  refine x_iadd dX6_loses_8 ?_
  obtain ⟨z1, s1, h1, h⟩ := x_b_e h
  refine x_callS (As := [.int a1, .int (11 + a2)]) (st := [.ref (w.2.2 5 31 0 0)]) (eX6_port hw  h1) cs_X6_44 (Nat.le_of_ble_eq_true rfl) rfl (Nat.le_of_ble_eq_true rfl) _ rfl dX6_loses_9 [.int z1, .ref (w.2.2 5 31 0 0)] rfl ?_
  refine x_dup2 dX6_loses_12 rfl rfl ?_
  obtain ⟨hg2, h⟩ := x_g_e h
  refine x_iald 6464 z1.toNatClampNeg rfl rfl rfl rfl (ok_e31 hw) hg2 dX6_loses_13 ?_
  refine x_iconst (x := 1) dX6_loses_14 rfl ?_
  refine x_iadd dX6_loses_15 ?_
  obtain ⟨hg3, h⟩ := x_g_e h
  obtain ⟨s4, hs4, h⟩ := x_let_e h
  refine x_iast 6464 z1.toNatClampNeg rfl s4 hs4 rfl rfl rfl (ok_e31 hw) hg3 dX6_loses_16 ?_
  refine x_aload_n dX6_loses_17 rfl 0 rfl ?_
  refine x_getR (d1 := 5) (K1 := 31) (p1 := 0) (r1 := 0) fl_X6_7 (ok_e30 hw) rfl dX6_loses_18 ?_
  refine x_iload_n dX6_loses_21 rfl 1 rfl ?_
  refine x_bipush (x := 10) dX6_loses_22 rfl ?_
  obtain ⟨z5, s5, h5, h⟩ := x_b_e h
  refine x_callS (As := [.int a1, .int 10]) (st := [.ref (w.2.2 5 31 0 0)]) (eX6_port hw  h5) cs_X6_44 (Nat.le_of_ble_eq_true rfl) rfl (Nat.le_of_ble_eq_true rfl) _ rfl dX6_loses_24 [.int z5, .ref (w.2.2 5 31 0 0)] rfl ?_
  refine x_dup2 dX6_loses_27 rfl rfl ?_
  obtain ⟨hg6, h⟩ := x_g_e h
  refine x_iald 6464 z5.toNatClampNeg rfl rfl rfl rfl (ok_e31 hw) hg6 dX6_loses_28 ?_
  refine x_iload_n dX6_loses_29 rfl 3 rfl ?_
  refine x_iadd dX6_loses_30 ?_
  obtain ⟨hg7, h⟩ := x_g_e h
  obtain ⟨s8, hs8, h⟩ := x_let_e h
  refine x_iast 6464 z5.toNatClampNeg rfl s8 hs8 rfl rfl rfl (ok_e31 hw) hg7 dX6_loses_31 ?_
  exact x_vretH rfl dX6_loses_32 h
def fX6_early (a1 : Int32) (a2 : Int32) (σ : xS) : Option (Int32 × xS) :=
  x_b (fX6_freeOf (a1 / 3) σ) fun z1 s1 => x_b (fX6_least a2 z1 s1) fun z2 s2 => if z2 = a2 then (some (1, s2)) else (x_let (x_set s2 5 36 0 0 1 1) fun s3 => x_let (a2 - z2) fun t4 => x_b (fX6_free  s3) fun z5 s5 => if t4 ≤ z5 then (x_b (fX6_queue a1 7 s5) fun z6 s6 => x_g (x_in z6 6464) (x_b (fX6_limit a1 s6) fun z8 s8 => x_let (((s6 5 31 0 0 z6.toNatClampNeg) + t4) - z8) fun t9 => x_b (fX6_queue a1 3 s8) fun z10 s10 => x_g (x_in z10 6464) (if (s10 5 31 0 0 z10.toNatClampNeg) < t9 then (x_let (x_set s10 5 36 0 0 2 3) fun s12 => some (0, s12)) else (some (2, s10))))) else (x_let (x_set s5 5 36 0 0 2 2) fun s13 => some (0, s13)))
set_option maxRecDepth 100000 in
set_option maxHeartbeats 4000000 in
theorem eX6_early {l : Launch} {w : xW} (hw : w.1.2 = true) {a1 : Int32} {a2 : Int32} {σ τ : xS} {r : Int32} (h : fX6_early a1 a2 σ = some (r, τ)) : xEV l w yX6_early mX6_early [.ref (w.2.2 5 30 0 0), .int a1, .int a2] σ (some (.int r)) τ := by
  rw [fX6_early] at h
  refine x_enter (by decide +kernel) rfl (Nat.le_of_ble_eq_true rfl) ?_
  refine x_sub (L1 := [(0, .ref (w.2.2 5 30 0 0)), (1, .int a1), (2, .int a2)]) [0, 1, 2] rfl ?_
  refine x_iload_n dX6_early_0 rfl 2 rfl ?_
  refine x_aload_n dX6_early_1 rfl 0 rfl ?_
  refine x_iload_n dX6_early_2 rfl 1 rfl ?_
  refine x_iconst (x := 3) dX6_early_3 rfl ?_
  refine x_idiv dX6_early_4 (by decide) ?_
  obtain ⟨z1, s1, h1, h⟩ := x_b_e h
  refine x_callV (As := [.int (a1 / 3)]) (st := [.int a2]) (eX6_freeOf hw  h1) cv_X6_65 (Nat.le_of_ble_eq_true rfl) (ok_e30 hw) rfl (Nat.le_of_ble_eq_true rfl) _ rfl dX6_early_5 [.int z1, .int a2] rfl ?_
  obtain ⟨z2, s2, h2, h⟩ := x_b_e h
  refine x_callS (As := [.int a2, .int z1]) (st := []) (eX6_least hw  h2) cs_X6_68 (Nat.le_of_ble_eq_true rfl) rfl (Nat.le_of_ble_eq_true rfl) _ rfl dX6_early_8 [.int z2] rfl ?_
  refine x_istore_n z2 rfl dX6_early_11 rfl (Nat.le_of_ble_eq_true rfl) [(3, .int z2), (0, .ref (w.2.2 5 30 0 0)), (1, .int a1), (2, .int a2)] rfl ?_
  refine x_iload_n dX6_early_12 rfl 0 rfl ?_
  refine x_iload_n dX6_early_13 rfl 3 rfl ?_
  refine x_icmp_ne (tgt := 19) dX6_early_14 rfl (fun hc => ?_) (fun hc => ?_)
  · have h := x_f hc h
    refine x_aload_n dX6_early_19 rfl 1 rfl ?_
    refine x_getR (d1 := 5) (K1 := 36) (p1 := 0) (r1 := 0) fl_X6_26 (ok_e30 hw) rfl dX6_early_20 ?_
    refine x_iconst (x := 1) dX6_early_23 rfl ?_
    refine x_iconst (x := 1) dX6_early_24 rfl ?_
    obtain ⟨s3, hs3, h⟩ := x_let_e h
    refine x_iast 5 1 rfl s3 hs3 rfl rfl rfl (ok_e36 hw) rfl dX6_early_25 ?_
    refine x_iload_n dX6_early_26 rfl 3 rfl ?_
    refine x_iload_n dX6_early_27 rfl 0 rfl ?_
    refine x_isub dX6_early_28 ?_
    obtain ⟨t4, ht4, h⟩ := x_let_e h
    refine x_istore t4 ht4 dX6_early_29 (Nat.le_of_ble_eq_true rfl) [(4, .int t4), (3, .int z2), (0, .ref (w.2.2 5 30 0 0)), (1, .int a1), (2, .int a2)] rfl ?_
    refine x_iload dX6_early_31 0 rfl ?_
    refine x_aload_n dX6_early_33 rfl 2 rfl ?_
    obtain ⟨z5, s5, h5, h⟩ := x_b_e h
    refine x_callV (As := []) (st := [.int t4]) (eX6_free hw  h5) cv_X6_62 (Nat.le_of_ble_eq_true rfl) (ok_e30 hw) rfl (Nat.le_of_ble_eq_true rfl) _ rfl dX6_early_34 [.int z5, .int t4] rfl ?_
    refine x_icmp_le (tgt := 49) dX6_early_37 rfl (fun hc => ?_) (fun hc => ?_)
    · have h := x_t hc h
      refine x_aload_n dX6_early_49 rfl 2 rfl ?_
      refine x_getR (d1 := 5) (K1 := 31) (p1 := 0) (r1 := 0) fl_X6_7 (ok_e30 hw) rfl dX6_early_50 ?_
      refine x_iload_n dX6_early_53 rfl 3 rfl ?_
      refine x_bipush (x := 7) dX6_early_54 rfl ?_
      obtain ⟨z6, s6, h6, h⟩ := x_b_e h
      refine x_callS (As := [.int a1, .int 7]) (st := [.ref (w.2.2 5 31 0 0)]) (eX6_queue hw  h6) cs_X6_48 (Nat.le_of_ble_eq_true rfl) rfl (Nat.le_of_ble_eq_true rfl) _ rfl dX6_early_56 [.int z6, .ref (w.2.2 5 31 0 0)] rfl ?_
      obtain ⟨hg7, h⟩ := x_g_e h
      refine x_iald 6464 z6.toNatClampNeg rfl rfl rfl rfl (ok_e31 hw) hg7 dX6_early_59 ?_
      refine x_iload dX6_early_60 0 rfl ?_
      refine x_iadd dX6_early_62 ?_
      refine x_aload_n dX6_early_63 rfl 2 rfl ?_
      refine x_iload_n dX6_early_64 rfl 3 rfl ?_
      obtain ⟨z8, s8, h8, h⟩ := x_b_e h
      refine x_callV (As := [.int a1]) (st := [.int ((s6 5 31 0 0 z6.toNatClampNeg) + t4)]) (eX6_limit hw  h8) cv_X6_113 (Nat.le_of_ble_eq_true rfl) (ok_e30 hw) rfl (Nat.le_of_ble_eq_true rfl) _ rfl dX6_early_65 [.int z8, .int ((s6 5 31 0 0 z6.toNatClampNeg) + t4)] rfl ?_
      refine x_isub dX6_early_68 ?_
      obtain ⟨t9, ht9, h⟩ := x_let_e h
      refine x_istore t9 ht9 dX6_early_69 (Nat.le_of_ble_eq_true rfl) [(5, .int t9), (4, .int t4), (3, .int z2), (0, .ref (w.2.2 5 30 0 0)), (1, .int a1), (2, .int a2)] rfl ?_
      refine x_iload dX6_early_71 0 rfl ?_
      refine x_aload_n dX6_early_73 rfl 3 rfl ?_
      refine x_getR (d1 := 5) (K1 := 31) (p1 := 0) (r1 := 0) fl_X6_7 (ok_e30 hw) rfl dX6_early_74 ?_
      refine x_iload_n dX6_early_77 rfl 4 rfl ?_
      refine x_iconst (x := 3) dX6_early_78 rfl ?_
      obtain ⟨z10, s10, h10, h⟩ := x_b_e h
      refine x_callS (As := [.int a1, .int 3]) (st := [.ref (w.2.2 5 31 0 0), .int t9]) (eX6_queue hw  h10) cs_X6_48 (Nat.le_of_ble_eq_true rfl) rfl (Nat.le_of_ble_eq_true rfl) _ rfl dX6_early_79 [.int z10, .ref (w.2.2 5 31 0 0), .int t9] rfl ?_
      obtain ⟨hg11, h⟩ := x_g_e h
      refine x_iald 6464 z10.toNatClampNeg rfl rfl rfl rfl (ok_e31 hw) hg11 dX6_early_82 ?_
      refine x_icmp_gt (tgt := 88) dX6_early_83 rfl (fun hc => ?_) (fun hc => ?_)
      · have h := x_t hc h
        refine x_aload_n dX6_early_88 rfl 3 rfl ?_
        refine x_getR (d1 := 5) (K1 := 36) (p1 := 0) (r1 := 0) fl_X6_26 (ok_e30 hw) rfl dX6_early_89 ?_
        refine x_iconst (x := 2) dX6_early_92 rfl ?_
        refine x_iconst (x := 3) dX6_early_93 rfl ?_
        obtain ⟨s12, hs12, h⟩ := x_let_e h
        refine x_iast 5 2 rfl s12 hs12 rfl rfl rfl (ok_e36 hw) rfl dX6_early_94 ?_
        refine x_iconst (x := 0) dX6_early_95 rfl ?_
        exact x_iretH rfl dX6_early_96 h
      · have h := x_f hc h
        refine x_iconst (x := 2) dX6_early_86 rfl ?_
        exact x_iretH rfl dX6_early_87 h
    · have h := x_f hc h
      refine x_aload_n dX6_early_40 rfl 2 rfl ?_
      refine x_getR (d1 := 5) (K1 := 36) (p1 := 0) (r1 := 0) fl_X6_26 (ok_e30 hw) rfl dX6_early_41 ?_
      refine x_iconst (x := 2) dX6_early_44 rfl ?_
      refine x_iconst (x := 2) dX6_early_45 rfl ?_
      obtain ⟨s13, hs13, h⟩ := x_let_e h
      refine x_iast 5 2 rfl s13 hs13 rfl rfl rfl (ok_e36 hw) rfl dX6_early_46 ?_
      refine x_iconst (x := 0) dX6_early_47 rfl ?_
      exact x_iretH rfl dX6_early_48 h
  · have h := x_t hc h
    refine x_iconst (x := 1) dX6_early_17 rfl ?_
    exact x_iretH rfl dX6_early_18 h
def BX6_lessens_6 (a1 : Int32) : Nat → Int32 → Int32 → xS → Option (Unit × xS)
  | 0, _, _, _ => none
  | n + 1, a3, a4, σ => if a4 < 6 then (some ((), σ)) else (x_b (fX6_queue a1 a4 σ) fun z1 s1 => x_g (x_in z1 6464) (x_b (fX6_least a3 (s1 5 31 0 0 z1.toNatClampNeg) s1) fun z3 s3 => x_b (fX6_queue a1 a4 s3) fun z4 s4 => x_g (x_in z4 6464) (x_g (x_in z4 6464) (x_let (x_set s4 5 31 0 0 z4.toNatClampNeg ((s4 5 31 0 0 z4.toNatClampNeg) - z3)) fun s7 => x_let (a3 - z3) fun t8 => x_let (a4 + (-1)) fun t9 => (BX6_lessens_6 a1 n) t8 t9 s7))))
set_option maxRecDepth 100000 in
set_option maxHeartbeats 4000000 in
theorem TX6_lessens_6 {l : Launch} {w : xW} (hw : w.1.2 = true) {a1 : Int32} {τ : xS} {r : Unit} : ∀ (n : Nat) (a3 : Int32) (a4 : Int32) (σ : xS), BX6_lessens_6 a1 n a3 a4 σ = some (r, τ) → xAt l w mX6_lessens 6 [(0, .ref (w.2.2 5 30 0 0)), (1, .int a1), (3, .int a3), (4, .int a4)] [] σ none τ := by
  intro n
  induction n with
  | zero => intro a3 a4 σ h; cases h
  | succ n ih =>
    intro a3 a4 σ h
    rw [BX6_lessens_6] at h
    refine x_iload dX6_lessens_6 3 rfl ?_
    refine x_bipush (x := 6) dX6_lessens_8 rfl ?_
    refine x_icmp_lt (tgt := 57) dX6_lessens_10 rfl (fun hc => ?_) (fun hc => ?_)
    · have h := x_t hc h
      exact x_vretH rfl dX6_lessens_57 h
    · have h := x_f hc h
      refine x_iload_n dX6_lessens_13 rfl 2 rfl ?_
      refine x_aload_n dX6_lessens_14 rfl 0 rfl ?_
      refine x_getR (d1 := 5) (K1 := 31) (p1 := 0) (r1 := 0) fl_X6_7 (ok_e30 hw) rfl dX6_lessens_15 ?_
      refine x_iload_n dX6_lessens_18 rfl 1 rfl ?_
      refine x_iload dX6_lessens_19 3 rfl ?_
      obtain ⟨z1, s1, h1, h⟩ := x_b_e h
      refine x_callS (As := [.int a1, .int a4]) (st := [.ref (w.2.2 5 31 0 0), .int a3]) (eX6_queue hw  h1) cs_X6_48 (Nat.le_of_ble_eq_true rfl) rfl (Nat.le_of_ble_eq_true rfl) _ rfl dX6_lessens_21 [.int z1, .ref (w.2.2 5 31 0 0), .int a3] rfl ?_
      obtain ⟨hg2, h⟩ := x_g_e h
      refine x_iald 6464 z1.toNatClampNeg rfl rfl rfl rfl (ok_e31 hw) hg2 dX6_lessens_24 ?_
      obtain ⟨z3, s3, h3, h⟩ := x_b_e h
      refine x_callS (As := [.int a3, .int (s1 5 31 0 0 z1.toNatClampNeg)]) (st := []) (eX6_least hw  h3) cs_X6_68 (Nat.le_of_ble_eq_true rfl) rfl (Nat.le_of_ble_eq_true rfl) _ rfl dX6_lessens_25 [.int z3] rfl ?_
      refine x_istore z3 rfl dX6_lessens_28 (Nat.le_of_ble_eq_true rfl) [(5, .int z3), (0, .ref (w.2.2 5 30 0 0)), (1, .int a1), (3, .int a3), (4, .int a4)] rfl ?_
      refine x_aload_n dX6_lessens_30 rfl 1 rfl ?_
      refine x_getR (d1 := 5) (K1 := 31) (p1 := 0) (r1 := 0) fl_X6_7 (ok_e30 hw) rfl dX6_lessens_31 ?_
      refine x_iload_n dX6_lessens_34 rfl 2 rfl ?_
      refine x_iload dX6_lessens_35 4 rfl ?_
      obtain ⟨z4, s4, h4, h⟩ := x_b_e h
      refine x_callS (As := [.int a1, .int a4]) (st := [.ref (w.2.2 5 31 0 0)]) (eX6_queue hw  h4) cs_X6_48 (Nat.le_of_ble_eq_true rfl) rfl (Nat.le_of_ble_eq_true rfl) _ rfl dX6_lessens_37 [.int z4, .ref (w.2.2 5 31 0 0)] rfl ?_
      refine x_dup2 dX6_lessens_40 rfl rfl ?_
      obtain ⟨hg5, h⟩ := x_g_e h
      refine x_iald 6464 z4.toNatClampNeg rfl rfl rfl rfl (ok_e31 hw) hg5 dX6_lessens_41 ?_
      refine x_iload dX6_lessens_42 0 rfl ?_
      refine x_isub dX6_lessens_44 ?_
      obtain ⟨hg6, h⟩ := x_g_e h
      obtain ⟨s7, hs7, h⟩ := x_let_e h
      refine x_iast 6464 z4.toNatClampNeg rfl s7 hs7 rfl rfl rfl (ok_e31 hw) hg6 dX6_lessens_45 ?_
      refine x_iload_n dX6_lessens_46 rfl 3 rfl ?_
      refine x_iload dX6_lessens_47 0 rfl ?_
      refine x_isub dX6_lessens_49 ?_
      obtain ⟨t8, ht8, h⟩ := x_let_e h
      refine x_istore_n t8 ht8 dX6_lessens_50 rfl (Nat.le_of_ble_eq_true rfl) [(3, .int t8), (5, .int z3), (0, .ref (w.2.2 5 30 0 0)), (1, .int a1), (4, .int a4)] rfl ?_
      obtain ⟨t9, ht9, h⟩ := x_let_e h
      refine x_iinc t9 (-1) (by decide) ht9 dX6_lessens_51 4 rfl (Nat.le_of_ble_eq_true rfl) [(4, .int t9), (3, .int t8), (5, .int z3), (0, .ref (w.2.2 5 30 0 0)), (1, .int a1)] rfl ?_
      refine x_goto (tgt := 6) dX6_lessens_54 rfl ?_
      refine x_sub (L1 := [(0, .ref (w.2.2 5 30 0 0)), (1, .int a1), (3, .int t8), (4, .int t9)]) [3, 4, 1, 0] rfl ?_
      exact ih _ _ _ h
def fX6_lessens (a1 : Int32) (a2 : Int32) (σ : xS) : Option (Unit × xS) :=
  BX6_lessens_6 a1 x_FU a2 8 σ
set_option maxRecDepth 100000 in
set_option maxHeartbeats 4000000 in
theorem eX6_lessens {l : Launch} {w : xW} (hw : w.1.2 = true) {a1 : Int32} {a2 : Int32} {σ τ : xS} {r : Unit} (h : fX6_lessens a1 a2 σ = some (r, τ)) : xEV l w yX6_lessens mX6_lessens [.ref (w.2.2 5 30 0 0), .int a1, .int a2] σ none τ := by
  rw [fX6_lessens] at h
  refine x_enter (by decide +kernel) rfl (Nat.le_of_ble_eq_true rfl) ?_
  refine x_sub (L1 := [(0, .ref (w.2.2 5 30 0 0)), (1, .int a1), (2, .int a2)]) [0, 1, 2] rfl ?_
  refine x_iload_n dX6_lessens_0 rfl 2 rfl ?_
  refine x_istore_n a2 rfl dX6_lessens_1 rfl (Nat.le_of_ble_eq_true rfl) [(3, .int a2), (0, .ref (w.2.2 5 30 0 0)), (1, .int a1), (2, .int a2)] rfl ?_
  refine x_bipush (x := 8) dX6_lessens_2 rfl ?_
  refine x_istore 8 rfl dX6_lessens_4 (Nat.le_of_ble_eq_true rfl) [(4, .int 8), (3, .int a2), (0, .ref (w.2.2 5 30 0 0)), (1, .int a1), (2, .int a2)] rfl ?_
  refine x_sub (L1 := [(0, .ref (w.2.2 5 30 0 0)), (1, .int a1), (3, .int a2), (4, .int 8)]) [2, 3, 1, 0] rfl ?_
  exact TX6_lessens_6 hw _ _ _ _ h
def BX6_pushes_181 (a3 : Int32) (a4 : Int32) (a5 : Int32) (a7 : Int32) (a8 : Int32) : Nat → Int32 → xS → Option (Int32 × xS)
  | 0, _, _ => none
  | n + 1, a9, σ => if 9 ≤ a9 then (x_let (x_set σ 5 36 0 0 1 a4) fun s5 => x_let (x_set s5 5 36 0 0 2 a5) fun s6 => x_let (x_set s6 5 36 0 0 4 7) fun s7 => x_let (x_set s7 5 30 0 0 7 a7) fun s8 => x_g (x_z a8) (some (a8, s8))) else (x_b (fX6_queue ((3 * a3) + (a9 / 3)) (6 + (a9 - a9 / 3 * 3)) σ) fun z10 s10 => x_g (x_in a9 9) (x_g (x_in z10 6464) (x_let (x_set s10 5 31 0 0 z10.toNatClampNeg (s10 5 37 0 0 a9.toNatClampNeg)) fun s13 => x_let (a9 + 1) fun t14 => (BX6_pushes_181 a3 a4 a5 a7 a8 n) t14 s13)))
set_option maxRecDepth 100000 in
set_option maxHeartbeats 4000000 in
theorem TX6_pushes_181 {l : Launch} {w : xW} (hw : w.1.2 = true) {a3 : Int32} {a4 : Int32} {a5 : Int32} {a7 : Int32} {a8 : Int32} {τ : xS} {r : Int32} : ∀ (n : Nat) (a9 : Int32) (σ : xS), BX6_pushes_181 a3 a4 a5 a7 a8 n a9 σ = some (r, τ) → xAt l w mX6_pushes 181 [(0, .ref (w.2.2 5 30 0 0)), (3, .int a3), (4, .int a4), (5, .int a5), (6, .ref (w.2.2 5 37 0 0)), (7, .int a7), (8, .int a8), (9, .int a9)] [] σ (some (.int r)) τ := by
  intro n
  induction n with
  | zero => intro a9 σ h; cases h
  | succ n ih =>
    intro a9 σ h
    rw [BX6_pushes_181] at h
    refine x_iload dX6_pushes_181 7 rfl ?_
    refine x_bipush (x := 9) dX6_pushes_183 rfl ?_
    refine x_icmp_ge (tgt := 222) dX6_pushes_185 rfl (fun hc => ?_) (fun hc => ?_)
    · have h := x_t hc h
      refine x_aload_n dX6_pushes_222 rfl 0 rfl ?_
      refine x_getR (d1 := 5) (K1 := 36) (p1 := 0) (r1 := 0) fl_X6_26 (ok_e30 hw) rfl dX6_pushes_223 ?_
      refine x_iconst (x := 1) dX6_pushes_226 rfl ?_
      refine x_iload dX6_pushes_227 2 rfl ?_
      obtain ⟨s5, hs5, h⟩ := x_let_e h
      refine x_iast 5 1 rfl s5 hs5 rfl rfl rfl (ok_e36 hw) rfl dX6_pushes_229 ?_
      refine x_aload_n dX6_pushes_230 rfl 0 rfl ?_
      refine x_getR (d1 := 5) (K1 := 36) (p1 := 0) (r1 := 0) fl_X6_26 (ok_e30 hw) rfl dX6_pushes_231 ?_
      refine x_iconst (x := 2) dX6_pushes_234 rfl ?_
      refine x_iload dX6_pushes_235 3 rfl ?_
      obtain ⟨s6, hs6, h⟩ := x_let_e h
      refine x_iast 5 2 rfl s6 hs6 rfl rfl rfl (ok_e36 hw) rfl dX6_pushes_237 ?_
      refine x_aload_n dX6_pushes_238 rfl 0 rfl ?_
      refine x_getR (d1 := 5) (K1 := 36) (p1 := 0) (r1 := 0) fl_X6_26 (ok_e30 hw) rfl dX6_pushes_239 ?_
      refine x_iconst (x := 4) dX6_pushes_242 rfl ?_
      refine x_bipush (x := 7) dX6_pushes_243 rfl ?_
      obtain ⟨s7, hs7, h⟩ := x_let_e h
      refine x_iast 5 4 rfl s7 hs7 rfl rfl rfl (ok_e36 hw) rfl dX6_pushes_245 ?_
      refine x_aload_n dX6_pushes_246 rfl 0 rfl ?_
      refine x_iload dX6_pushes_247 5 rfl ?_
      obtain ⟨s8, hs8, h⟩ := x_let_e h
      refine x_putI s8 hs8 fp_X6_125 (ok_e30 hw) rfl dX6_pushes_249 ?_
      refine x_iload dX6_pushes_252 6 rfl ?_
      obtain ⟨hg9, h⟩ := x_g_e h
      exact x_zretH rfl hg9 dX6_pushes_254 h
    · have h := x_f hc h
      refine x_aload_n dX6_pushes_188 rfl 0 rfl ?_
      refine x_getR (d1 := 5) (K1 := 31) (p1 := 0) (r1 := 0) fl_X6_7 (ok_e30 hw) rfl dX6_pushes_189 ?_
      refine x_iconst (x := 3) dX6_pushes_192 rfl ?_
      refine x_iload_n dX6_pushes_193 rfl 1 rfl ?_
      refine x_imul dX6_pushes_194 ?_
      refine x_iload dX6_pushes_195 7 rfl ?_
      refine x_iconst (x := 3) dX6_pushes_197 rfl ?_
      refine x_idiv dX6_pushes_198 (by decide) ?_
      refine x_iadd dX6_pushes_199 ?_
      refine x_bipush (x := 6) dX6_pushes_200 rfl ?_
      refine x_iload dX6_pushes_202 7 rfl ?_
      refine x_iconst (x := 3) dX6_pushes_204 rfl ?_
      refine x_irem dX6_pushes_205 (by decide) ?_
      refine x_iadd dX6_pushes_206 ?_
      obtain ⟨z10, s10, h10, h⟩ := x_b_e h
      refine x_callS (As := [.int ((3 * a3) + (a9 / 3)), .int (6 + (a9 - a9 / 3 * 3))]) (st := [.ref (w.2.2 5 31 0 0)]) (eX6_queue hw  h10) cs_X6_48 (Nat.le_of_ble_eq_true rfl) rfl (Nat.le_of_ble_eq_true rfl) _ rfl dX6_pushes_207 [.int z10, .ref (w.2.2 5 31 0 0)] rfl ?_
      refine x_aload dX6_pushes_210 4 rfl ?_
      refine x_iload dX6_pushes_212 7 rfl ?_
      obtain ⟨hg11, h⟩ := x_g_e h
      refine x_iald 9 a9.toNatClampNeg rfl rfl rfl rfl (ok_e37 hw) hg11 dX6_pushes_214 ?_
      obtain ⟨hg12, h⟩ := x_g_e h
      obtain ⟨s13, hs13, h⟩ := x_let_e h
      refine x_iast 6464 z10.toNatClampNeg rfl s13 hs13 rfl rfl rfl (ok_e31 hw) hg12 dX6_pushes_215 ?_
      obtain ⟨t14, ht14, h⟩ := x_let_e h
      refine x_iinc t14 1 rfl ht14 dX6_pushes_216 7 rfl (Nat.le_of_ble_eq_true rfl) [(9, .int t14), (0, .ref (w.2.2 5 30 0 0)), (3, .int a3), (4, .int a4), (5, .int a5), (6, .ref (w.2.2 5 37 0 0)), (7, .int a7), (8, .int a8)] rfl ?_
      refine x_goto (tgt := 181) dX6_pushes_219 rfl ?_
      refine x_sub (L1 := [(0, .ref (w.2.2 5 30 0 0)), (3, .int a3), (4, .int a4), (5, .int a5), (6, .ref (w.2.2 5 37 0 0)), (7, .int a7), (8, .int a8), (9, .int t14)]) [1, 2, 3, 4, 5, 6, 7, 0] rfl ?_
      exact ih _ _ h
def BX6_pushes_110 (a1 : Int32) (a2 : Int32) (a3 : Int32) (a4 : Int32) (a5 : Int32) (a9 : Int32) (k83 : Int32 → Int32 → Int32 → xS → Option (Int32 × xS)) : Nat → Int32 → Int32 → Int32 → xS → Option (Int32 × xS)
  | 0, _, _, _, _ => none
  | n + 1, a7, a8, a10, σ => if a10 < 0 then (x_let (a9 + (-1)) fun t18 => k83 a7 a8 t18 σ) else (if a8 = 0 then (x_b (fX6_entry a9 a10 σ) fun z20 s20 => x_g (x_in z20 6464) (x_b (fX6_packet (s20 5 31 0 0 z20.toNatClampNeg) 1 s20) fun z22 s22 => x_g (x_in z22 6464) (x_b (fX6_lessens a9 (s22 5 31 0 0 z22.toNatClampNeg) s22) fun z24 s24 => x_let (a7 + 1) fun t25 => x_b (fX6_early a1 a2 s24) fun z26 s26 => if z26 ≤ 0 then (x_let (a10 + (-1)) fun t27 => (BX6_pushes_110 a1 a2 a3 a4 a5 a9 k83 n) t25 0 t27 s26) else (x_let (a10 + (-1)) fun t28 => (BX6_pushes_110 a1 a2 a3 a4 a5 a9 k83 n) t25 1 t28 s26)))) else (x_let (a9 + (-1)) fun t19 => k83 a7 a8 t19 σ))
set_option maxRecDepth 100000 in
set_option maxHeartbeats 4000000 in
theorem TX6_pushes_110 {l : Launch} {w : xW} (hw : w.1.2 = true) {a1 : Int32} {a2 : Int32} {a3 : Int32} {a4 : Int32} {a5 : Int32} {a9 : Int32} {k83 : Int32 → Int32 → Int32 → xS → Option (Int32 × xS)} {τ : xS} {r : Int32} (hk83 : ∀ (a7 : Int32) (a8 : Int32) (a9 : Int32) (σ1 : xS), k83 a7 a8 a9 σ1 = some (r, τ) → xAt l w mX6_pushes 83 [(0, .ref (w.2.2 5 30 0 0)), (1, .int a1), (2, .int a2), (3, .int a3), (4, .int a4), (5, .int a5), (6, .ref (w.2.2 5 37 0 0)), (7, .int a7), (8, .int a8), (9, .int a9)] [] σ1 (some (.int r)) τ) : ∀ (n : Nat) (a7 : Int32) (a8 : Int32) (a10 : Int32) (σ : xS), BX6_pushes_110 a1 a2 a3 a4 a5 a9 k83 n a7 a8 a10 σ = some (r, τ) → xAt l w mX6_pushes 110 [(0, .ref (w.2.2 5 30 0 0)), (1, .int a1), (2, .int a2), (3, .int a3), (4, .int a4), (5, .int a5), (6, .ref (w.2.2 5 37 0 0)), (7, .int a7), (8, .int a8), (9, .int a9), (10, .int a10)] [] σ (some (.int r)) τ := by
  intro n
  induction n with
  | zero => intro a7 a8 a10 σ h; cases h
  | succ n ih =>
    intro a7 a8 a10 σ h
    rw [BX6_pushes_110] at h
    refine x_iload dX6_pushes_110 10 rfl ?_
    refine x_if_lt (tgt := 172) dX6_pushes_112 rfl (fun hc => ?_) (fun hc => ?_)
    · have h := x_t hc h
      obtain ⟨t18, ht18, h⟩ := x_let_e h
      refine x_iinc t18 (-1) (by decide) ht18 dX6_pushes_172 9 rfl (Nat.le_of_ble_eq_true rfl) [(9, .int t18), (0, .ref (w.2.2 5 30 0 0)), (1, .int a1), (2, .int a2), (3, .int a3), (4, .int a4), (5, .int a5), (6, .ref (w.2.2 5 37 0 0)), (7, .int a7), (8, .int a8), (10, .int a10)] rfl ?_
      refine x_goto (tgt := 83) dX6_pushes_175 rfl ?_
      refine x_sub (L1 := [(0, .ref (w.2.2 5 30 0 0)), (1, .int a1), (2, .int a2), (3, .int a3), (4, .int a4), (5, .int a5), (6, .ref (w.2.2 5 37 0 0)), (7, .int a7), (8, .int a8), (9, .int t18)]) [1, 2, 3, 4, 5, 6, 7, 8, 9, 0] rfl ?_
      exact hk83 _ _ _ _ h
    · have h := x_f hc h
      refine x_iload dX6_pushes_115 8 rfl ?_
      refine x_if_ne (tgt := 172) dX6_pushes_117 rfl (fun hc => ?_) (fun hc => ?_)
      · have h := x_f hc h
        obtain ⟨t19, ht19, h⟩ := x_let_e h
        refine x_iinc t19 (-1) (by decide) ht19 dX6_pushes_172 9 rfl (Nat.le_of_ble_eq_true rfl) [(9, .int t19), (0, .ref (w.2.2 5 30 0 0)), (1, .int a1), (2, .int a2), (3, .int a3), (4, .int a4), (5, .int a5), (6, .ref (w.2.2 5 37 0 0)), (7, .int a7), (8, .int a8), (10, .int a10)] rfl ?_
        refine x_goto (tgt := 83) dX6_pushes_175 rfl ?_
        refine x_sub (L1 := [(0, .ref (w.2.2 5 30 0 0)), (1, .int a1), (2, .int a2), (3, .int a3), (4, .int a4), (5, .int a5), (6, .ref (w.2.2 5 37 0 0)), (7, .int a7), (8, .int a8), (9, .int t19)]) [1, 2, 3, 4, 5, 6, 7, 8, 9, 0] rfl ?_
        exact hk83 _ _ _ _ h
      · have h := x_t hc h
        refine x_aload_n dX6_pushes_120 rfl 0 rfl ?_
        refine x_iload dX6_pushes_121 9 rfl ?_
        refine x_aload_n dX6_pushes_123 rfl 0 rfl ?_
        refine x_getR (d1 := 5) (K1 := 31) (p1 := 0) (r1 := 0) fl_X6_7 (ok_e30 hw) rfl dX6_pushes_124 ?_
        refine x_aload_n dX6_pushes_127 rfl 0 rfl ?_
        refine x_getR (d1 := 5) (K1 := 31) (p1 := 0) (r1 := 0) fl_X6_7 (ok_e30 hw) rfl dX6_pushes_128 ?_
        refine x_iload dX6_pushes_131 9 rfl ?_
        refine x_iload dX6_pushes_133 10 rfl ?_
        obtain ⟨z20, s20, h20, h⟩ := x_b_e h
        refine x_callS (As := [.int a9, .int a10]) (st := [.ref (w.2.2 5 31 0 0), .ref (w.2.2 5 31 0 0), .int a9, .ref (w.2.2 5 30 0 0)]) (eX6_entry hw  h20) cs_X6_107 (Nat.le_of_ble_eq_true rfl) rfl (Nat.le_of_ble_eq_true rfl) _ rfl dX6_pushes_135 [.int z20, .ref (w.2.2 5 31 0 0), .ref (w.2.2 5 31 0 0), .int a9, .ref (w.2.2 5 30 0 0)] rfl ?_
        obtain ⟨hg21, h⟩ := x_g_e h
        refine x_iald 6464 z20.toNatClampNeg rfl rfl rfl rfl (ok_e31 hw) hg21 dX6_pushes_138 ?_
        refine x_iconst (x := 1) dX6_pushes_139 rfl ?_
        obtain ⟨z22, s22, h22, h⟩ := x_b_e h
        refine x_callS (As := [.int (s20 5 31 0 0 z20.toNatClampNeg), .int 1]) (st := [.ref (w.2.2 5 31 0 0), .int a9, .ref (w.2.2 5 30 0 0)]) (eX6_packet hw  h22) cs_X6_92 (Nat.le_of_ble_eq_true rfl) rfl (Nat.le_of_ble_eq_true rfl) _ rfl dX6_pushes_140 [.int z22, .ref (w.2.2 5 31 0 0), .int a9, .ref (w.2.2 5 30 0 0)] rfl ?_
        obtain ⟨hg23, h⟩ := x_g_e h
        refine x_iald 6464 z22.toNatClampNeg rfl rfl rfl rfl (ok_e31 hw) hg23 dX6_pushes_143 ?_
        obtain ⟨z24, s24, h24, h⟩ := x_b_e h
        refine x_callV (As := [.int a9, .int (s22 5 31 0 0 z22.toNatClampNeg)]) (st := []) (eX6_lessens hw  h24) cv_X6_122 (Nat.le_of_ble_eq_true rfl) (ok_e30 hw) rfl (Nat.le_of_ble_eq_true rfl) _ rfl dX6_pushes_144 [] rfl ?_
        obtain ⟨t25, ht25, h⟩ := x_let_e h
        refine x_iinc t25 1 rfl ht25 dX6_pushes_147 7 rfl (Nat.le_of_ble_eq_true rfl) [(7, .int t25), (0, .ref (w.2.2 5 30 0 0)), (1, .int a1), (2, .int a2), (3, .int a3), (4, .int a4), (5, .int a5), (6, .ref (w.2.2 5 37 0 0)), (8, .int a8), (9, .int a9), (10, .int a10)] rfl ?_
        refine x_aload_n dX6_pushes_150 rfl 1 rfl ?_
        refine x_iload_n dX6_pushes_151 rfl 2 rfl ?_
        refine x_iload_n dX6_pushes_152 rfl 3 rfl ?_
        obtain ⟨z26, s26, h26, h⟩ := x_b_e h
        refine x_callV (As := [.int a1, .int a2]) (st := []) (eX6_early hw  h26) cv_X6_116 (Nat.le_of_ble_eq_true rfl) (ok_e30 hw) rfl (Nat.le_of_ble_eq_true rfl) _ rfl dX6_pushes_153 [.int z26] rfl ?_
        refine x_if_le (tgt := 163) dX6_pushes_156 rfl (fun hc => ?_) (fun hc => ?_)
        · have h := x_t hc h
          refine x_iconst (x := 0) dX6_pushes_163 rfl ?_
          refine x_istore 0 rfl dX6_pushes_164 (Nat.le_of_ble_eq_true rfl) [(8, .int 0), (7, .int t25), (0, .ref (w.2.2 5 30 0 0)), (1, .int a1), (2, .int a2), (3, .int a3), (4, .int a4), (5, .int a5), (6, .ref (w.2.2 5 37 0 0)), (9, .int a9), (10, .int a10)] rfl ?_
          obtain ⟨t27, ht27, h⟩ := x_let_e h
          refine x_iinc t27 (-1) (by decide) ht27 dX6_pushes_166 10 rfl (Nat.le_of_ble_eq_true rfl) [(10, .int t27), (8, .int 0), (7, .int t25), (0, .ref (w.2.2 5 30 0 0)), (1, .int a1), (2, .int a2), (3, .int a3), (4, .int a4), (5, .int a5), (6, .ref (w.2.2 5 37 0 0)), (9, .int a9)] rfl ?_
          refine x_goto (tgt := 110) dX6_pushes_169 rfl ?_
          refine x_sub (L1 := [(0, .ref (w.2.2 5 30 0 0)), (1, .int a1), (2, .int a2), (3, .int a3), (4, .int a4), (5, .int a5), (6, .ref (w.2.2 5 37 0 0)), (7, .int t25), (8, .int 0), (9, .int a9), (10, .int t27)]) [3, 4, 5, 6, 7, 8, 9, 2, 1, 10, 0] rfl ?_
          exact ih _ _ _ _ h
        · have h := x_f hc h
          refine x_iconst (x := 1) dX6_pushes_159 rfl ?_
          refine x_goto (tgt := 164) dX6_pushes_160 rfl ?_
          refine x_istore 1 rfl dX6_pushes_164 (Nat.le_of_ble_eq_true rfl) [(8, .int 1), (7, .int t25), (0, .ref (w.2.2 5 30 0 0)), (1, .int a1), (2, .int a2), (3, .int a3), (4, .int a4), (5, .int a5), (6, .ref (w.2.2 5 37 0 0)), (9, .int a9), (10, .int a10)] rfl ?_
          obtain ⟨t28, ht28, h⟩ := x_let_e h
          refine x_iinc t28 (-1) (by decide) ht28 dX6_pushes_166 10 rfl (Nat.le_of_ble_eq_true rfl) [(10, .int t28), (8, .int 1), (7, .int t25), (0, .ref (w.2.2 5 30 0 0)), (1, .int a1), (2, .int a2), (3, .int a3), (4, .int a4), (5, .int a5), (6, .ref (w.2.2 5 37 0 0)), (9, .int a9)] rfl ?_
          refine x_goto (tgt := 110) dX6_pushes_169 rfl ?_
          refine x_sub (L1 := [(0, .ref (w.2.2 5 30 0 0)), (1, .int a1), (2, .int a2), (3, .int a3), (4, .int a4), (5, .int a5), (6, .ref (w.2.2 5 37 0 0)), (7, .int t25), (8, .int 1), (9, .int a9), (10, .int t28)]) [3, 4, 5, 6, 7, 8, 9, 2, 1, 10, 0] rfl ?_
          exact ih _ _ _ _ h
def BX6_pushes_83 (a1 : Int32) (a2 : Int32) (a3 : Int32) (a4 : Int32) (a5 : Int32) : Nat → Int32 → Int32 → Int32 → xS → Option (Int32 × xS)
  | 0, _, _, _, _ => none
  | n + 1, a7, a8, a9, σ => if a9 ≤ a1 then (BX6_pushes_181 a3 a4 a5 a7 a8 x_FU 0 σ) else (if a8 = 0 then (x_b (fX6_queue a9 12 σ) fun z15 s15 => x_g (x_in z15 6464) (x_let ((s15 5 31 0 0 z15.toNatClampNeg) - 1) fun t17 => BX6_pushes_110 a1 a2 a3 a4 a5 a9 (BX6_pushes_83 a1 a2 a3 a4 a5 n) x_FU a7 a8 t17 s15)) else (BX6_pushes_181 a3 a4 a5 a7 a8 x_FU 0 σ))
set_option maxRecDepth 100000 in
set_option maxHeartbeats 4000000 in
theorem TX6_pushes_83 {l : Launch} {w : xW} (hw : w.1.2 = true) {a1 : Int32} {a2 : Int32} {a3 : Int32} {a4 : Int32} {a5 : Int32} {τ : xS} {r : Int32} : ∀ (n : Nat) (a7 : Int32) (a8 : Int32) (a9 : Int32) (σ : xS), BX6_pushes_83 a1 a2 a3 a4 a5 n a7 a8 a9 σ = some (r, τ) → xAt l w mX6_pushes 83 [(0, .ref (w.2.2 5 30 0 0)), (1, .int a1), (2, .int a2), (3, .int a3), (4, .int a4), (5, .int a5), (6, .ref (w.2.2 5 37 0 0)), (7, .int a7), (8, .int a8), (9, .int a9)] [] σ (some (.int r)) τ := by
  intro n
  induction n with
  | zero => intro a7 a8 a9 σ h; cases h
  | succ n ih =>
    intro a7 a8 a9 σ h
    rw [BX6_pushes_83] at h
    refine x_iload dX6_pushes_83 9 rfl ?_
    refine x_iload_n dX6_pushes_85 rfl 1 rfl ?_
    refine x_icmp_le (tgt := 178) dX6_pushes_86 rfl (fun hc => ?_) (fun hc => ?_)
    · have h := x_t hc h
      refine x_iconst (x := 0) dX6_pushes_178 rfl ?_
      refine x_istore 0 rfl dX6_pushes_179 (Nat.le_of_ble_eq_true rfl) [(9, .int 0), (0, .ref (w.2.2 5 30 0 0)), (1, .int a1), (2, .int a2), (3, .int a3), (4, .int a4), (5, .int a5), (6, .ref (w.2.2 5 37 0 0)), (7, .int a7), (8, .int a8)] rfl ?_
      refine x_sub (L1 := [(0, .ref (w.2.2 5 30 0 0)), (3, .int a3), (4, .int a4), (5, .int a5), (6, .ref (w.2.2 5 37 0 0)), (7, .int a7), (8, .int a8), (9, .int 0)]) [1, 4, 5, 6, 7, 8, 9, 0] rfl ?_
      exact TX6_pushes_181 hw _ _ _ h
    · have h := x_f hc h
      refine x_iload dX6_pushes_89 8 rfl ?_
      refine x_if_ne (tgt := 178) dX6_pushes_91 rfl (fun hc => ?_) (fun hc => ?_)
      · have h := x_f hc h
        refine x_iconst (x := 0) dX6_pushes_178 rfl ?_
        refine x_istore 0 rfl dX6_pushes_179 (Nat.le_of_ble_eq_true rfl) [(9, .int 0), (0, .ref (w.2.2 5 30 0 0)), (1, .int a1), (2, .int a2), (3, .int a3), (4, .int a4), (5, .int a5), (6, .ref (w.2.2 5 37 0 0)), (7, .int a7), (8, .int a8)] rfl ?_
        refine x_sub (L1 := [(0, .ref (w.2.2 5 30 0 0)), (3, .int a3), (4, .int a4), (5, .int a5), (6, .ref (w.2.2 5 37 0 0)), (7, .int a7), (8, .int a8), (9, .int 0)]) [1, 4, 5, 6, 7, 8, 9, 0] rfl ?_
        exact TX6_pushes_181 hw _ _ _ h
      · have h := x_t hc h
        refine x_aload_n dX6_pushes_94 rfl 0 rfl ?_
        refine x_getR (d1 := 5) (K1 := 31) (p1 := 0) (r1 := 0) fl_X6_7 (ok_e30 hw) rfl dX6_pushes_95 ?_
        refine x_iload dX6_pushes_98 9 rfl ?_
        refine x_bipush (x := 12) dX6_pushes_100 rfl ?_
        obtain ⟨z15, s15, h15, h⟩ := x_b_e h
        refine x_callS (As := [.int a9, .int 12]) (st := [.ref (w.2.2 5 31 0 0)]) (eX6_queue hw  h15) cs_X6_48 (Nat.le_of_ble_eq_true rfl) rfl (Nat.le_of_ble_eq_true rfl) _ rfl dX6_pushes_102 [.int z15, .ref (w.2.2 5 31 0 0)] rfl ?_
        obtain ⟨hg16, h⟩ := x_g_e h
        refine x_iald 6464 z15.toNatClampNeg rfl rfl rfl rfl (ok_e31 hw) hg16 dX6_pushes_105 ?_
        refine x_iconst (x := 1) dX6_pushes_106 rfl ?_
        refine x_isub dX6_pushes_107 ?_
        obtain ⟨t17, ht17, h⟩ := x_let_e h
        refine x_istore t17 ht17 dX6_pushes_108 (Nat.le_of_ble_eq_true rfl) [(10, .int t17), (0, .ref (w.2.2 5 30 0 0)), (1, .int a1), (2, .int a2), (3, .int a3), (4, .int a4), (5, .int a5), (6, .ref (w.2.2 5 37 0 0)), (7, .int a7), (8, .int a8), (9, .int a9)] rfl ?_
        refine x_sub (L1 := [(0, .ref (w.2.2 5 30 0 0)), (1, .int a1), (2, .int a2), (3, .int a3), (4, .int a4), (5, .int a5), (6, .ref (w.2.2 5 37 0 0)), (7, .int a7), (8, .int a8), (9, .int a9), (10, .int t17)]) [1, 2, 3, 4, 5, 6, 7, 8, 9, 10, 0] rfl ?_
        exact TX6_pushes_110 hw ih _ _ _ _ _ h
def BX6_pushes_29 (a1 : Int32) (a2 : Int32) (a3 : Int32) (a4 : Int32) (a5 : Int32) : Nat → Int32 → xS → Option (Int32 × xS)
  | 0, _, _ => none
  | n + 1, a7, σ => if 9 ≤ a7 then (x_let ((3 * a3) + 2) fun t4 => BX6_pushes_83 a1 a2 a3 a4 a5 x_FU 0 0 t4 σ) else (x_b (fX6_queue ((3 * a3) + (a7 / 3)) (6 + (a7 - a7 / 3 * 3)) σ) fun z29 s29 => x_g (x_in z29 6464) (x_g (x_in a7 9) (x_let (x_set s29 5 37 0 0 a7.toNatClampNeg (s29 5 31 0 0 z29.toNatClampNeg)) fun s32 => x_let (a7 + 1) fun t33 => (BX6_pushes_29 a1 a2 a3 a4 a5 n) t33 s32)))
set_option maxRecDepth 100000 in
set_option maxHeartbeats 4000000 in
theorem TX6_pushes_29 {l : Launch} {w : xW} (hw : w.1.2 = true) {a1 : Int32} {a2 : Int32} {a3 : Int32} {a4 : Int32} {a5 : Int32} {τ : xS} {r : Int32} : ∀ (n : Nat) (a7 : Int32) (σ : xS), BX6_pushes_29 a1 a2 a3 a4 a5 n a7 σ = some (r, τ) → xAt l w mX6_pushes 29 [(0, .ref (w.2.2 5 30 0 0)), (1, .int a1), (2, .int a2), (3, .int a3), (4, .int a4), (5, .int a5), (6, .ref (w.2.2 5 37 0 0)), (7, .int a7)] [] σ (some (.int r)) τ := by
  intro n
  induction n with
  | zero => intro a7 σ h; cases h
  | succ n ih =>
    intro a7 σ h
    rw [BX6_pushes_29] at h
    refine x_iload dX6_pushes_29 7 rfl ?_
    refine x_bipush (x := 9) dX6_pushes_31 rfl ?_
    refine x_icmp_ge (tgt := 70) dX6_pushes_33 rfl (fun hc => ?_) (fun hc => ?_)
    · have h := x_t hc h
      refine x_iconst (x := 0) dX6_pushes_70 rfl ?_
      refine x_istore 0 rfl dX6_pushes_71 (Nat.le_of_ble_eq_true rfl) [(7, .int 0), (0, .ref (w.2.2 5 30 0 0)), (1, .int a1), (2, .int a2), (3, .int a3), (4, .int a4), (5, .int a5), (6, .ref (w.2.2 5 37 0 0))] rfl ?_
      refine x_iconst (x := 0) dX6_pushes_73 rfl ?_
      refine x_istore 0 rfl dX6_pushes_74 (Nat.le_of_ble_eq_true rfl) [(8, .int 0), (7, .int 0), (0, .ref (w.2.2 5 30 0 0)), (1, .int a1), (2, .int a2), (3, .int a3), (4, .int a4), (5, .int a5), (6, .ref (w.2.2 5 37 0 0))] rfl ?_
      refine x_iconst (x := 3) dX6_pushes_76 rfl ?_
      refine x_iload_n dX6_pushes_77 rfl 5 rfl ?_
      refine x_imul dX6_pushes_78 ?_
      refine x_iconst (x := 2) dX6_pushes_79 rfl ?_
      refine x_iadd dX6_pushes_80 ?_
      obtain ⟨t4, ht4, h⟩ := x_let_e h
      refine x_istore t4 ht4 dX6_pushes_81 (Nat.le_of_ble_eq_true rfl) [(9, .int t4), (8, .int 0), (7, .int 0), (0, .ref (w.2.2 5 30 0 0)), (1, .int a1), (2, .int a2), (3, .int a3), (4, .int a4), (5, .int a5), (6, .ref (w.2.2 5 37 0 0))] rfl ?_
      refine x_sub (L1 := [(0, .ref (w.2.2 5 30 0 0)), (1, .int a1), (2, .int a2), (3, .int a3), (4, .int a4), (5, .int a5), (6, .ref (w.2.2 5 37 0 0)), (7, .int 0), (8, .int 0), (9, .int t4)]) [3, 4, 5, 6, 7, 8, 9, 2, 1, 0] rfl ?_
      exact TX6_pushes_83 hw _ _ _ _ _ h
    · have h := x_f hc h
      refine x_aload dX6_pushes_36 6 rfl ?_
      refine x_iload dX6_pushes_38 7 rfl ?_
      refine x_aload_n dX6_pushes_40 rfl 0 rfl ?_
      refine x_getR (d1 := 5) (K1 := 31) (p1 := 0) (r1 := 0) fl_X6_7 (ok_e30 hw) rfl dX6_pushes_41 ?_
      refine x_iconst (x := 3) dX6_pushes_44 rfl ?_
      refine x_iload_n dX6_pushes_45 rfl 3 rfl ?_
      refine x_imul dX6_pushes_46 ?_
      refine x_iload dX6_pushes_47 7 rfl ?_
      refine x_iconst (x := 3) dX6_pushes_49 rfl ?_
      refine x_idiv dX6_pushes_50 (by decide) ?_
      refine x_iadd dX6_pushes_51 ?_
      refine x_bipush (x := 6) dX6_pushes_52 rfl ?_
      refine x_iload dX6_pushes_54 7 rfl ?_
      refine x_iconst (x := 3) dX6_pushes_56 rfl ?_
      refine x_irem dX6_pushes_57 (by decide) ?_
      refine x_iadd dX6_pushes_58 ?_
      obtain ⟨z29, s29, h29, h⟩ := x_b_e h
      refine x_callS (As := [.int ((3 * a3) + (a7 / 3)), .int (6 + (a7 - a7 / 3 * 3))]) (st := [.ref (w.2.2 5 31 0 0), .int a7, .ref (w.2.2 5 37 0 0)]) (eX6_queue hw  h29) cs_X6_48 (Nat.le_of_ble_eq_true rfl) rfl (Nat.le_of_ble_eq_true rfl) _ rfl dX6_pushes_59 [.int z29, .ref (w.2.2 5 31 0 0), .int a7, .ref (w.2.2 5 37 0 0)] rfl ?_
      obtain ⟨hg30, h⟩ := x_g_e h
      refine x_iald 6464 z29.toNatClampNeg rfl rfl rfl rfl (ok_e31 hw) hg30 dX6_pushes_62 ?_
      obtain ⟨hg31, h⟩ := x_g_e h
      obtain ⟨s32, hs32, h⟩ := x_let_e h
      refine x_iast 9 a7.toNatClampNeg rfl s32 hs32 rfl rfl rfl (ok_e37 hw) hg31 dX6_pushes_63 ?_
      obtain ⟨t33, ht33, h⟩ := x_let_e h
      refine x_iinc t33 1 rfl ht33 dX6_pushes_64 7 rfl (Nat.le_of_ble_eq_true rfl) [(7, .int t33), (0, .ref (w.2.2 5 30 0 0)), (1, .int a1), (2, .int a2), (3, .int a3), (4, .int a4), (5, .int a5), (6, .ref (w.2.2 5 37 0 0))] rfl ?_
      refine x_goto (tgt := 29) dX6_pushes_67 rfl ?_
      refine x_sub (L1 := [(0, .ref (w.2.2 5 30 0 0)), (1, .int a1), (2, .int a2), (3, .int a3), (4, .int a4), (5, .int a5), (6, .ref (w.2.2 5 37 0 0)), (7, .int t33)]) [1, 2, 3, 4, 5, 6, 7, 0] rfl ?_
      exact ih _ _ h
def fX6_pushes (a1 : Int32) (a2 : Int32) (σ : xS) : Option (Int32 × xS) :=
  x_let (a1 / 3) fun t1 => x_let (σ 5 36 0 0 1) fun t2 => x_let (σ 5 36 0 0 2) fun t3 => BX6_pushes_29 a1 a2 t1 t2 t3 x_FU 0 σ
set_option maxRecDepth 100000 in
set_option maxHeartbeats 4000000 in
theorem eX6_pushes {l : Launch} {w : xW} (hw : w.1.2 = true) {a1 : Int32} {a2 : Int32} {σ τ : xS} {r : Int32} (h : fX6_pushes a1 a2 σ = some (r, τ)) : xEV l w yX6_pushes mX6_pushes [.ref (w.2.2 5 30 0 0), .int a1, .int a2] σ (some (.int r)) τ := by
  rw [fX6_pushes] at h
  refine x_enter (by decide +kernel) rfl (Nat.le_of_ble_eq_true rfl) ?_
  refine x_sub (L1 := [(0, .ref (w.2.2 5 30 0 0)), (1, .int a1), (2, .int a2)]) [0, 1, 2] rfl ?_
  refine x_iload_n dX6_pushes_0 rfl 1 rfl ?_
  refine x_iconst (x := 3) dX6_pushes_1 rfl ?_
  refine x_idiv dX6_pushes_2 (by decide) ?_
  obtain ⟨t1, ht1, h⟩ := x_let_e h
  refine x_istore_n t1 ht1 dX6_pushes_3 rfl (Nat.le_of_ble_eq_true rfl) [(3, .int t1), (0, .ref (w.2.2 5 30 0 0)), (1, .int a1), (2, .int a2)] rfl ?_
  refine x_aload_n dX6_pushes_4 rfl 1 rfl ?_
  refine x_getR (d1 := 5) (K1 := 36) (p1 := 0) (r1 := 0) fl_X6_26 (ok_e30 hw) rfl dX6_pushes_5 ?_
  refine x_iconst (x := 1) dX6_pushes_8 rfl ?_
  refine x_iald 5 1 rfl rfl rfl rfl (ok_e36 hw) rfl dX6_pushes_9 ?_
  obtain ⟨t2, ht2, h⟩ := x_let_e h
  refine x_istore t2 ht2 dX6_pushes_10 (Nat.le_of_ble_eq_true rfl) [(4, .int t2), (3, .int t1), (0, .ref (w.2.2 5 30 0 0)), (1, .int a1), (2, .int a2)] rfl ?_
  refine x_aload_n dX6_pushes_12 rfl 2 rfl ?_
  refine x_getR (d1 := 5) (K1 := 36) (p1 := 0) (r1 := 0) fl_X6_26 (ok_e30 hw) rfl dX6_pushes_13 ?_
  refine x_iconst (x := 2) dX6_pushes_16 rfl ?_
  refine x_iald 5 2 rfl rfl rfl rfl (ok_e36 hw) rfl dX6_pushes_17 ?_
  obtain ⟨t3, ht3, h⟩ := x_let_e h
  refine x_istore t3 ht3 dX6_pushes_18 (Nat.le_of_ble_eq_true rfl) [(5, .int t3), (4, .int t2), (3, .int t1), (0, .ref (w.2.2 5 30 0 0)), (1, .int a1), (2, .int a2)] rfl ?_
  refine x_aload_n dX6_pushes_20 rfl 3 rfl ?_
  refine x_getR (d1 := 5) (K1 := 37) (p1 := 0) (r1 := 0) fl_X6_29 (ok_e30 hw) rfl dX6_pushes_21 ?_
  refine x_astore dX6_pushes_24 (Nat.le_of_ble_eq_true rfl) [(6, .ref (w.2.2 5 37 0 0)), (5, .int t3), (4, .int t2), (3, .int t1), (0, .ref (w.2.2 5 30 0 0)), (1, .int a1), (2, .int a2)] rfl ?_
  refine x_iconst (x := 0) dX6_pushes_26 rfl ?_
  refine x_istore 0 rfl dX6_pushes_27 (Nat.le_of_ble_eq_true rfl) [(7, .int 0), (6, .ref (w.2.2 5 37 0 0)), (5, .int t3), (4, .int t2), (3, .int t1), (0, .ref (w.2.2 5 30 0 0)), (1, .int a1), (2, .int a2)] rfl ?_
  refine x_sub (L1 := [(0, .ref (w.2.2 5 30 0 0)), (1, .int a1), (2, .int a2), (3, .int t1), (4, .int t2), (5, .int t3), (6, .ref (w.2.2 5 37 0 0)), (7, .int 0)]) [5, 6, 7, 4, 3, 2, 1, 0] rfl ?_
  exact TX6_pushes_29 hw _ _ _ h
def BX6_decides_93 (a1 : Int32) (a2 : Int32) (σ : xS) : Option (Int32 × xS) :=
  if (σ 5 31 0 0 2) = 0 then (x_let (x_set σ 5 36 0 0 4 6) fun s13 => some (0, s13)) else (x_b (fX6_pushes a1 a2 σ) fun z12 s12 => if z12 = 0 then (some (0, s12)) else (some (4, s12)))
set_option maxRecDepth 100000 in
set_option maxHeartbeats 4000000 in
theorem TX6_decides_93 {l : Launch} {w : xW} (hw : w.1.2 = true) {a1 : Int32} {a2 : Int32} {σ τ : xS} {r : Int32} (h : BX6_decides_93 a1 a2 σ = some (r, τ)) : xAt l w mX6_decides 93 [(0, .ref (w.2.2 5 30 0 0)), (1, .int a1), (2, .int a2)] [] σ (some (.int r)) τ := by
  rw [BX6_decides_93] at h
  refine x_aload_n dX6_decides_93 rfl 0 rfl ?_
  refine x_getR (d1 := 5) (K1 := 31) (p1 := 0) (r1 := 0) fl_X6_7 (ok_e30 hw) rfl dX6_decides_94 ?_
  refine x_iconst (x := 2) dX6_decides_97 rfl ?_
  refine x_iald 6464 2 rfl rfl rfl rfl (ok_e31 hw) rfl dX6_decides_98 ?_
  refine x_if_ne (tgt := 112) dX6_decides_99 rfl (fun hc => ?_) (fun hc => ?_)
  · have h := x_f hc h
    refine x_aload_n dX6_decides_112 rfl 0 rfl ?_
    refine x_iload_n dX6_decides_113 rfl 1 rfl ?_
    refine x_iload_n dX6_decides_114 rfl 2 rfl ?_
    obtain ⟨z12, s12, h12, h⟩ := x_b_e h
    refine x_callV (As := [.int a1, .int a2]) (st := []) (eX6_pushes hw  h12) cv_X6_119 (Nat.le_of_ble_eq_true rfl) (ok_e30 hw) rfl (Nat.le_of_ble_eq_true rfl) _ rfl dX6_decides_115 [.int z12] rfl ?_
    refine x_if_eq (tgt := 125) dX6_decides_118 rfl (fun hc => ?_) (fun hc => ?_)
    · have h := x_t hc h
      refine x_iconst (x := 0) dX6_decides_125 rfl ?_
      exact x_iretH rfl dX6_decides_126 h
    · have h := x_f hc h
      refine x_iconst (x := 4) dX6_decides_121 rfl ?_
      refine x_goto (tgt := 126) dX6_decides_122 rfl ?_
      exact x_iretH rfl dX6_decides_126 h
  · have h := x_t hc h
    refine x_aload_n dX6_decides_102 rfl 0 rfl ?_
    refine x_getR (d1 := 5) (K1 := 36) (p1 := 0) (r1 := 0) fl_X6_26 (ok_e30 hw) rfl dX6_decides_103 ?_
    refine x_iconst (x := 4) dX6_decides_106 rfl ?_
    refine x_bipush (x := 6) dX6_decides_107 rfl ?_
    obtain ⟨s13, hs13, h⟩ := x_let_e h
    refine x_iast 5 4 rfl s13 hs13 rfl rfl rfl (ok_e36 hw) rfl dX6_decides_109 ?_
    refine x_iconst (x := 0) dX6_decides_110 rfl ?_
    exact x_iretH rfl dX6_decides_111 h
def fX6_decides (a1 : Int32) (a2 : Int32) (σ : xS) : Option (Int32 × xS) :=
  x_b (fX6_early a1 a2 σ) fun z1 s1 => if z1 ≤ 0 then (x_let (a1 / 3) fun t2 => x_b (fX6_freeOf t2 s1) fun z3 s3 => x_b (fX6_least a2 z3 s3) fun z4 s4 => x_let (a2 - z4) fun t5 => x_b (fX6_queue a1 9 s4) fun z6 s6 => x_g (x_in z6 6464) (if (s6 5 31 0 0 z6.toNatClampNeg) = 0 then (x_let (x_set s6 5 36 0 0 3 4) fun s14 => BX6_decides_93 a1 a2 s14) else (x_b (fX6_port t2 1 s6) fun z8 s8 => x_g (x_in z8 6464) (x_b (fX6_sum t2 8 s8) fun z10 s10 => if t5 ≤ ((s8 5 31 0 0 z8.toNatClampNeg) - z10) then (some (3, s10)) else (x_let (x_set s10 5 36 0 0 3 5) fun s11 => BX6_decides_93 a1 a2 s11))))) else (some (z1, s1))
set_option maxRecDepth 100000 in
set_option maxHeartbeats 4000000 in
theorem eX6_decides {l : Launch} {w : xW} (hw : w.1.2 = true) {a1 : Int32} {a2 : Int32} {σ τ : xS} {r : Int32} (h : fX6_decides a1 a2 σ = some (r, τ)) : xEV l w yX6_decides mX6_decides [.ref (w.2.2 5 30 0 0), .int a1, .int a2] σ (some (.int r)) τ := by
  rw [fX6_decides] at h
  refine x_enter (by decide +kernel) rfl (Nat.le_of_ble_eq_true rfl) ?_
  refine x_sub (L1 := [(0, .ref (w.2.2 5 30 0 0)), (1, .int a1), (2, .int a2)]) [0, 1, 2] rfl ?_
  refine x_aload_n dX6_decides_0 rfl 0 rfl ?_
  refine x_iload_n dX6_decides_1 rfl 1 rfl ?_
  refine x_iload_n dX6_decides_2 rfl 2 rfl ?_
  obtain ⟨z1, s1, h1, h⟩ := x_b_e h
  refine x_callV (As := [.int a1, .int a2]) (st := []) (eX6_early hw  h1) cv_X6_116 (Nat.le_of_ble_eq_true rfl) (ok_e30 hw) rfl (Nat.le_of_ble_eq_true rfl) _ rfl dX6_decides_3 [.int z1] rfl ?_
  refine x_istore_n z1 rfl dX6_decides_6 rfl (Nat.le_of_ble_eq_true rfl) [(3, .int z1), (0, .ref (w.2.2 5 30 0 0)), (1, .int a1), (2, .int a2)] rfl ?_
  refine x_iload_n dX6_decides_7 rfl 0 rfl ?_
  refine x_if_le (tgt := 13) dX6_decides_8 rfl (fun hc => ?_) (fun hc => ?_)
  · have h := x_t hc h
    refine x_iload_n dX6_decides_13 rfl 2 rfl ?_
    refine x_iconst (x := 3) dX6_decides_14 rfl ?_
    refine x_idiv dX6_decides_15 (by decide) ?_
    obtain ⟨t2, ht2, h⟩ := x_let_e h
    refine x_istore t2 ht2 dX6_decides_16 (Nat.le_of_ble_eq_true rfl) [(4, .int t2), (3, .int z1), (0, .ref (w.2.2 5 30 0 0)), (1, .int a1), (2, .int a2)] rfl ?_
    refine x_iload_n dX6_decides_18 rfl 4 rfl ?_
    refine x_iload_n dX6_decides_19 rfl 4 rfl ?_
    refine x_aload_n dX6_decides_20 rfl 2 rfl ?_
    refine x_iload dX6_decides_21 0 rfl ?_
    obtain ⟨z3, s3, h3, h⟩ := x_b_e h
    refine x_callV (As := [.int t2]) (st := [.int a2, .int a2]) (eX6_freeOf hw  h3) cv_X6_65 (Nat.le_of_ble_eq_true rfl) (ok_e30 hw) rfl (Nat.le_of_ble_eq_true rfl) _ rfl dX6_decides_23 [.int z3, .int a2, .int a2] rfl ?_
    obtain ⟨z4, s4, h4, h⟩ := x_b_e h
    refine x_callS (As := [.int a2, .int z3]) (st := [.int a2]) (eX6_least hw  h4) cs_X6_68 (Nat.le_of_ble_eq_true rfl) rfl (Nat.le_of_ble_eq_true rfl) _ rfl dX6_decides_26 [.int z4, .int a2] rfl ?_
    refine x_isub dX6_decides_29 ?_
    obtain ⟨t5, ht5, h⟩ := x_let_e h
    refine x_istore t5 ht5 dX6_decides_30 (Nat.le_of_ble_eq_true rfl) [(5, .int t5), (4, .int t2), (3, .int z1), (0, .ref (w.2.2 5 30 0 0)), (1, .int a1), (2, .int a2)] rfl ?_
    refine x_aload_n dX6_decides_32 rfl 3 rfl ?_
    refine x_getR (d1 := 5) (K1 := 31) (p1 := 0) (r1 := 0) fl_X6_7 (ok_e30 hw) rfl dX6_decides_33 ?_
    refine x_iload_n dX6_decides_36 rfl 4 rfl ?_
    refine x_bipush (x := 9) dX6_decides_37 rfl ?_
    obtain ⟨z6, s6, h6, h⟩ := x_b_e h
    refine x_callS (As := [.int a1, .int 9]) (st := [.ref (w.2.2 5 31 0 0)]) (eX6_queue hw  h6) cs_X6_48 (Nat.le_of_ble_eq_true rfl) rfl (Nat.le_of_ble_eq_true rfl) _ rfl dX6_decides_39 [.int z6, .ref (w.2.2 5 31 0 0)] rfl ?_
    obtain ⟨hg7, h⟩ := x_g_e h
    refine x_iald 6464 z6.toNatClampNeg rfl rfl rfl rfl (ok_e31 hw) hg7 dX6_decides_42 ?_
    refine x_if_ne (tgt := 56) dX6_decides_43 rfl (fun hc => ?_) (fun hc => ?_)
    · have h := x_f hc h
      refine x_iload dX6_decides_56 0 rfl ?_
      refine x_aload_n dX6_decides_58 rfl 3 rfl ?_
      refine x_getR (d1 := 5) (K1 := 31) (p1 := 0) (r1 := 0) fl_X6_7 (ok_e30 hw) rfl dX6_decides_59 ?_
      refine x_iload dX6_decides_62 1 rfl ?_
      refine x_iconst (x := 1) dX6_decides_64 rfl ?_
      obtain ⟨z8, s8, h8, h⟩ := x_b_e h
      refine x_callS (As := [.int t2, .int 1]) (st := [.ref (w.2.2 5 31 0 0), .int t5]) (eX6_port hw  h8) cs_X6_44 (Nat.le_of_ble_eq_true rfl) rfl (Nat.le_of_ble_eq_true rfl) _ rfl dX6_decides_65 [.int z8, .ref (w.2.2 5 31 0 0), .int t5] rfl ?_
      obtain ⟨hg9, h⟩ := x_g_e h
      refine x_iald 6464 z8.toNatClampNeg rfl rfl rfl rfl (ok_e31 hw) hg9 dX6_decides_68 ?_
      refine x_aload_n dX6_decides_69 rfl 3 rfl ?_
      refine x_iload dX6_decides_70 1 rfl ?_
      refine x_bipush (x := 8) dX6_decides_72 rfl ?_
      obtain ⟨z10, s10, h10, h⟩ := x_b_e h
      refine x_callV (As := [.int t2, .int 8]) (st := [.int (s8 5 31 0 0 z8.toNatClampNeg), .int t5]) (eX6_sum hw  h10) cv_X6_59 (Nat.le_of_ble_eq_true rfl) (ok_e30 hw) rfl (Nat.le_of_ble_eq_true rfl) _ rfl dX6_decides_74 [.int z10, .int (s8 5 31 0 0 z8.toNatClampNeg), .int t5] rfl ?_
      refine x_isub dX6_decides_77 ?_
      refine x_icmp_le (tgt := 91) dX6_decides_78 rfl (fun hc => ?_) (fun hc => ?_)
      · have h := x_t hc h
        refine x_iconst (x := 3) dX6_decides_91 rfl ?_
        exact x_iretH rfl dX6_decides_92 h
      · have h := x_f hc h
        refine x_aload_n dX6_decides_81 rfl 3 rfl ?_
        refine x_getR (d1 := 5) (K1 := 36) (p1 := 0) (r1 := 0) fl_X6_26 (ok_e30 hw) rfl dX6_decides_82 ?_
        refine x_iconst (x := 3) dX6_decides_85 rfl ?_
        refine x_iconst (x := 5) dX6_decides_86 rfl ?_
        obtain ⟨s11, hs11, h⟩ := x_let_e h
        refine x_iast 5 3 rfl s11 hs11 rfl rfl rfl (ok_e36 hw) rfl dX6_decides_87 ?_
        refine x_goto (tgt := 93) dX6_decides_88 rfl ?_
        refine x_sub (L1 := [(0, .ref (w.2.2 5 30 0 0)), (1, .int a1), (2, .int a2)]) [3, 4, 5] rfl ?_
        exact TX6_decides_93 hw  h
    · have h := x_t hc h
      refine x_aload_n dX6_decides_46 rfl 3 rfl ?_
      refine x_getR (d1 := 5) (K1 := 36) (p1 := 0) (r1 := 0) fl_X6_26 (ok_e30 hw) rfl dX6_decides_47 ?_
      refine x_iconst (x := 3) dX6_decides_50 rfl ?_
      refine x_iconst (x := 4) dX6_decides_51 rfl ?_
      obtain ⟨s14, hs14, h⟩ := x_let_e h
      refine x_iast 5 3 rfl s14 hs14 rfl rfl rfl (ok_e36 hw) rfl dX6_decides_52 ?_
      refine x_goto (tgt := 93) dX6_decides_53 rfl ?_
      refine x_sub (L1 := [(0, .ref (w.2.2 5 30 0 0)), (1, .int a1), (2, .int a2)]) [3, 4, 5] rfl ?_
      exact TX6_decides_93 hw  h
  · have h := x_f hc h
    refine x_iload_n dX6_decides_11 rfl 0 rfl ?_
    exact x_iretH rfl dX6_decides_12 h
def BX6_counts_65 (a1 : Int32) (a3 : Int32) (a4 : Int32) (a5 : Int32) (σ : xS) : Option (Unit × xS) :=
  x_b (fX6_queue a1 6 σ) fun z4 s4 => x_g (x_in z4 6464) (x_g (x_in z4 6464) (x_let (x_set s4 5 31 0 0 z4.toNatClampNeg ((s4 5 31 0 0 z4.toNatClampNeg) + a4)) fun s7 => if a3 = 3 then (x_b (fX6_queue a1 8 s7) fun z12 s12 => x_g (x_in z12 6464) (x_g (x_in z12 6464) (x_let (x_set s12 5 31 0 0 z12.toNatClampNeg ((s12 5 31 0 0 z12.toNatClampNeg) + a5)) fun s15 => x_b (fX6_queue a1 11 s15) fun z16 s16 => x_g (x_in z16 6464) (x_b (fX6_queue a1 10 s16) fun z18 s18 => x_g (x_in z18 6464) (x_g (x_in z16 6464) (x_let (x_set s18 5 31 0 0 z16.toNatClampNeg ((s16 5 31 0 0 z16.toNatClampNeg) + (1 - (s18 5 31 0 0 z18.toNatClampNeg)))) fun s21 => x_b (fX6_queue a1 10 s21) fun z22 s22 => x_g (x_in z22 6464) (x_let (x_set s22 5 31 0 0 z22.toNatClampNeg 1) fun s24 => some ((), s24)))))))) else (x_b (fX6_queue a1 7 s7) fun z8 s8 => x_g (x_in z8 6464) (x_g (x_in z8 6464) (x_let (x_set s8 5 31 0 0 z8.toNatClampNeg ((s8 5 31 0 0 z8.toNatClampNeg) + a5)) fun s11 => some ((), s11))))))
set_option maxRecDepth 100000 in
set_option maxHeartbeats 4000000 in
theorem TX6_counts_65 {l : Launch} {w : xW} (hw : w.1.2 = true) {a1 : Int32} {a3 : Int32} {a4 : Int32} {a5 : Int32} {σ τ : xS} {r : Unit} (h : BX6_counts_65 a1 a3 a4 a5 σ = some (r, τ)) : xAt l w mX6_counts 65 [(0, .ref (w.2.2 5 30 0 0)), (1, .int a1), (3, .int a3), (4, .int a4), (5, .int a5)] [] σ none τ := by
  rw [BX6_counts_65] at h
  refine x_aload_n dX6_counts_65 rfl 0 rfl ?_
  refine x_getR (d1 := 5) (K1 := 31) (p1 := 0) (r1 := 0) fl_X6_7 (ok_e30 hw) rfl dX6_counts_66 ?_
  refine x_iload_n dX6_counts_69 rfl 1 rfl ?_
  refine x_bipush (x := 6) dX6_counts_70 rfl ?_
  obtain ⟨z4, s4, h4, h⟩ := x_b_e h
  refine x_callS (As := [.int a1, .int 6]) (st := [.ref (w.2.2 5 31 0 0)]) (eX6_queue hw  h4) cs_X6_48 (Nat.le_of_ble_eq_true rfl) rfl (Nat.le_of_ble_eq_true rfl) _ rfl dX6_counts_72 [.int z4, .ref (w.2.2 5 31 0 0)] rfl ?_
  refine x_dup2 dX6_counts_75 rfl rfl ?_
  obtain ⟨hg5, h⟩ := x_g_e h
  refine x_iald 6464 z4.toNatClampNeg rfl rfl rfl rfl (ok_e31 hw) hg5 dX6_counts_76 ?_
  refine x_iload dX6_counts_77 3 rfl ?_
  refine x_iadd dX6_counts_79 ?_
  obtain ⟨hg6, h⟩ := x_g_e h
  obtain ⟨s7, hs7, h⟩ := x_let_e h
  refine x_iast 6464 z4.toNatClampNeg rfl s7 hs7 rfl rfl rfl (ok_e31 hw) hg6 dX6_counts_80 ?_
  refine x_iload_n dX6_counts_81 rfl 2 rfl ?_
  refine x_iconst (x := 3) dX6_counts_82 rfl ?_
  refine x_icmp_ne (tgt := 144) dX6_counts_83 rfl (fun hc => ?_) (fun hc => ?_)
  · have h := x_f hc h
    refine x_aload_n dX6_counts_144 rfl 0 rfl ?_
    refine x_getR (d1 := 5) (K1 := 31) (p1 := 0) (r1 := 0) fl_X6_7 (ok_e30 hw) rfl dX6_counts_145 ?_
    refine x_iload_n dX6_counts_148 rfl 1 rfl ?_
    refine x_bipush (x := 7) dX6_counts_149 rfl ?_
    obtain ⟨z8, s8, h8, h⟩ := x_b_e h
    refine x_callS (As := [.int a1, .int 7]) (st := [.ref (w.2.2 5 31 0 0)]) (eX6_queue hw  h8) cs_X6_48 (Nat.le_of_ble_eq_true rfl) rfl (Nat.le_of_ble_eq_true rfl) _ rfl dX6_counts_151 [.int z8, .ref (w.2.2 5 31 0 0)] rfl ?_
    refine x_dup2 dX6_counts_154 rfl rfl ?_
    obtain ⟨hg9, h⟩ := x_g_e h
    refine x_iald 6464 z8.toNatClampNeg rfl rfl rfl rfl (ok_e31 hw) hg9 dX6_counts_155 ?_
    refine x_iload dX6_counts_156 4 rfl ?_
    refine x_iadd dX6_counts_158 ?_
    obtain ⟨hg10, h⟩ := x_g_e h
    obtain ⟨s11, hs11, h⟩ := x_let_e h
    refine x_iast 6464 z8.toNatClampNeg rfl s11 hs11 rfl rfl rfl (ok_e31 hw) hg10 dX6_counts_159 ?_
    exact x_vretH rfl dX6_counts_160 h
  · have h := x_t hc h
    refine x_aload_n dX6_counts_86 rfl 0 rfl ?_
    refine x_getR (d1 := 5) (K1 := 31) (p1 := 0) (r1 := 0) fl_X6_7 (ok_e30 hw) rfl dX6_counts_87 ?_
    refine x_iload_n dX6_counts_90 rfl 1 rfl ?_
    refine x_bipush (x := 8) dX6_counts_91 rfl ?_
    obtain ⟨z12, s12, h12, h⟩ := x_b_e h
    refine x_callS (As := [.int a1, .int 8]) (st := [.ref (w.2.2 5 31 0 0)]) (eX6_queue hw  h12) cs_X6_48 (Nat.le_of_ble_eq_true rfl) rfl (Nat.le_of_ble_eq_true rfl) _ rfl dX6_counts_93 [.int z12, .ref (w.2.2 5 31 0 0)] rfl ?_
    refine x_dup2 dX6_counts_96 rfl rfl ?_
    obtain ⟨hg13, h⟩ := x_g_e h
    refine x_iald 6464 z12.toNatClampNeg rfl rfl rfl rfl (ok_e31 hw) hg13 dX6_counts_97 ?_
    refine x_iload dX6_counts_98 4 rfl ?_
    refine x_iadd dX6_counts_100 ?_
    obtain ⟨hg14, h⟩ := x_g_e h
    obtain ⟨s15, hs15, h⟩ := x_let_e h
    refine x_iast 6464 z12.toNatClampNeg rfl s15 hs15 rfl rfl rfl (ok_e31 hw) hg14 dX6_counts_101 ?_
    refine x_aload_n dX6_counts_102 rfl 0 rfl ?_
    refine x_getR (d1 := 5) (K1 := 31) (p1 := 0) (r1 := 0) fl_X6_7 (ok_e30 hw) rfl dX6_counts_103 ?_
    refine x_iload_n dX6_counts_106 rfl 1 rfl ?_
    refine x_bipush (x := 11) dX6_counts_107 rfl ?_
    obtain ⟨z16, s16, h16, h⟩ := x_b_e h
    refine x_callS (As := [.int a1, .int 11]) (st := [.ref (w.2.2 5 31 0 0)]) (eX6_queue hw  h16) cs_X6_48 (Nat.le_of_ble_eq_true rfl) rfl (Nat.le_of_ble_eq_true rfl) _ rfl dX6_counts_109 [.int z16, .ref (w.2.2 5 31 0 0)] rfl ?_
    refine x_dup2 dX6_counts_112 rfl rfl ?_
    obtain ⟨hg17, h⟩ := x_g_e h
    refine x_iald 6464 z16.toNatClampNeg rfl rfl rfl rfl (ok_e31 hw) hg17 dX6_counts_113 ?_
    refine x_iconst (x := 1) dX6_counts_114 rfl ?_
    refine x_aload_n dX6_counts_115 rfl 0 rfl ?_
    refine x_getR (d1 := 5) (K1 := 31) (p1 := 0) (r1 := 0) fl_X6_7 (ok_e30 hw) rfl dX6_counts_116 ?_
    refine x_iload_n dX6_counts_119 rfl 1 rfl ?_
    refine x_bipush (x := 10) dX6_counts_120 rfl ?_
    obtain ⟨z18, s18, h18, h⟩ := x_b_e h
    refine x_callS (As := [.int a1, .int 10]) (st := [.ref (w.2.2 5 31 0 0), .int 1, .int (s16 5 31 0 0 z16.toNatClampNeg), .int z16, .ref (w.2.2 5 31 0 0)]) (eX6_queue hw  h18) cs_X6_48 (Nat.le_of_ble_eq_true rfl) rfl (Nat.le_of_ble_eq_true rfl) _ rfl dX6_counts_122 [.int z18, .ref (w.2.2 5 31 0 0), .int 1, .int (s16 5 31 0 0 z16.toNatClampNeg), .int z16, .ref (w.2.2 5 31 0 0)] rfl ?_
    obtain ⟨hg19, h⟩ := x_g_e h
    refine x_iald 6464 z18.toNatClampNeg rfl rfl rfl rfl (ok_e31 hw) hg19 dX6_counts_125 ?_
    refine x_isub dX6_counts_126 ?_
    refine x_iadd dX6_counts_127 ?_
    obtain ⟨hg20, h⟩ := x_g_e h
    obtain ⟨s21, hs21, h⟩ := x_let_e h
    refine x_iast 6464 z16.toNatClampNeg rfl s21 hs21 rfl rfl rfl (ok_e31 hw) hg20 dX6_counts_128 ?_
    refine x_aload_n dX6_counts_129 rfl 0 rfl ?_
    refine x_getR (d1 := 5) (K1 := 31) (p1 := 0) (r1 := 0) fl_X6_7 (ok_e30 hw) rfl dX6_counts_130 ?_
    refine x_iload_n dX6_counts_133 rfl 1 rfl ?_
    refine x_bipush (x := 10) dX6_counts_134 rfl ?_
    obtain ⟨z22, s22, h22, h⟩ := x_b_e h
    refine x_callS (As := [.int a1, .int 10]) (st := [.ref (w.2.2 5 31 0 0)]) (eX6_queue hw  h22) cs_X6_48 (Nat.le_of_ble_eq_true rfl) rfl (Nat.le_of_ble_eq_true rfl) _ rfl dX6_counts_136 [.int z22, .ref (w.2.2 5 31 0 0)] rfl ?_
    refine x_iconst (x := 1) dX6_counts_139 rfl ?_
    obtain ⟨hg23, h⟩ := x_g_e h
    obtain ⟨s24, hs24, h⟩ := x_let_e h
    refine x_iast 6464 z22.toNatClampNeg rfl s24 hs24 rfl rfl rfl (ok_e31 hw) hg23 dX6_counts_140 ?_
    refine x_goto (tgt := 160) dX6_counts_141 rfl ?_
    exact x_vretH rfl dX6_counts_160 h
def fX6_counts (a1 : Int32) (a2 : Int32) (a3 : Int32) (σ : xS) : Option (Unit × xS) :=
  x_b (fX6_freeOf (a1 / 3) σ) fun z1 s1 => x_b (fX6_least a2 z1 s1) fun z2 s2 => x_let (a2 - z2) fun t3 => if a3 = 2 then (x_b (fX6_queue a1 7 s2) fun z25 s25 => x_g (x_in z25 6464) (x_b (fX6_limit a1 s25) fun z27 s27 => x_let (((s25 5 31 0 0 z25.toNatClampNeg) + t3) - z27) fun t28 => x_b (fX6_queue a1 3 s27) fun z29 s29 => x_g (x_in z29 6464) (x_b (fX6_most 0 t28 s29) fun z31 s31 => x_g (x_in z29 6464) (x_let (x_set s31 5 31 0 0 z29.toNatClampNeg ((s29 5 31 0 0 z29.toNatClampNeg) - z31)) fun s33 => BX6_counts_65 a1 a3 z2 t3 s33)))) else (BX6_counts_65 a1 a3 z2 t3 s2)
set_option maxRecDepth 100000 in
set_option maxHeartbeats 4000000 in
theorem eX6_counts {l : Launch} {w : xW} (hw : w.1.2 = true) {a1 : Int32} {a2 : Int32} {a3 : Int32} {σ τ : xS} {r : Unit} (h : fX6_counts a1 a2 a3 σ = some (r, τ)) : xEV l w yX6_counts mX6_counts [.ref (w.2.2 5 30 0 0), .int a1, .int a2, .int a3] σ none τ := by
  rw [fX6_counts] at h
  refine x_enter (by decide +kernel) rfl (Nat.le_of_ble_eq_true rfl) ?_
  refine x_sub (L1 := [(0, .ref (w.2.2 5 30 0 0)), (1, .int a1), (2, .int a2), (3, .int a3)]) [0, 1, 2, 3] rfl ?_
  refine x_iload_n dX6_counts_0 rfl 2 rfl ?_
  refine x_aload_n dX6_counts_1 rfl 0 rfl ?_
  refine x_iload_n dX6_counts_2 rfl 1 rfl ?_
  refine x_iconst (x := 3) dX6_counts_3 rfl ?_
  refine x_idiv dX6_counts_4 (by decide) ?_
  obtain ⟨z1, s1, h1, h⟩ := x_b_e h
  refine x_callV (As := [.int (a1 / 3)]) (st := [.int a2]) (eX6_freeOf hw  h1) cv_X6_65 (Nat.le_of_ble_eq_true rfl) (ok_e30 hw) rfl (Nat.le_of_ble_eq_true rfl) _ rfl dX6_counts_5 [.int z1, .int a2] rfl ?_
  obtain ⟨z2, s2, h2, h⟩ := x_b_e h
  refine x_callS (As := [.int a2, .int z1]) (st := []) (eX6_least hw  h2) cs_X6_68 (Nat.le_of_ble_eq_true rfl) rfl (Nat.le_of_ble_eq_true rfl) _ rfl dX6_counts_8 [.int z2] rfl ?_
  refine x_istore z2 rfl dX6_counts_11 (Nat.le_of_ble_eq_true rfl) [(4, .int z2), (0, .ref (w.2.2 5 30 0 0)), (1, .int a1), (2, .int a2), (3, .int a3)] rfl ?_
  refine x_iload_n dX6_counts_13 rfl 3 rfl ?_
  refine x_iload dX6_counts_14 0 rfl ?_
  refine x_isub dX6_counts_16 ?_
  obtain ⟨t3, ht3, h⟩ := x_let_e h
  refine x_istore t3 ht3 dX6_counts_17 (Nat.le_of_ble_eq_true rfl) [(5, .int t3), (4, .int z2), (0, .ref (w.2.2 5 30 0 0)), (1, .int a1), (2, .int a2), (3, .int a3)] rfl ?_
  refine x_iload_n dX6_counts_19 rfl 5 rfl ?_
  refine x_iconst (x := 2) dX6_counts_20 rfl ?_
  refine x_icmp_ne (tgt := 65) dX6_counts_21 rfl (fun hc => ?_) (fun hc => ?_)
  · have h := x_f hc h
    refine x_sub (L1 := [(0, .ref (w.2.2 5 30 0 0)), (1, .int a1), (3, .int a3), (4, .int z2), (5, .int t3)]) [2, 3, 5, 1, 0] rfl ?_
    exact TX6_counts_65 hw  h
  · have h := x_t hc h
    refine x_aload_n dX6_counts_24 rfl 2 rfl ?_
    refine x_getR (d1 := 5) (K1 := 31) (p1 := 0) (r1 := 0) fl_X6_7 (ok_e30 hw) rfl dX6_counts_25 ?_
    refine x_iload_n dX6_counts_28 rfl 3 rfl ?_
    refine x_bipush (x := 7) dX6_counts_29 rfl ?_
    obtain ⟨z25, s25, h25, h⟩ := x_b_e h
    refine x_callS (As := [.int a1, .int 7]) (st := [.ref (w.2.2 5 31 0 0)]) (eX6_queue hw  h25) cs_X6_48 (Nat.le_of_ble_eq_true rfl) rfl (Nat.le_of_ble_eq_true rfl) _ rfl dX6_counts_31 [.int z25, .ref (w.2.2 5 31 0 0)] rfl ?_
    obtain ⟨hg26, h⟩ := x_g_e h
    refine x_iald 6464 z25.toNatClampNeg rfl rfl rfl rfl (ok_e31 hw) hg26 dX6_counts_34 ?_
    refine x_iload dX6_counts_35 0 rfl ?_
    refine x_iadd dX6_counts_37 ?_
    refine x_aload_n dX6_counts_38 rfl 2 rfl ?_
    refine x_iload_n dX6_counts_39 rfl 3 rfl ?_
    obtain ⟨z27, s27, h27, h⟩ := x_b_e h
    refine x_callV (As := [.int a1]) (st := [.int ((s25 5 31 0 0 z25.toNatClampNeg) + t3)]) (eX6_limit hw  h27) cv_X6_113 (Nat.le_of_ble_eq_true rfl) (ok_e30 hw) rfl (Nat.le_of_ble_eq_true rfl) _ rfl dX6_counts_40 [.int z27, .int ((s25 5 31 0 0 z25.toNatClampNeg) + t3)] rfl ?_
    refine x_isub dX6_counts_43 ?_
    obtain ⟨t28, ht28, h⟩ := x_let_e h
    refine x_istore t28 ht28 dX6_counts_44 (Nat.le_of_ble_eq_true rfl) [(6, .int t28), (5, .int t3), (4, .int z2), (0, .ref (w.2.2 5 30 0 0)), (1, .int a1), (2, .int a2), (3, .int a3)] rfl ?_
    refine x_aload_n dX6_counts_46 rfl 3 rfl ?_
    refine x_getR (d1 := 5) (K1 := 31) (p1 := 0) (r1 := 0) fl_X6_7 (ok_e30 hw) rfl dX6_counts_47 ?_
    refine x_iload_n dX6_counts_50 rfl 4 rfl ?_
    refine x_iconst (x := 3) dX6_counts_51 rfl ?_
    obtain ⟨z29, s29, h29, h⟩ := x_b_e h
    refine x_callS (As := [.int a1, .int 3]) (st := [.ref (w.2.2 5 31 0 0)]) (eX6_queue hw  h29) cs_X6_48 (Nat.le_of_ble_eq_true rfl) rfl (Nat.le_of_ble_eq_true rfl) _ rfl dX6_counts_52 [.int z29, .ref (w.2.2 5 31 0 0)] rfl ?_
    refine x_dup2 dX6_counts_55 rfl rfl ?_
    obtain ⟨hg30, h⟩ := x_g_e h
    refine x_iald 6464 z29.toNatClampNeg rfl rfl rfl rfl (ok_e31 hw) hg30 dX6_counts_56 ?_
    refine x_iconst (x := 0) dX6_counts_57 rfl ?_
    refine x_iload dX6_counts_58 0 rfl ?_
    obtain ⟨z31, s31, h31, h⟩ := x_b_e h
    refine x_callS (As := [.int 0, .int t28]) (st := [.int (s29 5 31 0 0 z29.toNatClampNeg), .int z29, .ref (w.2.2 5 31 0 0)]) (eX6_most hw  h31) cs_X6_129 (Nat.le_of_ble_eq_true rfl) rfl (Nat.le_of_ble_eq_true rfl) _ rfl dX6_counts_60 [.int z31, .int (s29 5 31 0 0 z29.toNatClampNeg), .int z29, .ref (w.2.2 5 31 0 0)] rfl ?_
    refine x_isub dX6_counts_63 ?_
    obtain ⟨hg32, h⟩ := x_g_e h
    obtain ⟨s33, hs33, h⟩ := x_let_e h
    refine x_iast 6464 z29.toNatClampNeg rfl s33 hs33 rfl rfl rfl (ok_e31 hw) hg32 dX6_counts_64 ?_
    refine x_sub (L1 := [(0, .ref (w.2.2 5 30 0 0)), (1, .int a1), (3, .int a3), (4, .int z2), (5, .int t3)]) [3, 4, 6, 2, 1] rfl ?_
    exact TX6_counts_65 hw  h
