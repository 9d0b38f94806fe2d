def fX6_flush (a1 : Int32) (σ : xS) : Option (Int32 × xS) :=
  x_b (fX6_isPort a1 σ) fun z1 s1 => if z1 = 0 then (some ((-1), s1)) else (x_b (fX6_flushes a1 s1) fun z2 s2 => some (z2, s2))
set_option maxRecDepth 100000 in
set_option maxHeartbeats 4000000 in
theorem eX6_flush {l : Launch} {w : xW} (hw : w.1.2 = true) {a1 : Int32} {σ τ : xS} {r : Int32} (h : fX6_flush a1 σ = some (r, τ)) : xEV l w yX6_flush mX6_flush [.ref (w.2.2 5 30 0 0), .int a1] σ (some (.int r)) τ := by
  rw [fX6_flush] at h
  refine x_enter (by decide +kernel) rfl (Nat.le_of_ble_eq_true rfl) ?_
  refine x_sub (L1 := [(0, .ref (w.2.2 5 30 0 0)), (1, .int a1)]) [0, 1] rfl ?_
  refine x_aload_n dX6_flush_0 rfl 0 rfl ?_
  refine x_iload_n dX6_flush_1 rfl 1 rfl ?_
  obtain ⟨z1, s1, h1, h⟩ := x_b_e h
  refine x_callV (As := [.int a1]) (st := []) (eX6_isPort hw  h1) cv_X6_40 (Nat.le_of_ble_eq_true rfl) (ok_e30 hw) rfl (Nat.le_of_ble_eq_true rfl) _ rfl dX6_flush_2 [.int z1] rfl ?_
  refine x_if_eq (tgt := 16) dX6_flush_5 rfl (fun hc => ?_) (fun hc => ?_)
  · have h := x_t hc h
    refine x_iconst (x := (-1)) dX6_flush_16 (by decide) ?_
    exact x_iretH rfl dX6_flush_17 h
  · have h := x_f hc h
    refine x_aload_n dX6_flush_8 rfl 0 rfl ?_
    refine x_iload_n dX6_flush_9 rfl 1 rfl ?_
    obtain ⟨z2, s2, h2, h⟩ := x_b_e h
    refine x_callV (As := [.int a1]) (st := []) (eX6_flushes hw  h2) cv_X6_172 (Nat.le_of_ble_eq_true rfl) (ok_e30 hw) rfl (Nat.le_of_ble_eq_true rfl) _ rfl dX6_flush_10 [.int z2] rfl ?_
    refine x_goto (tgt := 17) dX6_flush_13 rfl ?_
    exact x_iretH rfl dX6_flush_17 h
def BX6_traffic_45 (a2 : Int32) (a3 : Int32) (a7 : Int32) (k36 : Int64 → Int32 → Int32 → xS → Option (Int32 × xS)) : Nat → Int64 → Int32 → Int32 → xS → Option (Int32 × xS)
  | 0, _, _, _, _ => none
  | n + 1, g4, a6, a8, σ => if a3 ≤ a8 then (x_b (fX6_tick  σ) fun z4 s4 => x_let (a7 + 1) fun t5 => k36 g4 a6 t5 s4) else (x_let (((g4 * 1103515245) + 12345) - ((g4 * 1103515245) + 12345) / 2147483648 * 2147483648) fun t6 => x_let ((t6 / 65536).toInt32) fun t7 => if (σ 5 31 0 0 1) = 0 then none else x_let ((3 * (t7 - t7 / (σ 5 31 0 0 1) * (σ 5 31 0 0 1))) + ((t7 / 8) - (t7 / 8) / 3 * 3)) fun t9 => x_b (fX6_arrives t9 (((t7 / 32) - (t7 / 32) / 12 * 12) + 1) σ) fun z10 s10 => if z10 = (-6) then (x_let (a6 + 1) fun t13 => x_let (a8 + 1) fun t14 => (BX6_traffic_45 a2 a3 a7 k36 n) t6 t13 t14 s10) else (x_let (a6 + 0) fun t11 => x_let (a8 + 1) fun t12 => (BX6_traffic_45 a2 a3 a7 k36 n) t6 t11 t12 s10))
set_option maxRecDepth 100000 in
set_option maxHeartbeats 4000000 in
theorem TX6_traffic_45 {l : Launch} {w : xW} (hw : w.1.2 = true) {a2 : Int32} {a3 : Int32} {a7 : Int32} {k36 : Int64 → Int32 → Int32 → xS → Option (Int32 × xS)} {τ : xS} {r : Int32} (hk36 : ∀ (g4 : Int64) (a6 : Int32) (a7 : Int32) (σ1 : xS), k36 g4 a6 a7 σ1 = some (r, τ) → xAt l w mX6_traffic 36 [(0, .ref (w.2.2 5 30 0 0)), (2, .int a2), (3, .int a3), (4, .long g4), (6, .int a6), (7, .int a7)] [] σ1 (some (.int r)) τ) : ∀ (n : Nat) (g4 : Int64) (a6 : Int32) (a8 : Int32) (σ : xS), BX6_traffic_45 a2 a3 a7 k36 n g4 a6 a8 σ = some (r, τ) → xAt l w mX6_traffic 45 [(0, .ref (w.2.2 5 30 0 0)), (2, .int a2), (3, .int a3), (4, .long g4), (6, .int a6), (7, .int a7), (8, .int a8)] [] σ (some (.int r)) τ := by
  intro n
  induction n with
  | zero => intro g4 a6 a8 σ h; cases h
  | succ n ih =>
    intro g4 a6 a8 σ h
    rw [BX6_traffic_45] at h
    refine x_iload dX6_traffic_45 6 rfl ?_
    refine x_iload_n dX6_traffic_47 rfl 2 rfl ?_
    refine x_icmp_ge (tgt := 134) dX6_traffic_48 rfl (fun hc => ?_) (fun hc => ?_)
    · have h := x_t hc h
      refine x_aload_n dX6_traffic_134 rfl 0 rfl ?_
      obtain ⟨z4, s4, h4, h⟩ := x_b_e h
      refine x_callV (As := []) (st := []) (eX6_tick hw  h4) cv_X6_166 (Nat.le_of_ble_eq_true rfl) (ok_e30 hw) rfl (Nat.le_of_ble_eq_true rfl) _ rfl dX6_traffic_135 [.int z4] rfl ?_
      refine x_pop dX6_traffic_138 rfl ?_
      obtain ⟨t5, ht5, h⟩ := x_let_e h
      refine x_iinc t5 1 rfl ht5 dX6_traffic_139 5 rfl (Nat.le_of_ble_eq_true rfl) [(7, .int t5), (0, .ref (w.2.2 5 30 0 0)), (2, .int a2), (3, .int a3), (4, .long g4), (6, .int a6), (8, .int a8)] rfl ?_
      refine x_goto (tgt := 36) dX6_traffic_142 rfl ?_
      refine x_sub (L1 := [(0, .ref (w.2.2 5 30 0 0)), (2, .int a2), (3, .int a3), (4, .long g4), (6, .int a6), (7, .int t5)]) [1, 2, 3, 4, 5, 0] rfl ?_
      exact hk36 _ _ _ _ h
    · have h := x_f hc h
      refine x_lload dX6_traffic_51 3 rfl ?_
      refine x_ldc2 (x := 1103515245) dX6_traffic_53 tk_X6_175 ?_
      refine x_lmul dX6_traffic_56 ?_
      refine x_ldc2 (x := 12345) dX6_traffic_57 tk_X6_177 ?_
      refine x_ladd dX6_traffic_60 ?_
      refine x_ldc2 (x := 2147483648) dX6_traffic_61 tk_X6_179 ?_
      refine x_lrem dX6_traffic_64 (by decide) ?_
      obtain ⟨t6, ht6, h⟩ := x_let_e h
      refine x_lstore t6 ht6 dX6_traffic_65 (Nat.le_of_ble_eq_true rfl) [(4, .long t6), (0, .ref (w.2.2 5 30 0 0)), (2, .int a2), (3, .int a3), (6, .int a6), (7, .int a7), (8, .int a8)] rfl ?_
      refine x_lload dX6_traffic_67 0 rfl ?_
      refine x_ldc2 (x := 65536) dX6_traffic_69 tk_X6_181 ?_
      refine x_ldiv dX6_traffic_72 (by decide) ?_
      refine x_l2i dX6_traffic_73 ?_
      obtain ⟨t7, ht7, h⟩ := x_let_e h
      refine x_istore t7 ht7 dX6_traffic_74 (Nat.le_of_ble_eq_true rfl) [(9, .int t7), (4, .long t6), (0, .ref (w.2.2 5 30 0 0)), (2, .int a2), (3, .int a3), (6, .int a6), (7, .int a7), (8, .int a8)] rfl ?_
      refine x_iconst (x := 3) dX6_traffic_76 rfl ?_
      refine x_iload dX6_traffic_77 0 rfl ?_
      refine x_aload_n dX6_traffic_79 rfl 2 rfl ?_
      refine x_getR (d1 := 5) (K1 := 31) (p1 := 0) (r1 := 0) fl_X6_7 (ok_e30 hw) rfl dX6_traffic_80 ?_
      refine x_iconst (x := 1) dX6_traffic_83 rfl ?_
      refine x_iald 6464 1 rfl rfl rfl rfl (ok_e31 hw) rfl dX6_traffic_84 ?_
      obtain ⟨hg8, h⟩ := x_nz_e h
      refine x_irem dX6_traffic_85 hg8 ?_
      refine x_imul dX6_traffic_86 ?_
      refine x_iload dX6_traffic_87 0 rfl ?_
      refine x_bipush (x := 8) dX6_traffic_89 rfl ?_
      refine x_idiv dX6_traffic_91 (by decide) ?_
      refine x_iconst (x := 3) dX6_traffic_92 rfl ?_
      refine x_irem dX6_traffic_93 (by decide) ?_
      refine x_iadd dX6_traffic_94 ?_
      obtain ⟨t9, ht9, h⟩ := x_let_e h
      refine x_istore t9 ht9 dX6_traffic_95 (Nat.le_of_ble_eq_true rfl) [(10, .int t9), (9, .int t7), (4, .long t6), (0, .ref (w.2.2 5 30 0 0)), (2, .int a2), (3, .int a3), (6, .int a6), (7, .int a7), (8, .int a8)] rfl ?_
      refine x_iload dX6_traffic_97 6 rfl ?_
      refine x_aload_n dX6_traffic_99 rfl 3 rfl ?_
      refine x_iload dX6_traffic_100 0 rfl ?_
      refine x_iload dX6_traffic_102 1 rfl ?_
      refine x_bipush (x := 32) dX6_traffic_104 rfl ?_
      refine x_idiv dX6_traffic_106 (by decide) ?_
      refine x_bipush (x := 12) dX6_traffic_107 rfl ?_
      refine x_irem dX6_traffic_109 (by decide) ?_
      refine x_iconst (x := 1) dX6_traffic_110 rfl ?_
      refine x_iadd dX6_traffic_111 ?_
      obtain ⟨z10, s10, h10, h⟩ := x_b_e h
      refine x_callV (As := [.int t9, .int (((t7 / 32) - (t7 / 32) / 12 * 12) + 1)]) (st := [.int a6]) (eX6_arrives hw  h10) cv_X6_154 (Nat.le_of_ble_eq_true rfl) (ok_e30 hw) rfl (Nat.le_of_ble_eq_true rfl) _ rfl dX6_traffic_112 [.int z10, .int a6] rfl ?_
      refine x_bipush (x := (-6)) dX6_traffic_115 (by decide) ?_
      refine x_icmp_ne (tgt := 124) dX6_traffic_117 rfl (fun hc => ?_) (fun hc => ?_)
      · have h := x_f hc h
        refine x_iconst (x := 0) dX6_traffic_124 rfl ?_
        refine x_iadd dX6_traffic_125 ?_
        obtain ⟨t11, ht11, h⟩ := x_let_e h
        refine x_istore t11 ht11 dX6_traffic_126 (Nat.le_of_ble_eq_true rfl) [(6, .int t11), (10, .int t9), (9, .int t7), (4, .long t6), (0, .ref (w.2.2 5 30 0 0)), (2, .int a2), (3, .int a3), (7, .int a7), (8, .int a8)] rfl ?_
        obtain ⟨t12, ht12, h⟩ := x_let_e h
        refine x_iinc t12 1 rfl ht12 dX6_traffic_128 8 rfl (Nat.le_of_ble_eq_true rfl) [(8, .int t12), (6, .int t11), (10, .int t9), (9, .int t7), (4, .long t6), (0, .ref (w.2.2 5 30 0 0)), (2, .int a2), (3, .int a3), (7, .int a7)] rfl ?_
        refine x_goto (tgt := 45) dX6_traffic_131 rfl ?_
        refine x_sub (L1 := [(0, .ref (w.2.2 5 30 0 0)), (2, .int a2), (3, .int a3), (4, .long t6), (6, .int t11), (7, .int a7), (8, .int t12)]) [5, 6, 7, 4, 1, 8, 0] rfl ?_
        exact ih _ _ _ _ h
      · have h := x_t hc h
        refine x_iconst (x := 1) dX6_traffic_120 rfl ?_
        refine x_goto (tgt := 125) dX6_traffic_121 rfl ?_
        refine x_iadd dX6_traffic_125 ?_
        obtain ⟨t13, ht13, h⟩ := x_let_e h
        refine x_istore t13 ht13 dX6_traffic_126 (Nat.le_of_ble_eq_true rfl) [(6, .int t13), (10, .int t9), (9, .int t7), (4, .long t6), (0, .ref (w.2.2 5 30 0 0)), (2, .int a2), (3, .int a3), (7, .int a7), (8, .int a8)] rfl ?_
        obtain ⟨t14, ht14, h⟩ := x_let_e h
        refine x_iinc t14 1 rfl ht14 dX6_traffic_128 8 rfl (Nat.le_of_ble_eq_true rfl) [(8, .int t14), (6, .int t13), (10, .int t9), (9, .int t7), (4, .long t6), (0, .ref (w.2.2 5 30 0 0)), (2, .int a2), (3, .int a3), (7, .int a7)] rfl ?_
        refine x_goto (tgt := 45) dX6_traffic_131 rfl ?_
        refine x_sub (L1 := [(0, .ref (w.2.2 5 30 0 0)), (2, .int a2), (3, .int a3), (4, .long t6), (6, .int t13), (7, .int a7), (8, .int t14)]) [5, 6, 7, 4, 1, 8, 0] rfl ?_
        exact ih _ _ _ _ h
def BX6_traffic_36 (a2 : Int32) (a3 : Int32) : Nat → Int64 → Int32 → Int32 → xS → Option (Int32 × xS)
  | 0, _, _, _, _ => none
  | n + 1, g4, a6, a7, σ => if a2 ≤ a7 then (some (a6, σ)) else (BX6_traffic_45 a2 a3 a7 (BX6_traffic_36 a2 a3 n) x_FU g4 a6 0 σ)
set_option maxRecDepth 100000 in
set_option maxHeartbeats 4000000 in
theorem TX6_traffic_36 {l : Launch} {w : xW} (hw : w.1.2 = true) {a2 : Int32} {a3 : Int32} {τ : xS} {r : Int32} : ∀ (n : Nat) (g4 : Int64) (a6 : Int32) (a7 : Int32) (σ : xS), BX6_traffic_36 a2 a3 n g4 a6 a7 σ = some (r, τ) → xAt l w mX6_traffic 36 [(0, .ref (w.2.2 5 30 0 0)), (2, .int a2), (3, .int a3), (4, .long g4), (6, .int a6), (7, .int a7)] [] σ (some (.int r)) τ := by
  intro n
  induction n with
  | zero => intro g4 a6 a7 σ h; cases h
  | succ n ih =>
    intro g4 a6 a7 σ h
    rw [BX6_traffic_36] at h
    refine x_iload dX6_traffic_36 5 rfl ?_
    refine x_iload_n dX6_traffic_38 rfl 1 rfl ?_
    refine x_icmp_ge (tgt := 145) dX6_traffic_39 rfl (fun hc => ?_) (fun hc => ?_)
    · have h := x_t hc h
      refine x_iload dX6_traffic_145 4 rfl ?_
      exact x_iretH rfl dX6_traffic_147 h
    · have h := x_f hc h
      refine x_iconst (x := 0) dX6_traffic_42 rfl ?_
      refine x_istore 0 rfl dX6_traffic_43 (Nat.le_of_ble_eq_true rfl) [(8, .int 0), (0, .ref (w.2.2 5 30 0 0)), (2, .int a2), (3, .int a3), (4, .long g4), (6, .int a6), (7, .int a7)] rfl ?_
      refine x_sub (L1 := [(0, .ref (w.2.2 5 30 0 0)), (2, .int a2), (3, .int a3), (4, .long g4), (6, .int a6), (7, .int a7), (8, .int 0)]) [1, 2, 3, 4, 5, 6, 0] rfl ?_
      exact TX6_traffic_45 hw ih _ _ _ _ _ h
def fX6_traffic (a1 : Int32) (a2 : Int32) (a3 : Int32) (σ : xS) : Option (Int32 × xS) :=
  if a1 < 0 then (some ((-2), σ)) else (x_b (fX6_in a2 1 16 σ) fun z1 s1 => if z1 = 0 then (some ((-2), s1)) else (x_b (fX6_in a3 1 3 s1) fun z2 s2 => if z2 = 0 then (some ((-2), s2)) else (x_let a1.toInt64 fun t3 => BX6_traffic_36 a2 a3 x_FU t3 0 0 s2)))
set_option maxRecDepth 100000 in
set_option maxHeartbeats 4000000 in
theorem eX6_traffic {l : Launch} {w : xW} (hw : w.1.2 = true) {a1 : Int32} {a2 : Int32} {a3 : Int32} {σ τ : xS} {r : Int32} (h : fX6_traffic a1 a2 a3 σ = some (r, τ)) : xEV l w yX6_traffic mX6_traffic [.ref (w.2.2 5 30 0 0), .int a1, .int a2, .int a3] σ (some (.int r)) τ := by
  rw [fX6_traffic] at h
  refine x_enter (by decide +kernel) rfl (Nat.le_of_ble_eq_true rfl) ?_
  refine x_sub (L1 := [(0, .ref (w.2.2 5 30 0 0)), (1, .int a1), (2, .int a2), (3, .int a3)]) [0, 1, 2, 3] rfl ?_
  refine x_iload_n dX6_traffic_0 rfl 1 rfl ?_
  refine x_if_lt (tgt := 23) dX6_traffic_1 rfl (fun hc => ?_) (fun hc => ?_)
  · have h := x_t hc h
    refine x_bipush (x := (-2)) dX6_traffic_23 (by decide) ?_
    exact x_iretH rfl dX6_traffic_25 h
  · have h := x_f hc h
    refine x_iload_n dX6_traffic_4 rfl 2 rfl ?_
    refine x_iconst (x := 1) dX6_traffic_5 rfl ?_
    refine x_bipush (x := 16) dX6_traffic_6 rfl ?_
    obtain ⟨z1, s1, h1, h⟩ := x_b_e h
    refine x_callS (As := [.int a2, .int 1, .int 16]) (st := []) (eX6_in hw  h1) cs_X6_36 (Nat.le_of_ble_eq_true rfl) rfl (Nat.le_of_ble_eq_true rfl) _ rfl dX6_traffic_8 [.int z1] rfl ?_
    refine x_if_eq (tgt := 23) dX6_traffic_11 rfl (fun hc => ?_) (fun hc => ?_)
    · have h := x_t hc h
      refine x_bipush (x := (-2)) dX6_traffic_23 (by decide) ?_
      exact x_iretH rfl dX6_traffic_25 h
    · have h := x_f hc h
      refine x_iload_n dX6_traffic_14 rfl 3 rfl ?_
      refine x_iconst (x := 1) dX6_traffic_15 rfl ?_
      refine x_iconst (x := 3) dX6_traffic_16 rfl ?_
      obtain ⟨z2, s2, h2, h⟩ := x_b_e h
      refine x_callS (As := [.int a3, .int 1, .int 3]) (st := []) (eX6_in hw  h2) cs_X6_36 (Nat.le_of_ble_eq_true rfl) rfl (Nat.le_of_ble_eq_true rfl) _ rfl dX6_traffic_17 [.int z2] rfl ?_
      refine x_if_ne (tgt := 26) dX6_traffic_20 rfl (fun hc => ?_) (fun hc => ?_)
      · have h := x_f hc h
        refine x_iload_n dX6_traffic_26 rfl 1 rfl ?_
        refine x_i2l dX6_traffic_27 ?_
        obtain ⟨t3, ht3, h⟩ := x_let_e h
        refine x_lstore t3 ht3 dX6_traffic_28 (Nat.le_of_ble_eq_true rfl) [(4, .long t3), (0, .ref (w.2.2 5 30 0 0)), (1, .int a1), (2, .int a2), (3, .int a3)] rfl ?_
        refine x_iconst (x := 0) dX6_traffic_30 rfl ?_
        refine x_istore 0 rfl dX6_traffic_31 (Nat.le_of_ble_eq_true rfl) [(6, .int 0), (4, .long t3), (0, .ref (w.2.2 5 30 0 0)), (1, .int a1), (2, .int a2), (3, .int a3)] rfl ?_
        refine x_iconst (x := 0) dX6_traffic_33 rfl ?_
        refine x_istore 0 rfl dX6_traffic_34 (Nat.le_of_ble_eq_true rfl) [(7, .int 0), (6, .int 0), (4, .long t3), (0, .ref (w.2.2 5 30 0 0)), (1, .int a1), (2, .int a2), (3, .int a3)] rfl ?_
        refine x_sub (L1 := [(0, .ref (w.2.2 5 30 0 0)), (2, .int a2), (3, .int a3), (4, .long t3), (6, .int 0), (7, .int 0)]) [3, 5, 6, 2, 1, 0] rfl ?_
        exact TX6_traffic_36 hw _ _ _ _ _ h
      · have h := x_t hc h
        refine x_bipush (x := (-2)) dX6_traffic_23 (by decide) ?_
        exact x_iretH rfl dX6_traffic_25 h
def fX6_freeShared (σ : xS) : Option (Int32 × xS) :=
  x_b (fX6_free  σ) fun z1 s1 => some (z1, s1)
set_option maxRecDepth 100000 in
set_option maxHeartbeats 4000000 in
theorem eX6_freeShared {l : Launch} {w : xW} (hw : w.1.2 = true) {σ τ : xS} {r : Int32} (h : fX6_freeShared σ = some (r, τ)) : xEV l w yX6_freeShared mX6_freeShared [.ref (w.2.2 5 30 0 0)] σ (some (.int r)) τ := by
  rw [fX6_freeShared] at h
  refine x_enter (by decide +kernel) rfl (Nat.le_of_ble_eq_true rfl) ?_
  refine x_sub (L1 := [(0, .ref (w.2.2 5 30 0 0))]) [0] rfl ?_
  refine x_aload_n dX6_freeShared_0 rfl 0 rfl ?_
  obtain ⟨z1, s1, h1, h⟩ := x_b_e h
  refine x_callV (As := []) (st := []) (eX6_free hw  h1) cv_X6_62 (Nat.le_of_ble_eq_true rfl) (ok_e30 hw) rfl (Nat.le_of_ble_eq_true rfl) _ rfl dX6_freeShared_1 [.int z1] rfl ?_
  exact x_iretH rfl dX6_freeShared_4 h
def fX6_sharedPool (σ : xS) : Option (Int32 × xS) :=
  x_b (fX6_pool  σ) fun z1 s1 => some (z1, s1)
set_option maxRecDepth 100000 in
set_option maxHeartbeats 4000000 in
theorem eX6_sharedPool {l : Launch} {w : xW} (hw : w.1.2 = true) {σ τ : xS} {r : Int32} (h : fX6_sharedPool σ = some (r, τ)) : xEV l w yX6_sharedPool mX6_sharedPool [.ref (w.2.2 5 30 0 0)] σ (some (.int r)) τ := by
  rw [fX6_sharedPool] at h
  refine x_enter (by decide +kernel) rfl (Nat.le_of_ble_eq_true rfl) ?_
  refine x_sub (L1 := [(0, .ref (w.2.2 5 30 0 0))]) [0] rfl ?_
  refine x_aload_n dX6_sharedPool_0 rfl 0 rfl ?_
  obtain ⟨z1, s1, h1, h⟩ := x_b_e h
  refine x_callV (As := []) (st := []) (eX6_pool hw  h1) cv_X6_55 (Nat.le_of_ble_eq_true rfl) (ok_e30 hw) rfl (Nat.le_of_ble_eq_true rfl) _ rfl dX6_sharedPool_1 [.int z1] rfl ?_
  exact x_iretH rfl dX6_sharedPool_4 h
def fX6_freeGuarantee (a1 : Int32) (σ : xS) : Option (Int32 × xS) :=
  x_b (fX6_isPort a1 σ) fun z1 s1 => if z1 = 0 then (some ((-1), s1)) else (x_b (fX6_freeOf a1 s1) fun z2 s2 => some (z2, s2))
set_option maxRecDepth 100000 in
set_option maxHeartbeats 4000000 in
theorem eX6_freeGuarantee {l : Launch} {w : xW} (hw : w.1.2 = true) {a1 : Int32} {σ τ : xS} {r : Int32} (h : fX6_freeGuarantee a1 σ = some (r, τ)) : xEV l w yX6_freeGuarantee mX6_freeGuarantee [.ref (w.2.2 5 30 0 0), .int a1] σ (some (.int r)) τ := by
  rw [fX6_freeGuarantee] at h
  refine x_enter (by decide +kernel) rfl (Nat.le_of_ble_eq_true rfl) ?_
  refine x_sub (L1 := [(0, .ref (w.2.2 5 30 0 0)), (1, .int a1)]) [0, 1] rfl ?_
  refine x_aload_n dX6_freeGuarantee_0 rfl 0 rfl ?_
  refine x_iload_n dX6_freeGuarantee_1 rfl 1 rfl ?_
  obtain ⟨z1, s1, h1, h⟩ := x_b_e h
  refine x_callV (As := [.int a1]) (st := []) (eX6_isPort hw  h1) cv_X6_40 (Nat.le_of_ble_eq_true rfl) (ok_e30 hw) rfl (Nat.le_of_ble_eq_true rfl) _ rfl dX6_freeGuarantee_2 [.int z1] rfl ?_
  refine x_if_eq (tgt := 16) dX6_freeGuarantee_5 rfl (fun hc => ?_) (fun hc => ?_)
  · have h := x_t hc h
    refine x_iconst (x := (-1)) dX6_freeGuarantee_16 (by decide) ?_
    exact x_iretH rfl dX6_freeGuarantee_17 h
  · have h := x_f hc h
    refine x_aload_n dX6_freeGuarantee_8 rfl 0 rfl ?_
    refine x_iload_n dX6_freeGuarantee_9 rfl 1 rfl ?_
    obtain ⟨z2, s2, h2, h⟩ := x_b_e h
    refine x_callV (As := [.int a1]) (st := []) (eX6_freeOf hw  h2) cv_X6_65 (Nat.le_of_ble_eq_true rfl) (ok_e30 hw) rfl (Nat.le_of_ble_eq_true rfl) _ rfl dX6_freeGuarantee_10 [.int z2] rfl ?_
    refine x_goto (tgt := 17) dX6_freeGuarantee_13 rfl ?_
    exact x_iretH rfl dX6_freeGuarantee_17 h
def fX6_ofPort (a1 : Int32) (a2 : Int32) (σ : xS) : Option (Int32 × xS) :=
  x_b (fX6_isPort a1 σ) fun z1 s1 => if z1 = 0 then (some ((-1), s1)) else (x_b (fX6_port a1 a2 s1) fun z2 s2 => x_g (x_in z2 6464) (some ((s2 5 31 0 0 z2.toNatClampNeg), s2)))
set_option maxRecDepth 100000 in
set_option maxHeartbeats 4000000 in
theorem eX6_ofPort {l : Launch} {w : xW} (hw : w.1.2 = true) {a1 : Int32} {a2 : Int32} {σ τ : xS} {r : Int32} (h : fX6_ofPort a1 a2 σ = some (r, τ)) : xEV l w yX6_ofPort mX6_ofPort [.ref (w.2.2 5 30 0 0), .int a1, .int a2] σ (some (.int r)) τ := by
  rw [fX6_ofPort] at h
  refine x_enter (by decide +kernel) rfl (Nat.le_of_ble_eq_true rfl) ?_
  refine x_sub (L1 := [(0, .ref (w.2.2 5 30 0 0)), (1, .int a1), (2, .int a2)]) [0, 1, 2] rfl ?_
  refine x_aload_n dX6_ofPort_0 rfl 0 rfl ?_
  refine x_iload_n dX6_ofPort_1 rfl 1 rfl ?_
  obtain ⟨z1, s1, h1, h⟩ := x_b_e h
  refine x_callV (As := [.int a1]) (st := []) (eX6_isPort hw  h1) cv_X6_40 (Nat.le_of_ble_eq_true rfl) (ok_e30 hw) rfl (Nat.le_of_ble_eq_true rfl) _ rfl dX6_ofPort_2 [.int z1] rfl ?_
  refine x_if_eq (tgt := 21) dX6_ofPort_5 rfl (fun hc => ?_) (fun hc => ?_)
  · have h := x_t hc h
    refine x_iconst (x := (-1)) dX6_ofPort_21 (by decide) ?_
    exact x_iretH rfl dX6_ofPort_22 h
  · have h := x_f hc h
    refine x_aload_n dX6_ofPort_8 rfl 0 rfl ?_
    refine x_getR (d1 := 5) (K1 := 31) (p1 := 0) (r1 := 0) fl_X6_7 (ok_e30 hw) rfl dX6_ofPort_9 ?_
    refine x_iload_n dX6_ofPort_12 rfl 1 rfl ?_
    refine x_iload_n dX6_ofPort_13 rfl 2 rfl ?_
    obtain ⟨z2, s2, h2, h⟩ := x_b_e h
    refine x_callS (As := [.int a1, .int a2]) (st := [.ref (w.2.2 5 31 0 0)]) (eX6_port hw  h2) cs_X6_44 (Nat.le_of_ble_eq_true rfl) rfl (Nat.le_of_ble_eq_true rfl) _ rfl dX6_ofPort_14 [.int z2, .ref (w.2.2 5 31 0 0)] rfl ?_
    obtain ⟨hg3, h⟩ := x_g_e h
    refine x_iald 6464 z2.toNatClampNeg rfl rfl rfl rfl (ok_e31 hw) hg3 dX6_ofPort_17 ?_
    refine x_goto (tgt := 22) dX6_ofPort_18 rfl ?_
    exact x_iretH rfl dX6_ofPort_22 h
def fX6_ofQueue (a1 : Int32) (a2 : Int32) (a3 : Int32) (σ : xS) : Option (Int32 × xS) :=
  x_b (fX6_isQueue a1 a2 σ) fun z1 s1 => if z1 = 0 then (some ((-1), s1)) else (x_b (fX6_queue ((3 * a1) + a2) a3 s1) fun z2 s2 => x_g (x_in z2 6464) (some ((s2 5 31 0 0 z2.toNatClampNeg), s2)))
set_option maxRecDepth 100000 in
set_option maxHeartbeats 4000000 in
theorem eX6_ofQueue {l : Launch} {w : xW} (hw : w.1.2 = true) {a1 : Int32} {a2 : Int32} {a3 : Int32} {σ τ : xS} {r : Int32} (h : fX6_ofQueue a1 a2 a3 σ = some (r, τ)) : xEV l w yX6_ofQueue mX6_ofQueue [.ref (w.2.2 5 30 0 0), .int a1, .int a2, .int a3] σ (some (.int r)) τ := by
  rw [fX6_ofQueue] at h
  refine x_enter (by decide +kernel) rfl (Nat.le_of_ble_eq_true rfl) ?_
  refine x_sub (L1 := [(0, .ref (w.2.2 5 30 0 0)), (1, .int a1), (2, .int a2), (3, .int a3)]) [0, 1, 2, 3] rfl ?_
  refine x_aload_n dX6_ofQueue_0 rfl 0 rfl ?_
  refine x_iload_n dX6_ofQueue_1 rfl 1 rfl ?_
  refine x_iload_n dX6_ofQueue_2 rfl 2 rfl ?_
  obtain ⟨z1, s1, h1, h⟩ := x_b_e h
  refine x_callV (As := [.int a1, .int a2]) (st := []) (eX6_isQueue hw  h1) cv_X6_75 (Nat.le_of_ble_eq_true rfl) (ok_e30 hw) rfl (Nat.le_of_ble_eq_true rfl) _ rfl dX6_ofQueue_3 [.int z1] rfl ?_
  refine x_if_eq (tgt := 26) dX6_ofQueue_6 rfl (fun hc => ?_) (fun hc => ?_)
  · have h := x_t hc h
    refine x_iconst (x := (-1)) dX6_ofQueue_26 (by decide) ?_
    exact x_iretH rfl dX6_ofQueue_27 h
  · have h := x_f hc h
    refine x_aload_n dX6_ofQueue_9 rfl 0 rfl ?_
    refine x_getR (d1 := 5) (K1 := 31) (p1 := 0) (r1 := 0) fl_X6_7 (ok_e30 hw) rfl dX6_ofQueue_10 ?_
    refine x_iconst (x := 3) dX6_ofQueue_13 rfl ?_
    refine x_iload_n dX6_ofQueue_14 rfl 1 rfl ?_
    refine x_imul dX6_ofQueue_15 ?_
    refine x_iload_n dX6_ofQueue_16 rfl 2 rfl ?_
    refine x_iadd dX6_ofQueue_17 ?_
    refine x_iload_n dX6_ofQueue_18 rfl 3 rfl ?_
    obtain ⟨z2, s2, h2, h⟩ := x_b_e h
    refine x_callS (As := [.int ((3 * a1) + a2), .int a3]) (st := [.ref (w.2.2 5 31 0 0)]) (eX6_queue hw  h2) cs_X6_48 (Nat.le_of_ble_eq_true rfl) rfl (Nat.le_of_ble_eq_true rfl) _ rfl dX6_ofQueue_19 [.int z2, .ref (w.2.2 5 31 0 0)] rfl ?_
    obtain ⟨hg3, h⟩ := x_g_e h
    refine x_iald 6464 z2.toNatClampNeg rfl rfl rfl rfl (ok_e31 hw) hg3 dX6_ofQueue_22 ?_
    refine x_goto (tgt := 27) dX6_ofQueue_23 rfl ?_
    exact x_iretH rfl dX6_ofQueue_27 h
def fX6_grantOf (a1 : Int32) (σ : xS) : Option (Int32 × xS) :=
  x_b (fX6_ofPort a1 2 σ) fun z1 s1 => some (z1, s1)
set_option maxRecDepth 100000 in
set_option maxHeartbeats 4000000 in
theorem eX6_grantOf {l : Launch} {w : xW} (hw : w.1.2 = true) {a1 : Int32} {σ τ : xS} {r : Int32} (h : fX6_grantOf a1 σ = some (r, τ)) : xEV l w yX6_grantOf mX6_grantOf [.ref (w.2.2 5 30 0 0), .int a1] σ (some (.int r)) τ := by
  rw [fX6_grantOf] at h
  refine x_enter (by decide +kernel) rfl (Nat.le_of_ble_eq_true rfl) ?_
  refine x_sub (L1 := [(0, .ref (w.2.2 5 30 0 0)), (1, .int a1)]) [0, 1] rfl ?_
  refine x_aload_n dX6_grantOf_0 rfl 0 rfl ?_
  refine x_iload_n dX6_grantOf_1 rfl 1 rfl ?_
  refine x_iconst (x := 2) dX6_grantOf_2 rfl ?_
  obtain ⟨z1, s1, h1, h⟩ := x_b_e h
  refine x_callV (As := [.int a1, .int 2]) (st := []) (eX6_ofPort hw  h1) cv_X6_183 (Nat.le_of_ble_eq_true rfl) (ok_e30 hw) rfl (Nat.le_of_ble_eq_true rfl) _ rfl dX6_grantOf_3 [.int z1] rfl ?_
  exact x_iretH rfl dX6_grantOf_6 h
def fX6_threshold (a1 : Int32) (a2 : Int32) (σ : xS) : Option (Int32 × xS) :=
  x_b (fX6_isQueue a1 a2 σ) fun z1 s1 => if z1 = 0 then (some ((-1), s1)) else (x_b (fX6_limit ((3 * a1) + a2) s1) fun z2 s2 => some (z2, s2))
set_option maxRecDepth 100000 in
set_option maxHeartbeats 4000000 in
theorem eX6_threshold {l : Launch} {w : xW} (hw : w.1.2 = true) {a1 : Int32} {a2 : Int32} {σ τ : xS} {r : Int32} (h : fX6_threshold a1 a2 σ = some (r, τ)) : xEV l w yX6_threshold mX6_threshold [.ref (w.2.2 5 30 0 0), .int a1, .int a2] σ (some (.int r)) τ := by
  rw [fX6_threshold] at h
  refine x_enter (by decide +kernel) rfl (Nat.le_of_ble_eq_true rfl) ?_
  refine x_sub (L1 := [(0, .ref (w.2.2 5 30 0 0)), (1, .int a1), (2, .int a2)]) [0, 1, 2] rfl ?_
  refine x_aload_n dX6_threshold_0 rfl 0 rfl ?_
  refine x_iload_n dX6_threshold_1 rfl 1 rfl ?_
  refine x_iload_n dX6_threshold_2 rfl 2 rfl ?_
  obtain ⟨z1, s1, h1, h⟩ := x_b_e h
  refine x_callV (As := [.int a1, .int a2]) (st := []) (eX6_isQueue hw  h1) cv_X6_75 (Nat.le_of_ble_eq_true rfl) (ok_e30 hw) rfl (Nat.le_of_ble_eq_true rfl) _ rfl dX6_threshold_3 [.int z1] rfl ?_
  refine x_if_eq (tgt := 21) dX6_threshold_6 rfl (fun hc => ?_) (fun hc => ?_)
  · have h := x_t hc h
    refine x_iconst (x := (-1)) dX6_threshold_21 (by decide) ?_
    exact x_iretH rfl dX6_threshold_22 h
  · have h := x_f hc h
    refine x_aload_n dX6_threshold_9 rfl 0 rfl ?_
    refine x_iconst (x := 3) dX6_threshold_10 rfl ?_
    refine x_iload_n dX6_threshold_11 rfl 1 rfl ?_
    refine x_imul dX6_threshold_12 ?_
    refine x_iload_n dX6_threshold_13 rfl 2 rfl ?_
    refine x_iadd dX6_threshold_14 ?_
    obtain ⟨z2, s2, h2, h⟩ := x_b_e h
    refine x_callV (As := [.int ((3 * a1) + a2)]) (st := []) (eX6_limit hw  h2) cv_X6_113 (Nat.le_of_ble_eq_true rfl) (ok_e30 hw) rfl (Nat.le_of_ble_eq_true rfl) _ rfl dX6_threshold_15 [.int z2] rfl ?_
    refine x_goto (tgt := 22) dX6_threshold_18 rfl ?_
    exact x_iretH rfl dX6_threshold_22 h
def fX6_guaranteedCells (a1 : Int32) (a2 : Int32) (σ : xS) : Option (Int32 × xS) :=
  x_b (fX6_ofQueue a1 a2 6 σ) fun z1 s1 => some (z1, s1)
set_option maxRecDepth 100000 in
set_option maxHeartbeats 4000000 in
theorem eX6_guaranteedCells {l : Launch} {w : xW} (hw : w.1.2 = true) {a1 : Int32} {a2 : Int32} {σ τ : xS} {r : Int32} (h : fX6_guaranteedCells a1 a2 σ = some (r, τ)) : xEV l w yX6_guaranteedCells mX6_guaranteedCells [.ref (w.2.2 5 30 0 0), .int a1, .int a2] σ (some (.int r)) τ := by
  rw [fX6_guaranteedCells] at h
  refine x_enter (by decide +kernel) rfl (Nat.le_of_ble_eq_true rfl) ?_
  refine x_sub (L1 := [(0, .ref (w.2.2 5 30 0 0)), (1, .int a1), (2, .int a2)]) [0, 1, 2] rfl ?_
  refine x_aload_n dX6_guaranteedCells_0 rfl 0 rfl ?_
  refine x_iload_n dX6_guaranteedCells_1 rfl 1 rfl ?_
  refine x_iload_n dX6_guaranteedCells_2 rfl 2 rfl ?_
  refine x_bipush (x := 6) dX6_guaranteedCells_3 rfl ?_
  obtain ⟨z1, s1, h1, h⟩ := x_b_e h
  refine x_callV (As := [.int a1, .int a2, .int 6]) (st := []) (eX6_ofQueue hw  h1) cv_X6_186 (Nat.le_of_ble_eq_true rfl) (ok_e30 hw) rfl (Nat.le_of_ble_eq_true rfl) _ rfl dX6_guaranteedCells_5 [.int z1] rfl ?_
  exact x_iretH rfl dX6_guaranteedCells_8 h
def fX6_sharedCells (a1 : Int32) (a2 : Int32) (σ : xS) : Option (Int32 × xS) :=
  x_b (fX6_ofQueue a1 a2 7 σ) fun z1 s1 => some (z1, s1)
set_option maxRecDepth 100000 in
set_option maxHeartbeats 4000000 in
theorem eX6_sharedCells {l : Launch} {w : xW} (hw : w.1.2 = true) {a1 : Int32} {a2 : Int32} {σ τ : xS} {r : Int32} (h : fX6_sharedCells a1 a2 σ = some (r, τ)) : xEV l w yX6_sharedCells mX6_sharedCells [.ref (w.2.2 5 30 0 0), .int a1, .int a2] σ (some (.int r)) τ := by
  rw [fX6_sharedCells] at h
  refine x_enter (by decide +kernel) rfl (Nat.le_of_ble_eq_true rfl) ?_
  refine x_sub (L1 := [(0, .ref (w.2.2 5 30 0 0)), (1, .int a1), (2, .int a2)]) [0, 1, 2] rfl ?_
  refine x_aload_n dX6_sharedCells_0 rfl 0 rfl ?_
  refine x_iload_n dX6_sharedCells_1 rfl 1 rfl ?_
  refine x_iload_n dX6_sharedCells_2 rfl 2 rfl ?_
  refine x_bipush (x := 7) dX6_sharedCells_3 rfl ?_
  obtain ⟨z1, s1, h1, h⟩ := x_b_e h
  refine x_callV (As := [.int a1, .int a2, .int 7]) (st := []) (eX6_ofQueue hw  h1) cv_X6_186 (Nat.le_of_ble_eq_true rfl) (ok_e30 hw) rfl (Nat.le_of_ble_eq_true rfl) _ rfl dX6_sharedCells_5 [.int z1] rfl ?_
  exact x_iretH rfl dX6_sharedCells_8 h
def fX6_headroomCells (a1 : Int32) (a2 : Int32) (σ : xS) : Option (Int32 × xS) :=
  x_b (fX6_ofQueue a1 a2 8 σ) fun z1 s1 => some (z1, s1)
set_option maxRecDepth 100000 in
set_option maxHeartbeats 4000000 in
theorem eX6_headroomCells {l : Launch} {w : xW} (hw : w.1.2 = true) {a1 : Int32} {a2 : Int32} {σ τ : xS} {r : Int32} (h : fX6_headroomCells a1 a2 σ = some (r, τ)) : xEV l w yX6_headroomCells mX6_headroomCells [.ref (w.2.2 5 30 0 0), .int a1, .int a2] σ (some (.int r)) τ := by
  rw [fX6_headroomCells] at h
  refine x_enter (by decide +kernel) rfl (Nat.le_of_ble_eq_true rfl) ?_
  refine x_sub (L1 := [(0, .ref (w.2.2 5 30 0 0)), (1, .int a1), (2, .int a2)]) [0, 1, 2] rfl ?_
  refine x_aload_n dX6_headroomCells_0 rfl 0 rfl ?_
  refine x_iload_n dX6_headroomCells_1 rfl 1 rfl ?_
  refine x_iload_n dX6_headroomCells_2 rfl 2 rfl ?_
  refine x_bipush (x := 8) dX6_headroomCells_3 rfl ?_
  obtain ⟨z1, s1, h1, h⟩ := x_b_e h
  refine x_callV (As := [.int a1, .int a2, .int 8]) (st := []) (eX6_ofQueue hw  h1) cv_X6_186 (Nat.le_of_ble_eq_true rfl) (ok_e30 hw) rfl (Nat.le_of_ble_eq_true rfl) _ rfl dX6_headroomCells_5 [.int z1] rfl ?_
  exact x_iretH rfl dX6_headroomCells_8 h
def fX6_burstTank (a1 : Int32) (a2 : Int32) (σ : xS) : Option (Int32 × xS) :=
  x_b (fX6_ofQueue a1 a2 3 σ) fun z1 s1 => some (z1, s1)
set_option maxRecDepth 100000 in
set_option maxHeartbeats 4000000 in
theorem eX6_burstTank {l : Launch} {w : xW} (hw : w.1.2 = true) {a1 : Int32} {a2 : Int32} {σ τ : xS} {r : Int32} (h : fX6_burstTank a1 a2 σ = some (r, τ)) : xEV l w yX6_burstTank mX6_burstTank [.ref (w.2.2 5 30 0 0), .int a1, .int a2] σ (some (.int r)) τ := by
  rw [fX6_burstTank] at h
  refine x_enter (by decide +kernel) rfl (Nat.le_of_ble_eq_true rfl) ?_
  refine x_sub (L1 := [(0, .ref (w.2.2 5 30 0 0)), (1, .int a1), (2, .int a2)]) [0, 1, 2] rfl ?_
  refine x_aload_n dX6_burstTank_0 rfl 0 rfl ?_
  refine x_iload_n dX6_burstTank_1 rfl 1 rfl ?_
  refine x_iload_n dX6_burstTank_2 rfl 2 rfl ?_
  refine x_iconst (x := 3) dX6_burstTank_3 rfl ?_
  obtain ⟨z1, s1, h1, h⟩ := x_b_e h
  refine x_callV (As := [.int a1, .int a2, .int 3]) (st := []) (eX6_ofQueue hw  h1) cv_X6_186 (Nat.le_of_ble_eq_true rfl) (ok_e30 hw) rfl (Nat.le_of_ble_eq_true rfl) _ rfl dX6_burstTank_4 [.int z1] rfl ?_
  exact x_iretH rfl dX6_burstTank_7 h
def fX6_isPaused (a1 : Int32) (a2 : Int32) (σ : xS) : Option (Int32 × xS) :=
  x_b (fX6_ofQueue a1 a2 10 σ) fun z1 s1 => some (z1, s1)
set_option maxRecDepth 100000 in
set_option maxHeartbeats 4000000 in
theorem eX6_isPaused {l : Launch} {w : xW} (hw : w.1.2 = true) {a1 : Int32} {a2 : Int32} {σ τ : xS} {r : Int32} (h : fX6_isPaused a1 a2 σ = some (r, τ)) : xEV l w yX6_isPaused mX6_isPaused [.ref (w.2.2 5 30 0 0), .int a1, .int a2] σ (some (.int r)) τ := by
  rw [fX6_isPaused] at h
  refine x_enter (by decide +kernel) rfl (Nat.le_of_ble_eq_true rfl) ?_
  refine x_sub (L1 := [(0, .ref (w.2.2 5 30 0 0)), (1, .int a1), (2, .int a2)]) [0, 1, 2] rfl ?_
  refine x_aload_n dX6_isPaused_0 rfl 0 rfl ?_
  refine x_iload_n dX6_isPaused_1 rfl 1 rfl ?_
  refine x_iload_n dX6_isPaused_2 rfl 2 rfl ?_
  refine x_bipush (x := 10) dX6_isPaused_3 rfl ?_
  obtain ⟨z1, s1, h1, h⟩ := x_b_e h
  refine x_callV (As := [.int a1, .int a2, .int 10]) (st := []) (eX6_ofQueue hw  h1) cv_X6_186 (Nat.le_of_ble_eq_true rfl) (ok_e30 hw) rfl (Nat.le_of_ble_eq_true rfl) _ rfl dX6_isPaused_5 [.int z1] rfl ?_
  exact x_iretH rfl dX6_isPaused_8 h
def fX6_pauses (a1 : Int32) (a2 : Int32) (σ : xS) : Option (Int32 × xS) :=
  x_b (fX6_ofQueue a1 a2 11 σ) fun z1 s1 => some (z1, s1)
set_option maxRecDepth 100000 in
set_option maxHeartbeats 4000000 in
theorem eX6_pauses {l : Launch} {w : xW} (hw : w.1.2 = true) {a1 : Int32} {a2 : Int32} {σ τ : xS} {r : Int32} (h : fX6_pauses a1 a2 σ = some (r, τ)) : xEV l w yX6_pauses mX6_pauses [.ref (w.2.2 5 30 0 0), .int a1, .int a2] σ (some (.int r)) τ := by
  rw [fX6_pauses] at h
  refine x_enter (by decide +kernel) rfl (Nat.le_of_ble_eq_true rfl) ?_
  refine x_sub (L1 := [(0, .ref (w.2.2 5 30 0 0)), (1, .int a1), (2, .int a2)]) [0, 1, 2] rfl ?_
  refine x_aload_n dX6_pauses_0 rfl 0 rfl ?_
  refine x_iload_n dX6_pauses_1 rfl 1 rfl ?_
  refine x_iload_n dX6_pauses_2 rfl 2 rfl ?_
  refine x_bipush (x := 11) dX6_pauses_3 rfl ?_
  obtain ⟨z1, s1, h1, h⟩ := x_b_e h
  refine x_callV (As := [.int a1, .int a2, .int 11]) (st := []) (eX6_ofQueue hw  h1) cv_X6_186 (Nat.le_of_ble_eq_true rfl) (ok_e30 hw) rfl (Nat.le_of_ble_eq_true rfl) _ rfl dX6_pauses_5 [.int z1] rfl ?_
  exact x_iretH rfl dX6_pauses_8 h
def fX6_credit (a1 : Int32) (σ : xS) : Option (Int32 × xS) :=
  x_b (fX6_ofPort a1 4 σ) fun z1 s1 => some (z1, s1)
set_option maxRecDepth 100000 in
set_option maxHeartbeats 4000000 in
theorem eX6_credit {l : Launch} {w : xW} (hw : w.1.2 = true) {a1 : Int32} {σ τ : xS} {r : Int32} (h : fX6_credit a1 σ = some (r, τ)) : xEV l w yX6_credit mX6_credit [.ref (w.2.2 5 30 0 0), .int a1] σ (some (.int r)) τ := by
  rw [fX6_credit] at h
  refine x_enter (by decide +kernel) rfl (Nat.le_of_ble_eq_true rfl) ?_
  refine x_sub (L1 := [(0, .ref (w.2.2 5 30 0 0)), (1, .int a1)]) [0, 1] rfl ?_
  refine x_aload_n dX6_credit_0 rfl 0 rfl ?_
  refine x_iload_n dX6_credit_1 rfl 1 rfl ?_
  refine x_iconst (x := 4) dX6_credit_2 rfl ?_
  obtain ⟨z1, s1, h1, h⟩ := x_b_e h
  refine x_callV (As := [.int a1, .int 4]) (st := []) (eX6_ofPort hw  h1) cv_X6_183 (Nat.le_of_ble_eq_true rfl) (ok_e30 hw) rfl (Nat.le_of_ble_eq_true rfl) _ rfl dX6_credit_3 [.int z1] rfl ?_
  exact x_iretH rfl dX6_credit_6 h
def fX6_deficit (a1 : Int32) (a2 : Int32) (σ : xS) : Option (Int32 × xS) :=
  x_b (fX6_ofQueue a1 a2 5 σ) fun z1 s1 => some (z1, s1)
set_option maxRecDepth 100000 in
set_option maxHeartbeats 4000000 in
theorem eX6_deficit {l : Launch} {w : xW} (hw : w.1.2 = true) {a1 : Int32} {a2 : Int32} {σ τ : xS} {r : Int32} (h : fX6_deficit a1 a2 σ = some (r, τ)) : xEV l w yX6_deficit mX6_deficit [.ref (w.2.2 5 30 0 0), .int a1, .int a2] σ (some (.int r)) τ := by
  rw [fX6_deficit] at h
  refine x_enter (by decide +kernel) rfl (Nat.le_of_ble_eq_true rfl) ?_
  refine x_sub (L1 := [(0, .ref (w.2.2 5 30 0 0)), (1, .int a1), (2, .int a2)]) [0, 1, 2] rfl ?_
  refine x_aload_n dX6_deficit_0 rfl 0 rfl ?_
  refine x_iload_n dX6_deficit_1 rfl 1 rfl ?_
  refine x_iload_n dX6_deficit_2 rfl 2 rfl ?_
  refine x_iconst (x := 5) dX6_deficit_3 rfl ?_
  obtain ⟨z1, s1, h1, h⟩ := x_b_e h
  refine x_callV (As := [.int a1, .int a2, .int 5]) (st := []) (eX6_ofQueue hw  h1) cv_X6_186 (Nat.le_of_ble_eq_true rfl) (ok_e30 hw) rfl (Nat.le_of_ble_eq_true rfl) _ rfl dX6_deficit_4 [.int z1] rfl ?_
  exact x_iretH rfl dX6_deficit_7 h
def BX6_losses_42 (a1 : Int32) (a2 : Int32) (as0 : Int32) (σ : xS) : Option (Int32 × xS) :=
  if as0 = 0 then (some ((-2), σ)) else (x_b (fX6_port a1 (11 + a2) σ) fun z2 s2 => x_g (x_in z2 6464) (some ((s2 5 31 0 0 z2.toNatClampNeg), s2)))
set_option maxRecDepth 100000 in
set_option maxHeartbeats 4000000 in
theorem TX6_losses_42 {l : Launch} {w : xW} (hw : w.1.2 = true) {a1 : Int32} {a2 : Int32} {as0 : Int32} {σ τ : xS} {r : Int32} (h : BX6_losses_42 a1 a2 as0 σ = some (r, τ)) : xAt l w mX6_losses 42 [(0, .ref (w.2.2 5 30 0 0)), (1, .int a1), (2, .int a2)] [.int as0] σ (some (.int r)) τ := by
  rw [BX6_losses_42] at h
  refine x_istore_n as0 rfl dX6_losses_42 rfl (Nat.le_of_ble_eq_true rfl) [(3, .int as0), (0, .ref (w.2.2 5 30 0 0)), (1, .int a1), (2, .int a2)] rfl ?_
  refine x_iload_n dX6_losses_43 rfl 0 rfl ?_
  refine x_if_eq (tgt := 63) dX6_losses_44 rfl (fun hc => ?_) (fun hc => ?_)
  · have h := x_t hc h
    refine x_bipush (x := (-2)) dX6_losses_63 (by decide) ?_
    exact x_iretH rfl dX6_losses_65 h
  · have h := x_f hc h
    refine x_aload_n dX6_losses_47 rfl 1 rfl ?_
    refine x_getR (d1 := 5) (K1 := 31) (p1 := 0) (r1 := 0) fl_X6_7 (ok_e30 hw) rfl dX6_losses_48 ?_
    refine x_iload_n dX6_losses_51 rfl 2 rfl ?_
    refine x_bipush (x := 11) dX6_losses_52 rfl ?_
    refine x_iload_n dX6_losses_54 rfl 3 rfl ?_
    refine x_iadd dX6_losses_55 ?_
    obtain ⟨z2, s2, h2, h⟩ := x_b_e h
    refine x_callS (As := [.int a1, .int (11 + a2)]) (st := [.ref (w.2.2 5 31 0 0)]) (eX6_port hw  h2) cs_X6_44 (Nat.le_of_ble_eq_true rfl) rfl (Nat.le_of_ble_eq_true rfl) _ rfl dX6_losses_56 [.int z2, .ref (w.2.2 5 31 0 0)] rfl ?_
    obtain ⟨hg3, h⟩ := x_g_e h
    refine x_iald 6464 z2.toNatClampNeg rfl rfl rfl rfl (ok_e31 hw) hg3 dX6_losses_59 ?_
    refine x_goto (tgt := 65) dX6_losses_60 rfl ?_
    exact x_iretH rfl dX6_losses_65 h
def fX6_losses (a1 : Int32) (a2 : Int32) (σ : xS) : Option (Int32 × xS) :=
  x_b (fX6_isPort a1 σ) fun z1 s1 => if z1 = 0 then (some ((-1), s1)) else (if a2 = 2 then (BX6_losses_42 a1 a2 1 s1) else (if a2 = 3 then (BX6_losses_42 a1 a2 1 s1) else (if a2 = 5 then (BX6_losses_42 a1 a2 1 s1) else (if a2 = 8 then (BX6_losses_42 a1 a2 1 s1) else (if a2 = 9 then (BX6_losses_42 a1 a2 1 s1) else (BX6_losses_42 a1 a2 0 s1))))))
set_option maxRecDepth 100000 in
set_option maxHeartbeats 4000000 in
theorem eX6_losses {l : Launch} {w : xW} (hw : w.1.2 = true) {a1 : Int32} {a2 : Int32} {σ τ : xS} {r : Int32} (h : fX6_losses a1 a2 σ = some (r, τ)) : xEV l w yX6_losses mX6_losses [.ref (w.2.2 5 30 0 0), .int a1, .int a2] σ (some (.int r)) τ := by
  rw [fX6_losses] at h
  refine x_enter (by decide +kernel) rfl (Nat.le_of_ble_eq_true rfl) ?_
  refine x_sub (L1 := [(0, .ref (w.2.2 5 30 0 0)), (1, .int a1), (2, .int a2)]) [0, 1, 2] rfl ?_
  refine x_aload_n dX6_losses_0 rfl 0 rfl ?_
  refine x_iload_n dX6_losses_1 rfl 1 rfl ?_
  obtain ⟨z1, s1, h1, h⟩ := x_b_e h
  refine x_callV (As := [.int a1]) (st := []) (eX6_isPort hw  h1) cv_X6_40 (Nat.le_of_ble_eq_true rfl) (ok_e30 hw) rfl (Nat.le_of_ble_eq_true rfl) _ rfl dX6_losses_2 [.int z1] rfl ?_
  refine x_if_ne (tgt := 10) dX6_losses_5 rfl (fun hc => ?_) (fun hc => ?_)
  · have h := x_f hc h
    refine x_iload_n dX6_losses_10 rfl 2 rfl ?_
    refine x_iconst (x := 2) dX6_losses_11 rfl ?_
    refine x_icmp_eq (tgt := 37) dX6_losses_12 rfl (fun hc => ?_) (fun hc => ?_)
    · have h := x_t hc h
      refine x_iconst (x := 1) dX6_losses_37 rfl ?_
      refine x_goto (tgt := 42) dX6_losses_38 rfl ?_
      refine x_sub (L1 := [(0, .ref (w.2.2 5 30 0 0)), (1, .int a1), (2, .int a2)]) [0, 1, 2] rfl ?_
      exact TX6_losses_42 hw  h
    · have h := x_f hc h
      refine x_iload_n dX6_losses_15 rfl 2 rfl ?_
      refine x_iconst (x := 3) dX6_losses_16 rfl ?_
      refine x_icmp_eq (tgt := 37) dX6_losses_17 rfl (fun hc => ?_) (fun hc => ?_)
      · have h := x_t hc h
        refine x_iconst (x := 1) dX6_losses_37 rfl ?_
        refine x_goto (tgt := 42) dX6_losses_38 rfl ?_
        refine x_sub (L1 := [(0, .ref (w.2.2 5 30 0 0)), (1, .int a1), (2, .int a2)]) [0, 1, 2] rfl ?_
        exact TX6_losses_42 hw  h
      · have h := x_f hc h
        refine x_iload_n dX6_losses_20 rfl 2 rfl ?_
        refine x_iconst (x := 5) dX6_losses_21 rfl ?_
        refine x_icmp_eq (tgt := 37) dX6_losses_22 rfl (fun hc => ?_) (fun hc => ?_)
        · have h := x_t hc h
          refine x_iconst (x := 1) dX6_losses_37 rfl ?_
          refine x_goto (tgt := 42) dX6_losses_38 rfl ?_
          refine x_sub (L1 := [(0, .ref (w.2.2 5 30 0 0)), (1, .int a1), (2, .int a2)]) [0, 1, 2] rfl ?_
          exact TX6_losses_42 hw  h
        · have h := x_f hc h
          refine x_iload_n dX6_losses_25 rfl 2 rfl ?_
          refine x_bipush (x := 8) dX6_losses_26 rfl ?_
          refine x_icmp_eq (tgt := 37) dX6_losses_28 rfl (fun hc => ?_) (fun hc => ?_)
          · have h := x_t hc h
            refine x_iconst (x := 1) dX6_losses_37 rfl ?_
            refine x_goto (tgt := 42) dX6_losses_38 rfl ?_
            refine x_sub (L1 := [(0, .ref (w.2.2 5 30 0 0)), (1, .int a1), (2, .int a2)]) [0, 1, 2] rfl ?_
            exact TX6_losses_42 hw  h
          · have h := x_f hc h
            refine x_iload_n dX6_losses_31 rfl 2 rfl ?_
            refine x_bipush (x := 9) dX6_losses_32 rfl ?_
            refine x_icmp_ne (tgt := 41) dX6_losses_34 rfl (fun hc => ?_) (fun hc => ?_)
            · have h := x_f hc h
              refine x_iconst (x := 0) dX6_losses_41 rfl ?_
              refine x_sub (L1 := [(0, .ref (w.2.2 5 30 0 0)), (1, .int a1), (2, .int a2)]) [0, 1, 2] rfl ?_
              exact TX6_losses_42 hw  h
            · have h := x_t hc h
              refine x_iconst (x := 1) dX6_losses_37 rfl ?_
              refine x_goto (tgt := 42) dX6_losses_38 rfl ?_
              refine x_sub (L1 := [(0, .ref (w.2.2 5 30 0 0)), (1, .int a1), (2, .int a2)]) [0, 1, 2] rfl ?_
              exact TX6_losses_42 hw  h
  · have h := x_t hc h
    refine x_iconst (x := (-1)) dX6_losses_8 (by decide) ?_
    exact x_iretH rfl dX6_losses_9 h
def fX6_lostCells (a1 : Int32) (σ : xS) : Option (Int32 × xS) :=
  x_b (fX6_ofPort a1 10 σ) fun z1 s1 => some (z1, s1)
set_option maxRecDepth 100000 in
set_option maxHeartbeats 4000000 in
theorem eX6_lostCells {l : Launch} {w : xW} (hw : w.1.2 = true) {a1 : Int32} {σ τ : xS} {r : Int32} (h : fX6_lostCells a1 σ = some (r, τ)) : xEV l w yX6_lostCells mX6_lostCells [.ref (w.2.2 5 30 0 0), .int a1] σ (some (.int r)) τ := by
  rw [fX6_lostCells] at h
  refine x_enter (by decide +kernel) rfl (Nat.le_of_ble_eq_true rfl) ?_
  refine x_sub (L1 := [(0, .ref (w.2.2 5 30 0 0)), (1, .int a1)]) [0, 1] rfl ?_
  refine x_aload_n dX6_lostCells_0 rfl 0 rfl ?_
  refine x_iload_n dX6_lostCells_1 rfl 1 rfl ?_
  refine x_bipush (x := 10) dX6_lostCells_2 rfl ?_
  obtain ⟨z1, s1, h1, h⟩ := x_b_e h
  refine x_callV (As := [.int a1, .int 10]) (st := []) (eX6_ofPort hw  h1) cv_X6_183 (Nat.le_of_ble_eq_true rfl) (ok_e30 hw) rfl (Nat.le_of_ble_eq_true rfl) _ rfl dX6_lostCells_4 [.int z1] rfl ?_
  exact x_iretH rfl dX6_lostCells_7 h
def fX6_lossCause (a1 : Int32) (σ : xS) : Option (Int32 × xS) :=
  x_b (fX6_in a1 0 3 σ) fun z1 s1 => if z1 = 0 then (some ((-1), s1)) else (if (s1 5 31 0 0 5) = 1 then (x_let (6 + a1) fun t2 => x_g (x_in t2 6464) (some ((s1 5 31 0 0 t2.toNatClampNeg), s1))) else (some ((-5), s1)))
set_option maxRecDepth 100000 in
set_option maxHeartbeats 4000000 in
theorem eX6_lossCause {l : Launch} {w : xW} (hw : w.1.2 = true) {a1 : Int32} {σ τ : xS} {r : Int32} (h : fX6_lossCause a1 σ = some (r, τ)) : xEV l w yX6_lossCause mX6_lossCause [.ref (w.2.2 5 30 0 0), .int a1] σ (some (.int r)) τ := by
  rw [fX6_lossCause] at h
  refine x_enter (by decide +kernel) rfl (Nat.le_of_ble_eq_true rfl) ?_
  refine x_sub (L1 := [(0, .ref (w.2.2 5 30 0 0)), (1, .int a1)]) [0, 1] rfl ?_
  refine x_iload_n dX6_lossCause_0 rfl 1 rfl ?_
  refine x_iconst (x := 0) dX6_lossCause_1 rfl ?_
  refine x_iconst (x := 3) dX6_lossCause_2 rfl ?_
  obtain ⟨z1, s1, h1, h⟩ := x_b_e h
  refine x_callS (As := [.int a1, .int 0, .int 3]) (st := []) (eX6_in hw  h1) cs_X6_36 (Nat.le_of_ble_eq_true rfl) rfl (Nat.le_of_ble_eq_true rfl) _ rfl dX6_lossCause_3 [.int z1] rfl ?_
  refine x_if_ne (tgt := 11) dX6_lossCause_6 rfl (fun hc => ?_) (fun hc => ?_)
  · have h := x_f hc h
    refine x_aload_n dX6_lossCause_11 rfl 0 rfl ?_
    refine x_getR (d1 := 5) (K1 := 31) (p1 := 0) (r1 := 0) fl_X6_7 (ok_e30 hw) rfl dX6_lossCause_12 ?_
    refine x_iconst (x := 5) dX6_lossCause_15 rfl ?_
    refine x_iald 6464 5 rfl rfl rfl rfl (ok_e31 hw) rfl dX6_lossCause_16 ?_
    refine x_iconst (x := 1) dX6_lossCause_17 rfl ?_
    refine x_icmp_ne (tgt := 33) dX6_lossCause_18 rfl (fun hc => ?_) (fun hc => ?_)
    · have h := x_f hc h
      refine x_bipush (x := (-5)) dX6_lossCause_33 (by decide) ?_
      exact x_iretH rfl dX6_lossCause_35 h
    · have h := x_t hc h
      refine x_aload_n dX6_lossCause_21 rfl 0 rfl ?_
      refine x_getR (d1 := 5) (K1 := 31) (p1 := 0) (r1 := 0) fl_X6_7 (ok_e30 hw) rfl dX6_lossCause_22 ?_
      refine x_bipush (x := 6) dX6_lossCause_25 rfl ?_
      refine x_iload_n dX6_lossCause_27 rfl 1 rfl ?_
      refine x_iadd dX6_lossCause_28 ?_
      obtain ⟨t2, ht2, h⟩ := x_let_e h
      refine x_nm t2 ht2 ?_
      obtain ⟨hg3, h⟩ := x_g_e h
      refine x_iald 6464 t2.toNatClampNeg rfl rfl rfl rfl (ok_e31 hw) hg3 dX6_lossCause_29 ?_
      refine x_goto (tgt := 35) dX6_lossCause_30 rfl ?_
      exact x_iretH rfl dX6_lossCause_35 h
  · have h := x_t hc h
    refine x_iconst (x := (-1)) dX6_lossCause_9 (by decide) ?_
    exact x_iretH rfl dX6_lossCause_10 h
def fX6_departed (a1 : Int32) (σ : xS) : Option (Int32 × xS) :=
  x_b (fX6_ofPort a1 9 σ) fun z1 s1 => some (z1, s1)
set_option maxRecDepth 100000 in
set_option maxHeartbeats 4000000 in
theorem eX6_departed {l : Launch} {w : xW} (hw : w.1.2 = true) {a1 : Int32} {σ τ : xS} {r : Int32} (h : fX6_departed a1 σ = some (r, τ)) : xEV l w yX6_departed mX6_departed [.ref (w.2.2 5 30 0 0), .int a1] σ (some (.int r)) τ := by
  rw [fX6_departed] at h
  refine x_enter (by decide +kernel) rfl (Nat.le_of_ble_eq_true rfl) ?_
  refine x_sub (L1 := [(0, .ref (w.2.2 5 30 0 0)), (1, .int a1)]) [0, 1] rfl ?_
  refine x_aload_n dX6_departed_0 rfl 0 rfl ?_
  refine x_iload_n dX6_departed_1 rfl 1 rfl ?_
  refine x_bipush (x := 9) dX6_departed_2 rfl ?_
  obtain ⟨z1, s1, h1, h⟩ := x_b_e h
  refine x_callV (As := [.int a1, .int 9]) (st := []) (eX6_ofPort hw  h1) cv_X6_183 (Nat.le_of_ble_eq_true rfl) (ok_e30 hw) rfl (Nat.le_of_ble_eq_true rfl) _ rfl dX6_departed_4 [.int z1] rfl ?_
  exact x_iretH rfl dX6_departed_7 h
def fX6_admitted (σ : xS) : Option (Int32 × xS) :=
  some ((σ 5 31 0 0 4), σ)
set_option maxRecDepth 100000 in
set_option maxHeartbeats 4000000 in
theorem eX6_admitted {l : Launch} {w : xW} (hw : w.1.2 = true) {σ τ : xS} {r : Int32} (h : fX6_admitted σ = some (r, τ)) : xEV l w yX6_admitted mX6_admitted [.ref (w.2.2 5 30 0 0)] σ (some (.int r)) τ := by
  rw [fX6_admitted] at h
  refine x_enter (by decide +kernel) rfl (Nat.le_of_ble_eq_true rfl) ?_
  refine x_sub (L1 := [(0, .ref (w.2.2 5 30 0 0))]) [0] rfl ?_
  refine x_aload_n dX6_admitted_0 rfl 0 rfl ?_
  refine x_getR (d1 := 5) (K1 := 31) (p1 := 0) (r1 := 0) fl_X6_7 (ok_e30 hw) rfl dX6_admitted_1 ?_
  refine x_iconst (x := 4) dX6_admitted_4 rfl ?_
  refine x_iald 6464 4 rfl rfl rfl rfl (ok_e31 hw) rfl dX6_admitted_5 ?_
  exact x_iretH rfl dX6_admitted_6 h
def fX6_time (σ : xS) : Option (Int32 × xS) :=
  some ((σ 5 31 0 0 3), σ)
set_option maxRecDepth 100000 in
set_option maxHeartbeats 4000000 in
theorem eX6_time {l : Launch} {w : xW} (hw : w.1.2 = true) {σ τ : xS} {r : Int32} (h : fX6_time σ = some (r, τ)) : xEV l w yX6_time mX6_time [.ref (w.2.2 5 30 0 0)] σ (some (.int r)) τ := by
  rw [fX6_time] at h
  refine x_enter (by decide +kernel) rfl (Nat.le_of_ble_eq_true rfl) ?_
  refine x_sub (L1 := [(0, .ref (w.2.2 5 30 0 0))]) [0] rfl ?_
  refine x_aload_n dX6_time_0 rfl 0 rfl ?_
  refine x_getR (d1 := 5) (K1 := 31) (p1 := 0) (r1 := 0) fl_X6_7 (ok_e30 hw) rfl dX6_time_1 ?_
  refine x_iconst (x := 3) dX6_time_4 rfl ?_
  refine x_iald 6464 3 rfl rfl rfl rfl (ok_e31 hw) rfl dX6_time_5 ?_
  exact x_iretH rfl dX6_time_6 h
def fX6_queueLength (a1 : Int32) (a2 : Int32) (σ : xS) : Option (Int32 × xS) :=
  x_b (fX6_ofQueue a1 a2 12 σ) fun z1 s1 => some (z1, s1)
set_option maxRecDepth 100000 in
set_option maxHeartbeats 4000000 in
theorem eX6_queueLength {l : Launch} {w : xW} (hw : w.1.2 = true) {a1 : Int32} {a2 : Int32} {σ τ : xS} {r : Int32} (h : fX6_queueLength a1 a2 σ = some (r, τ)) : xEV l w yX6_queueLength mX6_queueLength [.ref (w.2.2 5 30 0 0), .int a1, .int a2] σ (some (.int r)) τ := by
  rw [fX6_queueLength] at h
  refine x_enter (by decide +kernel) rfl (Nat.le_of_ble_eq_true rfl) ?_
  refine x_sub (L1 := [(0, .ref (w.2.2 5 30 0 0)), (1, .int a1), (2, .int a2)]) [0, 1, 2] rfl ?_
  refine x_aload_n dX6_queueLength_0 rfl 0 rfl ?_
  refine x_iload_n dX6_queueLength_1 rfl 1 rfl ?_
  refine x_iload_n dX6_queueLength_2 rfl 2 rfl ?_
  refine x_bipush (x := 12) dX6_queueLength_3 rfl ?_
  obtain ⟨z1, s1, h1, h⟩ := x_b_e h
  refine x_callV (As := [.int a1, .int a2, .int 12]) (st := []) (eX6_ofQueue hw  h1) cv_X6_186 (Nat.le_of_ble_eq_true rfl) (ok_e30 hw) rfl (Nat.le_of_ble_eq_true rfl) _ rfl dX6_queueLength_5 [.int z1] rfl ?_
  exact x_iretH rfl dX6_queueLength_8 h
def fX6_packetAt (a1 : Int32) (a2 : Int32) (a3 : Int32) (σ : xS) : Option (Int32 × xS) :=
  x_b (fX6_isQueue a1 a2 σ) fun z1 s1 => if z1 = 0 then (some ((-1), s1)) else (x_b (fX6_queue ((3 * a1) + a2) 12 s1) fun z2 s2 => x_g (x_in z2 6464) (x_b (fX6_in a3 0 ((s2 5 31 0 0 z2.toNatClampNeg) - 1) s2) fun z4 s4 => if z4 = 0 then (some ((-1), s4)) else (x_b (fX6_entry ((3 * a1) + a2) a3 s4) fun z5 s5 => x_g (x_in z5 6464) (x_b (fX6_packet (s5 5 31 0 0 z5.toNatClampNeg) 0 s5) fun z7 s7 => x_g (x_in z7 6464) (some ((s7 5 31 0 0 z7.toNatClampNeg), s7))))))
set_option maxRecDepth 100000 in
set_option maxHeartbeats 4000000 in
theorem eX6_packetAt {l : Launch} {w : xW} (hw : w.1.2 = true) {a1 : Int32} {a2 : Int32} {a3 : Int32} {σ τ : xS} {r : Int32} (h : fX6_packetAt a1 a2 a3 σ = some (r, τ)) : xEV l w yX6_packetAt mX6_packetAt [.ref (w.2.2 5 30 0 0), .int a1, .int a2, .int a3] σ (some (.int r)) τ := by
  rw [fX6_packetAt] at h
  refine x_enter (by decide +kernel) rfl (Nat.le_of_ble_eq_true rfl) ?_
  refine x_sub (L1 := [(0, .ref (w.2.2 5 30 0 0)), (1, .int a1), (2, .int a2), (3, .int a3)]) [0, 1, 2, 3] rfl ?_
  refine x_aload_n dX6_packetAt_0 rfl 0 rfl ?_
  refine x_iload_n dX6_packetAt_1 rfl 1 rfl ?_
  refine x_iload_n dX6_packetAt_2 rfl 2 rfl ?_
  obtain ⟨z1, s1, h1, h⟩ := x_b_e h
  refine x_callV (As := [.int a1, .int a2]) (st := []) (eX6_isQueue hw  h1) cv_X6_75 (Nat.le_of_ble_eq_true rfl) (ok_e30 hw) rfl (Nat.le_of_ble_eq_true rfl) _ rfl dX6_packetAt_3 [.int z1] rfl ?_
  refine x_if_eq (tgt := 34) dX6_packetAt_6 rfl (fun hc => ?_) (fun hc => ?_)
  · have h := x_t hc h
    refine x_iconst (x := (-1)) dX6_packetAt_34 (by decide) ?_
    exact x_iretH rfl dX6_packetAt_35 h
  · have h := x_f hc h
    refine x_iload_n dX6_packetAt_9 rfl 3 rfl ?_
    refine x_iconst (x := 0) dX6_packetAt_10 rfl ?_
    refine x_aload_n dX6_packetAt_11 rfl 0 rfl ?_
    refine x_getR (d1 := 5) (K1 := 31) (p1 := 0) (r1 := 0) fl_X6_7 (ok_e30 hw) rfl dX6_packetAt_12 ?_
    refine x_iconst (x := 3) dX6_packetAt_15 rfl ?_
    refine x_iload_n dX6_packetAt_16 rfl 1 rfl ?_
    refine x_imul dX6_packetAt_17 ?_
    refine x_iload_n dX6_packetAt_18 rfl 2 rfl ?_
    refine x_iadd dX6_packetAt_19 ?_
    refine x_bipush (x := 12) dX6_packetAt_20 rfl ?_
    obtain ⟨z2, s2, h2, h⟩ := x_b_e h
    refine x_callS (As := [.int ((3 * a1) + a2), .int 12]) (st := [.ref (w.2.2 5 31 0 0), .int 0, .int a3]) (eX6_queue hw  h2) cs_X6_48 (Nat.le_of_ble_eq_true rfl) rfl (Nat.le_of_ble_eq_true rfl) _ rfl dX6_packetAt_22 [.int z2, .ref (w.2.2 5 31 0 0), .int 0, .int a3] rfl ?_
    obtain ⟨hg3, h⟩ := x_g_e h
    refine x_iald 6464 z2.toNatClampNeg rfl rfl rfl rfl (ok_e31 hw) hg3 dX6_packetAt_25 ?_
    refine x_iconst (x := 1) dX6_packetAt_26 rfl ?_
    refine x_isub dX6_packetAt_27 ?_
    obtain ⟨z4, s4, h4, h⟩ := x_b_e h
    refine x_callS (As := [.int a3, .int 0, .int ((s2 5 31 0 0 z2.toNatClampNeg) - 1)]) (st := []) (eX6_in hw  h4) cs_X6_36 (Nat.le_of_ble_eq_true rfl) rfl (Nat.le_of_ble_eq_true rfl) _ rfl dX6_packetAt_28 [.int z4] rfl ?_
    refine x_if_ne (tgt := 36) dX6_packetAt_31 rfl (fun hc => ?_) (fun hc => ?_)
    · have h := x_f hc h
      refine x_aload_n dX6_packetAt_36 rfl 0 rfl ?_
      refine x_getR (d1 := 5) (K1 := 31) (p1 := 0) (r1 := 0) fl_X6_7 (ok_e30 hw) rfl dX6_packetAt_37 ?_
      refine x_aload_n dX6_packetAt_40 rfl 0 rfl ?_
      refine x_getR (d1 := 5) (K1 := 31) (p1 := 0) (r1 := 0) fl_X6_7 (ok_e30 hw) rfl dX6_packetAt_41 ?_
      refine x_iconst (x := 3) dX6_packetAt_44 rfl ?_
      refine x_iload_n dX6_packetAt_45 rfl 1 rfl ?_
      refine x_imul dX6_packetAt_46 ?_
      refine x_iload_n dX6_packetAt_47 rfl 2 rfl ?_
      refine x_iadd dX6_packetAt_48 ?_
      refine x_iload_n dX6_packetAt_49 rfl 3 rfl ?_
      obtain ⟨z5, s5, h5, h⟩ := x_b_e h
      refine x_callS (As := [.int ((3 * a1) + a2), .int a3]) (st := [.ref (w.2.2 5 31 0 0), .ref (w.2.2 5 31 0 0)]) (eX6_entry hw  h5) cs_X6_107 (Nat.le_of_ble_eq_true rfl) rfl (Nat.le_of_ble_eq_true rfl) _ rfl dX6_packetAt_50 [.int z5, .ref (w.2.2 5 31 0 0), .ref (w.2.2 5 31 0 0)] rfl ?_
      obtain ⟨hg6, h⟩ := x_g_e h
      refine x_iald 6464 z5.toNatClampNeg rfl rfl rfl rfl (ok_e31 hw) hg6 dX6_packetAt_53 ?_
      refine x_iconst (x := 0) dX6_packetAt_54 rfl ?_
      obtain ⟨z7, s7, h7, h⟩ := x_b_e h
      refine x_callS (As := [.int (s5 5 31 0 0 z5.toNatClampNeg), .int 0]) (st := [.ref (w.2.2 5 31 0 0)]) (eX6_packet hw  h7) cs_X6_92 (Nat.le_of_ble_eq_true rfl) rfl (Nat.le_of_ble_eq_true rfl) _ rfl dX6_packetAt_55 [.int z7, .ref (w.2.2 5 31 0 0)] rfl ?_
      obtain ⟨hg8, h⟩ := x_g_e h
      refine x_iald 6464 z7.toNatClampNeg rfl rfl rfl rfl (ok_e31 hw) hg8 dX6_packetAt_58 ?_
      exact x_iretH rfl dX6_packetAt_59 h
    · have h := x_t hc h
      refine x_iconst (x := (-1)) dX6_packetAt_34 (by decide) ?_
      exact x_iretH rfl dX6_packetAt_35 h
def fX6_fragments (a1 : Int32) (σ : xS) : Option (Int32 × xS) :=
  x_b (fX6_slotOf a1 σ) fun z1 s1 => if 0 ≤ z1 then (x_b (fX6_packet z1 2 s1) fun z2 s2 => x_g (x_in z2 6464) (some ((s2 5 31 0 0 z2.toNatClampNeg), s2))) else (some ((-1), s1))
set_option maxRecDepth 100000 in
set_option maxHeartbeats 4000000 in
theorem eX6_fragments {l : Launch} {w : xW} (hw : w.1.2 = true) {a1 : Int32} {σ τ : xS} {r : Int32} (h : fX6_fragments a1 σ = some (r, τ)) : xEV l w yX6_fragments mX6_fragments [.ref (w.2.2 5 30 0 0), .int a1] σ (some (.int r)) τ := by
  rw [fX6_fragments] at h
  refine x_enter (by decide +kernel) rfl (Nat.le_of_ble_eq_true rfl) ?_
  refine x_sub (L1 := [(0, .ref (w.2.2 5 30 0 0)), (1, .int a1)]) [0, 1] rfl ?_
  refine x_aload_n dX6_fragments_0 rfl 0 rfl ?_
  refine x_iload_n dX6_fragments_1 rfl 1 rfl ?_
  obtain ⟨z1, s1, h1, h⟩ := x_b_e h
  refine x_callV (As := [.int a1]) (st := []) (eX6_slotOf hw  h1) cv_X6_190 (Nat.le_of_ble_eq_true rfl) (ok_e30 hw) rfl (Nat.le_of_ble_eq_true rfl) _ rfl dX6_fragments_2 [.int z1] rfl ?_
  refine x_istore_n z1 rfl dX6_fragments_5 rfl (Nat.le_of_ble_eq_true rfl) [(2, .int z1), (0, .ref (w.2.2 5 30 0 0)), (1, .int a1)] rfl ?_
  refine x_iload_n dX6_fragments_6 rfl 0 rfl ?_
  refine x_if_ge (tgt := 14) dX6_fragments_7 rfl (fun hc => ?_) (fun hc => ?_)
  · have h := x_t hc h
    refine x_aload_n dX6_fragments_14 rfl 1 rfl ?_
    refine x_getR (d1 := 5) (K1 := 31) (p1 := 0) (r1 := 0) fl_X6_7 (ok_e30 hw) rfl dX6_fragments_15 ?_
    refine x_iload_n dX6_fragments_18 rfl 0 rfl ?_
    refine x_iconst (x := 2) dX6_fragments_19 rfl ?_
    obtain ⟨z2, s2, h2, h⟩ := x_b_e h
    refine x_callS (As := [.int z1, .int 2]) (st := [.ref (w.2.2 5 31 0 0)]) (eX6_packet hw  h2) cs_X6_92 (Nat.le_of_ble_eq_true rfl) rfl (Nat.le_of_ble_eq_true rfl) _ rfl dX6_fragments_20 [.int z2, .ref (w.2.2 5 31 0 0)] rfl ?_
    obtain ⟨hg3, h⟩ := x_g_e h
    refine x_iald 6464 z2.toNatClampNeg rfl rfl rfl rfl (ok_e31 hw) hg3 dX6_fragments_23 ?_
    exact x_iretH rfl dX6_fragments_24 h
  · have h := x_f hc h
    refine x_iconst (x := (-1)) dX6_fragments_10 (by decide) ?_
    refine x_goto (tgt := 24) dX6_fragments_11 rfl ?_
    exact x_iretH rfl dX6_fragments_24 h
def fX6_ofFragment (a1 : Int32) (a2 : Int32) (a3 : Int32) (σ : xS) : Option (Int32 × xS) :=
  x_b (fX6_slotOf a1 σ) fun z1 s1 => if z1 < 0 then (some ((-1), s1)) else (x_b (fX6_packet z1 2 s1) fun z2 s2 => x_g (x_in z2 6464) (x_b (fX6_in a2 0 ((s2 5 31 0 0 z2.toNatClampNeg) - 1) s2) fun z4 s4 => if z4 = 0 then (some ((-1), s4)) else (x_b (fX6_packet z1 (a3 + a2) s4) fun z5 s5 => x_g (x_in z5 6464) (some ((s5 5 31 0 0 z5.toNatClampNeg), s5)))))
set_option maxRecDepth 100000 in
set_option maxHeartbeats 4000000 in
theorem eX6_ofFragment {l : Launch} {w : xW} (hw : w.1.2 = true) {a1 : Int32} {a2 : Int32} {a3 : Int32} {σ τ : xS} {r : Int32} (h : fX6_ofFragment a1 a2 a3 σ = some (r, τ)) : xEV l w yX6_ofFragment mX6_ofFragment [.ref (w.2.2 5 30 0 0), .int a1, .int a2, .int a3] σ (some (.int r)) τ := by
  rw [fX6_ofFragment] at h
  refine x_enter (by decide +kernel) rfl (Nat.le_of_ble_eq_true rfl) ?_
  refine x_sub (L1 := [(0, .ref (w.2.2 5 30 0 0)), (1, .int a1), (2, .int a2), (3, .int a3)]) [0, 1, 2, 3] rfl ?_
  refine x_aload_n dX6_ofFragment_0 rfl 0 rfl ?_
  refine x_iload_n dX6_ofFragment_1 rfl 1 rfl ?_
  obtain ⟨z1, s1, h1, h⟩ := x_b_e h
  refine x_callV (As := [.int a1]) (st := []) (eX6_slotOf hw  h1) cv_X6_190 (Nat.le_of_ble_eq_true rfl) (ok_e30 hw) rfl (Nat.le_of_ble_eq_true rfl) _ rfl dX6_ofFragment_2 [.int z1] rfl ?_
  refine x_istore z1 rfl dX6_ofFragment_5 (Nat.le_of_ble_eq_true rfl) [(4, .int z1), (0, .ref (w.2.2 5 30 0 0)), (1, .int a1), (2, .int a2), (3, .int a3)] rfl ?_
  refine x_iload dX6_ofFragment_7 0 rfl ?_
  refine x_if_lt (tgt := 49) dX6_ofFragment_9 rfl (fun hc => ?_) (fun hc => ?_)
  · have h := x_t hc h
    refine x_iconst (x := (-1)) dX6_ofFragment_49 (by decide) ?_
    exact x_iretH rfl dX6_ofFragment_50 h
  · have h := x_f hc h
    refine x_iload_n dX6_ofFragment_12 rfl 3 rfl ?_
    refine x_iconst (x := 0) dX6_ofFragment_13 rfl ?_
    refine x_aload_n dX6_ofFragment_14 rfl 1 rfl ?_
    refine x_getR (d1 := 5) (K1 := 31) (p1 := 0) (r1 := 0) fl_X6_7 (ok_e30 hw) rfl dX6_ofFragment_15 ?_
    refine x_iload dX6_ofFragment_18 0 rfl ?_
    refine x_iconst (x := 2) dX6_ofFragment_20 rfl ?_
    obtain ⟨z2, s2, h2, h⟩ := x_b_e h
    refine x_callS (As := [.int z1, .int 2]) (st := [.ref (w.2.2 5 31 0 0), .int 0, .int a2]) (eX6_packet hw  h2) cs_X6_92 (Nat.le_of_ble_eq_true rfl) rfl (Nat.le_of_ble_eq_true rfl) _ rfl dX6_ofFragment_21 [.int z2, .ref (w.2.2 5 31 0 0), .int 0, .int a2] rfl ?_
    obtain ⟨hg3, h⟩ := x_g_e h
    refine x_iald 6464 z2.toNatClampNeg rfl rfl rfl rfl (ok_e31 hw) hg3 dX6_ofFragment_24 ?_
    refine x_iconst (x := 1) dX6_ofFragment_25 rfl ?_
    refine x_isub dX6_ofFragment_26 ?_
    obtain ⟨z4, s4, h4, h⟩ := x_b_e h
    refine x_callS (As := [.int a2, .int 0, .int ((s2 5 31 0 0 z2.toNatClampNeg) - 1)]) (st := []) (eX6_in hw  h4) cs_X6_36 (Nat.le_of_ble_eq_true rfl) rfl (Nat.le_of_ble_eq_true rfl) _ rfl dX6_ofFragment_27 [.int z4] rfl ?_
    refine x_if_eq (tgt := 49) dX6_ofFragment_30 rfl (fun hc => ?_) (fun hc => ?_)
    · have h := x_t hc h
      refine x_iconst (x := (-1)) dX6_ofFragment_49 (by decide) ?_
      exact x_iretH rfl dX6_ofFragment_50 h
    · have h := x_f hc h
      refine x_aload_n dX6_ofFragment_33 rfl 1 rfl ?_
      refine x_getR (d1 := 5) (K1 := 31) (p1 := 0) (r1 := 0) fl_X6_7 (ok_e30 hw) rfl dX6_ofFragment_34 ?_
      refine x_iload dX6_ofFragment_37 0 rfl ?_
      refine x_iload_n dX6_ofFragment_39 rfl 4 rfl ?_
      refine x_iload_n dX6_ofFragment_40 rfl 3 rfl ?_
      refine x_iadd dX6_ofFragment_41 ?_
      obtain ⟨z5, s5, h5, h⟩ := x_b_e h
      refine x_callS (As := [.int z1, .int (a3 + a2)]) (st := [.ref (w.2.2 5 31 0 0)]) (eX6_packet hw  h5) cs_X6_92 (Nat.le_of_ble_eq_true rfl) rfl (Nat.le_of_ble_eq_true rfl) _ rfl dX6_ofFragment_42 [.int z5, .ref (w.2.2 5 31 0 0)] rfl ?_
      obtain ⟨hg6, h⟩ := x_g_e h
      refine x_iald 6464 z5.toNatClampNeg rfl rfl rfl rfl (ok_e31 hw) hg6 dX6_ofFragment_45 ?_
      refine x_goto (tgt := 50) dX6_ofFragment_46 rfl ?_
      exact x_iretH rfl dX6_ofFragment_50 h
def fX6_fragmentStart (a1 : Int32) (a2 : Int32) (σ : xS) : Option (Int32 × xS) :=
  x_b (fX6_ofFragment a1 a2 4 σ) fun z1 s1 => some (z1, s1)
set_option maxRecDepth 100000 in
set_option maxHeartbeats 4000000 in
theorem eX6_fragmentStart {l : Launch} {w : xW} (hw : w.1.2 = true) {a1 : Int32} {a2 : Int32} {σ τ : xS} {r : Int32} (h : fX6_fragmentStart a1 a2 σ = some (r, τ)) : xEV l w yX6_fragmentStart mX6_fragmentStart [.ref (w.2.2 5 30 0 0), .int a1, .int a2] σ (some (.int r)) τ := by
  rw [fX6_fragmentStart] at h
  refine x_enter (by decide +kernel) rfl (Nat.le_of_ble_eq_true rfl) ?_
  refine x_sub (L1 := [(0, .ref (w.2.2 5 30 0 0)), (1, .int a1), (2, .int a2)]) [0, 1, 2] rfl ?_
  refine x_aload_n dX6_fragmentStart_0 rfl 0 rfl ?_
  refine x_iload_n dX6_fragmentStart_1 rfl 1 rfl ?_
  refine x_iload_n dX6_fragmentStart_2 rfl 2 rfl ?_
  refine x_iconst (x := 4) dX6_fragmentStart_3 rfl ?_
  obtain ⟨z1, s1, h1, h⟩ := x_b_e h
  refine x_callV (As := [.int a1, .int a2, .int 4]) (st := []) (eX6_ofFragment hw  h1) cv_X6_193 (Nat.le_of_ble_eq_true rfl) (ok_e30 hw) rfl (Nat.le_of_ble_eq_true rfl) _ rfl dX6_fragmentStart_4 [.int z1] rfl ?_
  exact x_iretH rfl dX6_fragmentStart_7 h
def fX6_fragmentLength (a1 : Int32) (a2 : Int32) (σ : xS) : Option (Int32 × xS) :=
  x_b (fX6_ofFragment a1 a2 16 σ) fun z1 s1 => some (z1, s1)
set_option maxRecDepth 100000 in
set_option maxHeartbeats 4000000 in
theorem eX6_fragmentLength {l : Launch} {w : xW} (hw : w.1.2 = true) {a1 : Int32} {a2 : Int32} {σ τ : xS} {r : Int32} (h : fX6_fragmentLength a1 a2 σ = some (r, τ)) : xEV l w yX6_fragmentLength mX6_fragmentLength [.ref (w.2.2 5 30 0 0), .int a1, .int a2] σ (some (.int r)) τ := by
  rw [fX6_fragmentLength] at h
  refine x_enter (by decide +kernel) rfl (Nat.le_of_ble_eq_true rfl) ?_
  refine x_sub (L1 := [(0, .ref (w.2.2 5 30 0 0)), (1, .int a1), (2, .int a2)]) [0, 1, 2] rfl ?_
  refine x_aload_n dX6_fragmentLength_0 rfl 0 rfl ?_
  refine x_iload_n dX6_fragmentLength_1 rfl 1 rfl ?_
  refine x_iload_n dX6_fragmentLength_2 rfl 2 rfl ?_
  refine x_bipush (x := 16) dX6_fragmentLength_3 rfl ?_
  obtain ⟨z1, s1, h1, h⟩ := x_b_e h
  refine x_callV (As := [.int a1, .int a2, .int 16]) (st := []) (eX6_ofFragment hw  h1) cv_X6_193 (Nat.le_of_ble_eq_true rfl) (ok_e30 hw) rfl (Nat.le_of_ble_eq_true rfl) _ rfl dX6_fragmentLength_5 [.int z1] rfl ?_
  exact x_iretH rfl dX6_fragmentLength_8 h
def BX6_freeRuns_4 : Nat → Int32 → Int32 → xS → Option (Int32 × xS)
  | 0, _, _, _ => none
  | n + 1, a1, a2, σ => if (σ 5 31 0 0 0) ≤ a2 then (some (a1, σ)) else (x_b (fX6_runAt a2 σ) fun z1 s1 => if z1 ≤ 0 then (x_let (a1 + 0) fun t2 => x_let (a2 + 1) fun t3 => (BX6_freeRuns_4 n) t2 t3 s1) else (x_let (a1 + 1) fun t4 => x_let (a2 + 1) fun t5 => (BX6_freeRuns_4 n) t4 t5 s1))
set_option maxRecDepth 100000 in
set_option maxHeartbeats 4000000 in
theorem TX6_freeRuns_4 {l : Launch} {w : xW} (hw : w.1.2 = true) {τ : xS} {r : Int32} : ∀ (n : Nat) (a1 : Int32) (a2 : Int32) (σ : xS), BX6_freeRuns_4 n a1 a2 σ = some (r, τ) → xAt l w mX6_freeRuns 4 [(0, .ref (w.2.2 5 30 0 0)), (1, .int a1), (2, .int a2)] [] σ (some (.int r)) τ := by
  intro n
  induction n with
  | zero => intro a1 a2 σ h; cases h
  | succ n ih =>
    intro a1 a2 σ h
    rw [BX6_freeRuns_4] at h
    refine x_iload_n dX6_freeRuns_4 rfl 2 rfl ?_
    refine x_aload_n dX6_freeRuns_5 rfl 0 rfl ?_
    refine x_getR (d1 := 5) (K1 := 31) (p1 := 0) (r1 := 0) fl_X6_7 (ok_e30 hw) rfl dX6_freeRuns_6 ?_
    refine x_iconst (x := 0) dX6_freeRuns_9 rfl ?_
    refine x_iald 6464 0 rfl rfl rfl rfl (ok_e31 hw) rfl dX6_freeRuns_10 ?_
    refine x_icmp_ge (tgt := 36) dX6_freeRuns_11 rfl (fun hc => ?_) (fun hc => ?_)
    · have h := x_t hc h
      refine x_iload_n dX6_freeRuns_36 rfl 1 rfl ?_
      exact x_iretH rfl dX6_freeRuns_37 h
    · have h := x_f hc h
      refine x_iload_n dX6_freeRuns_14 rfl 1 rfl ?_
      refine x_aload_n dX6_freeRuns_15 rfl 0 rfl ?_
      refine x_iload_n dX6_freeRuns_16 rfl 2 rfl ?_
      obtain ⟨z1, s1, h1, h⟩ := x_b_e h
      refine x_callV (As := [.int a2]) (st := [.int a1]) (eX6_runAt hw  h1) cv_X6_98 (Nat.le_of_ble_eq_true rfl) (ok_e30 hw) rfl (Nat.le_of_ble_eq_true rfl) _ rfl dX6_freeRuns_17 [.int z1, .int a1] rfl ?_
      refine x_if_le (tgt := 27) dX6_freeRuns_20 rfl (fun hc => ?_) (fun hc => ?_)
      · have h := x_t hc h
        refine x_iconst (x := 0) dX6_freeRuns_27 rfl ?_
        refine x_iadd dX6_freeRuns_28 ?_
        obtain ⟨t2, ht2, h⟩ := x_let_e h
        refine x_istore_n t2 ht2 dX6_freeRuns_29 rfl (Nat.le_of_ble_eq_true rfl) [(1, .int t2), (0, .ref (w.2.2 5 30 0 0)), (2, .int a2)] rfl ?_
        obtain ⟨t3, ht3, h⟩ := x_let_e h
        refine x_iinc t3 1 rfl ht3 dX6_freeRuns_30 2 rfl (Nat.le_of_ble_eq_true rfl) [(2, .int t3), (1, .int t2), (0, .ref (w.2.2 5 30 0 0))] rfl ?_
        refine x_goto (tgt := 4) dX6_freeRuns_33 rfl ?_
        refine x_sub (L1 := [(0, .ref (w.2.2 5 30 0 0)), (1, .int t2), (2, .int t3)]) [2, 1, 0] rfl ?_
        exact ih _ _ _ h
      · have h := x_f hc h
        refine x_iconst (x := 1) dX6_freeRuns_23 rfl ?_
        refine x_goto (tgt := 28) dX6_freeRuns_24 rfl ?_
        refine x_iadd dX6_freeRuns_28 ?_
        obtain ⟨t4, ht4, h⟩ := x_let_e h
        refine x_istore_n t4 ht4 dX6_freeRuns_29 rfl (Nat.le_of_ble_eq_true rfl) [(1, .int t4), (0, .ref (w.2.2 5 30 0 0)), (2, .int a2)] rfl ?_
        obtain ⟨t5, ht5, h⟩ := x_let_e h
        refine x_iinc t5 1 rfl ht5 dX6_freeRuns_30 2 rfl (Nat.le_of_ble_eq_true rfl) [(2, .int t5), (1, .int t4), (0, .ref (w.2.2 5 30 0 0))] rfl ?_
        refine x_goto (tgt := 4) dX6_freeRuns_33 rfl ?_
        refine x_sub (L1 := [(0, .ref (w.2.2 5 30 0 0)), (1, .int t4), (2, .int t5)]) [2, 1, 0] rfl ?_
        exact ih _ _ _ h
def fX6_freeRuns (σ : xS) : Option (Int32 × xS) :=
  BX6_freeRuns_4 x_FU 0 0 σ
set_option maxRecDepth 100000 in
set_option maxHeartbeats 4000000 in
theorem eX6_freeRuns {l : Launch} {w : xW} (hw : w.1.2 = true) {σ τ : xS} {r : Int32} (h : fX6_freeRuns σ = some (r, τ)) : xEV l w yX6_freeRuns mX6_freeRuns [.ref (w.2.2 5 30 0 0)] σ (some (.int r)) τ := by
  rw [fX6_freeRuns] at h
  refine x_enter (by decide +kernel) rfl (Nat.le_of_ble_eq_true rfl) ?_
  refine x_sub (L1 := [(0, .ref (w.2.2 5 30 0 0))]) [0] rfl ?_
  refine x_iconst (x := 0) dX6_freeRuns_0 rfl ?_
  refine x_istore_n 0 rfl dX6_freeRuns_1 rfl (Nat.le_of_ble_eq_true rfl) [(1, .int 0), (0, .ref (w.2.2 5 30 0 0))] rfl ?_
  refine x_iconst (x := 0) dX6_freeRuns_2 rfl ?_
  refine x_istore_n 0 rfl dX6_freeRuns_3 rfl (Nat.le_of_ble_eq_true rfl) [(2, .int 0), (1, .int 0), (0, .ref (w.2.2 5 30 0 0))] rfl ?_
  refine x_sub (L1 := [(0, .ref (w.2.2 5 30 0 0)), (1, .int 0), (2, .int 0)]) [2, 1, 0] rfl ?_
  exact TX6_freeRuns_4 hw _ _ _ _ h
def BX6_beginOf_4 : Nat → Int32 → Int32 → xS → Option (Int32 × xS)
  | 0, _, _, _ => none
  | n + 1, a2, a3, σ => if (σ 5 31 0 0 0) ≤ a3 then (some ((-1), σ)) else (x_b (fX6_runAt a3 σ) fun z1 s1 => if z1 ≤ 0 then (x_let (a3 + 1) fun t2 => (BX6_beginOf_4 n) a2 t2 s1) else (if a2 = 0 then (some (a3, s1)) else (x_let (a2 + (-1)) fun t3 => x_let (a3 + 1) fun t4 => (BX6_beginOf_4 n) t3 t4 s1)))
set_option maxRecDepth 100000 in
set_option maxHeartbeats 4000000 in
theorem TX6_beginOf_4 {l : Launch} {w : xW} (hw : w.1.2 = true) {τ : xS} {r : Int32} : ∀ (n : Nat) (a2 : Int32) (a3 : Int32) (σ : xS), BX6_beginOf_4 n a2 a3 σ = some (r, τ) → xAt l w mX6_beginOf 4 [(0, .ref (w.2.2 5 30 0 0)), (2, .int a2), (3, .int a3)] [] σ (some (.int r)) τ := by
  intro n
  induction n with
  | zero => intro a2 a3 σ h; cases h
  | succ n ih =>
    intro a2 a3 σ h
    rw [BX6_beginOf_4] at h
    refine x_iload_n dX6_beginOf_4 rfl 2 rfl ?_
    refine x_aload_n dX6_beginOf_5 rfl 0 rfl ?_
    refine x_getR (d1 := 5) (K1 := 31) (p1 := 0) (r1 := 0) fl_X6_7 (ok_e30 hw) rfl dX6_beginOf_6 ?_
    refine x_iconst (x := 0) dX6_beginOf_9 rfl ?_
    refine x_iald 6464 0 rfl rfl rfl rfl (ok_e31 hw) rfl dX6_beginOf_10 ?_
    refine x_icmp_ge (tgt := 37) dX6_beginOf_11 rfl (fun hc => ?_) (fun hc => ?_)
    · have h := x_t hc h
      refine x_iconst (x := (-1)) dX6_beginOf_37 (by decide) ?_
      exact x_iretH rfl dX6_beginOf_38 h
    · have h := x_f hc h
      refine x_aload_n dX6_beginOf_14 rfl 0 rfl ?_
      refine x_iload_n dX6_beginOf_15 rfl 2 rfl ?_
      obtain ⟨z1, s1, h1, h⟩ := x_b_e h
      refine x_callV (As := [.int a3]) (st := []) (eX6_runAt hw  h1) cv_X6_98 (Nat.le_of_ble_eq_true rfl) (ok_e30 hw) rfl (Nat.le_of_ble_eq_true rfl) _ rfl dX6_beginOf_16 [.int z1] rfl ?_
      refine x_if_le (tgt := 31) dX6_beginOf_19 rfl (fun hc => ?_) (fun hc => ?_)
      · have h := x_t hc h
        obtain ⟨t2, ht2, h⟩ := x_let_e h
        refine x_iinc t2 1 rfl ht2 dX6_beginOf_31 2 rfl (Nat.le_of_ble_eq_true rfl) [(3, .int t2), (0, .ref (w.2.2 5 30 0 0)), (2, .int a2)] rfl ?_
        refine x_goto (tgt := 4) dX6_beginOf_34 rfl ?_
        refine x_sub (L1 := [(0, .ref (w.2.2 5 30 0 0)), (2, .int a2), (3, .int t2)]) [1, 2, 0] rfl ?_
        exact ih _ _ _ h
      · have h := x_f hc h
        refine x_iload_n dX6_beginOf_22 rfl 1 rfl ?_
        refine x_if_ne (tgt := 28) dX6_beginOf_23 rfl (fun hc => ?_) (fun hc => ?_)
        · have h := x_f hc h
          obtain ⟨t3, ht3, h⟩ := x_let_e h
          refine x_iinc t3 (-1) (by decide) ht3 dX6_beginOf_28 1 rfl (Nat.le_of_ble_eq_true rfl) [(2, .int t3), (0, .ref (w.2.2 5 30 0 0)), (3, .int a3)] rfl ?_
          obtain ⟨t4, ht4, h⟩ := x_let_e h
          refine x_iinc t4 1 rfl ht4 dX6_beginOf_31 2 rfl (Nat.le_of_ble_eq_true rfl) [(3, .int t4), (2, .int t3), (0, .ref (w.2.2 5 30 0 0))] rfl ?_
          refine x_goto (tgt := 4) dX6_beginOf_34 rfl ?_
          refine x_sub (L1 := [(0, .ref (w.2.2 5 30 0 0)), (2, .int t3), (3, .int t4)]) [2, 1, 0] rfl ?_
          exact ih _ _ _ h
        · have h := x_t hc h
          refine x_iload_n dX6_beginOf_26 rfl 2 rfl ?_
          exact x_iretH rfl dX6_beginOf_27 h
def fX6_beginOf (a1 : Int32) (σ : xS) : Option (Int32 × xS) :=
  BX6_beginOf_4 x_FU a1 0 σ
set_option maxRecDepth 100000 in
set_option maxHeartbeats 4000000 in
theorem eX6_beginOf {l : Launch} {w : xW} (hw : w.1.2 = true) {a1 : Int32} {σ τ : xS} {r : Int32} (h : fX6_beginOf a1 σ = some (r, τ)) : xEV l w yX6_beginOf mX6_beginOf [.ref (w.2.2 5 30 0 0), .int a1] σ (some (.int r)) τ := by
  rw [fX6_beginOf] at h
  refine x_enter (by decide +kernel) rfl (Nat.le_of_ble_eq_true rfl) ?_
  refine x_sub (L1 := [(0, .ref (w.2.2 5 30 0 0)), (1, .int a1)]) [0, 1] rfl ?_
  refine x_iload_n dX6_beginOf_0 rfl 1 rfl ?_
  refine x_istore_n a1 rfl dX6_beginOf_1 rfl (Nat.le_of_ble_eq_true rfl) [(2, .int a1), (0, .ref (w.2.2 5 30 0 0)), (1, .int a1)] rfl ?_
  refine x_iconst (x := 0) dX6_beginOf_2 rfl ?_
  refine x_istore_n 0 rfl dX6_beginOf_3 rfl (Nat.le_of_ble_eq_true rfl) [(3, .int 0), (2, .int a1), (0, .ref (w.2.2 5 30 0 0)), (1, .int a1)] rfl ?_
  refine x_sub (L1 := [(0, .ref (w.2.2 5 30 0 0)), (2, .int a1), (3, .int 0)]) [2, 1, 0] rfl ?_
  exact TX6_beginOf_4 hw _ _ _ _ h
def fX6_runStart (a1 : Int32) (σ : xS) : Option (Int32 × xS) :=
  if 0 ≤ a1 then (x_b (fX6_beginOf a1 σ) fun z1 s1 => if 0 ≤ z1 then (x_b (fX6_beginOf a1 s1) fun z2 s2 => some (z2, s2)) else (some ((-1), s1))) else (some ((-1), σ))
set_option maxRecDepth 100000 in
set_option maxHeartbeats 4000000 in
theorem eX6_runStart {l : Launch} {w : xW} (hw : w.1.2 = true) {a1 : Int32} {σ τ : xS} {r : Int32} (h : fX6_runStart a1 σ = some (r, τ)) : xEV l w yX6_runStart mX6_runStart [.ref (w.2.2 5 30 0 0), .int a1] σ (some (.int r)) τ := by
  rw [fX6_runStart] at h
  refine x_enter (by decide +kernel) rfl (Nat.le_of_ble_eq_true rfl) ?_
  refine x_sub (L1 := [(0, .ref (w.2.2 5 30 0 0)), (1, .int a1)]) [0, 1] rfl ?_
  refine x_iload_n dX6_runStart_0 rfl 1 rfl ?_
  refine x_if_ge (tgt := 8) dX6_runStart_1 rfl (fun hc => ?_) (fun hc => ?_)
  · have h := x_t hc h
    refine x_aload_n dX6_runStart_8 rfl 0 rfl ?_
    refine x_iload_n dX6_runStart_9 rfl 1 rfl ?_
    obtain ⟨z1, s1, h1, h⟩ := x_b_e h
    refine x_callV (As := [.int a1]) (st := []) (eX6_beginOf hw  h1) cv_X6_196 (Nat.le_of_ble_eq_true rfl) (ok_e30 hw) rfl (Nat.le_of_ble_eq_true rfl) _ rfl dX6_runStart_10 [.int z1] rfl ?_
    refine x_if_ge (tgt := 20) dX6_runStart_13 rfl (fun hc => ?_) (fun hc => ?_)
    · have h := x_t hc h
      refine x_aload_n dX6_runStart_20 rfl 0 rfl ?_
      refine x_iload_n dX6_runStart_21 rfl 1 rfl ?_
      obtain ⟨z2, s2, h2, h⟩ := x_b_e h
      refine x_callV (As := [.int a1]) (st := []) (eX6_beginOf hw  h2) cv_X6_196 (Nat.le_of_ble_eq_true rfl) (ok_e30 hw) rfl (Nat.le_of_ble_eq_true rfl) _ rfl dX6_runStart_22 [.int z2] rfl ?_
      exact x_iretH rfl dX6_runStart_25 h
    · have h := x_f hc h
      refine x_iconst (x := (-1)) dX6_runStart_16 (by decide) ?_
      refine x_goto (tgt := 25) dX6_runStart_17 rfl ?_
      exact x_iretH rfl dX6_runStart_25 h
  · have h := x_f hc h
    refine x_iconst (x := (-1)) dX6_runStart_4 (by decide) ?_
    refine x_goto (tgt := 25) dX6_runStart_5 rfl ?_
    exact x_iretH rfl dX6_runStart_25 h
def fX6_runLength (a1 : Int32) (σ : xS) : Option (Int32 × xS) :=
  if 0 ≤ a1 then (x_b (fX6_beginOf a1 σ) fun z1 s1 => if 0 ≤ z1 then (x_b (fX6_runAt z1 s1) fun z2 s2 => some (z2, s2)) else (some ((-1), s1))) else (some ((-1), σ))
set_option maxRecDepth 100000 in
set_option maxHeartbeats 4000000 in
theorem eX6_runLength {l : Launch} {w : xW} (hw : w.1.2 = true) {a1 : Int32} {σ τ : xS} {r : Int32} (h : fX6_runLength a1 σ = some (r, τ)) : xEV l w yX6_runLength mX6_runLength [.ref (w.2.2 5 30 0 0), .int a1] σ (some (.int r)) τ := by
  rw [fX6_runLength] at h
  refine x_enter (by decide +kernel) rfl (Nat.le_of_ble_eq_true rfl) ?_
  refine x_sub (L1 := [(0, .ref (w.2.2 5 30 0 0)), (1, .int a1)]) [0, 1] rfl ?_
  refine x_iload_n dX6_runLength_0 rfl 1 rfl ?_
  refine x_if_ge (tgt := 8) dX6_runLength_1 rfl (fun hc => ?_) (fun hc => ?_)
  · have h := x_t hc h
    refine x_aload_n dX6_runLength_8 rfl 0 rfl ?_
    refine x_iload_n dX6_runLength_9 rfl 1 rfl ?_
    obtain ⟨z1, s1, h1, h⟩ := x_b_e h
    refine x_callV (As := [.int a1]) (st := []) (eX6_beginOf hw  h1) cv_X6_196 (Nat.le_of_ble_eq_true rfl) (ok_e30 hw) rfl (Nat.le_of_ble_eq_true rfl) _ rfl dX6_runLength_10 [.int z1] rfl ?_
    refine x_istore_n z1 rfl dX6_runLength_13 rfl (Nat.le_of_ble_eq_true rfl) [(2, .int z1), (0, .ref (w.2.2 5 30 0 0)), (1, .int a1)] rfl ?_
    refine x_iload_n dX6_runLength_14 rfl 0 rfl ?_
    refine x_if_ge (tgt := 22) dX6_runLength_15 rfl (fun hc => ?_) (fun hc => ?_)
    · have h := x_t hc h
      refine x_aload_n dX6_runLength_22 rfl 1 rfl ?_
      refine x_iload_n dX6_runLength_23 rfl 0 rfl ?_
      obtain ⟨z2, s2, h2, h⟩ := x_b_e h
      refine x_callV (As := [.int z1]) (st := []) (eX6_runAt hw  h2) cv_X6_98 (Nat.le_of_ble_eq_true rfl) (ok_e30 hw) rfl (Nat.le_of_ble_eq_true rfl) _ rfl dX6_runLength_24 [.int z2] rfl ?_
      exact x_iretH rfl dX6_runLength_27 h
    · have h := x_f hc h
      refine x_iconst (x := (-1)) dX6_runLength_18 (by decide) ?_
      refine x_goto (tgt := 27) dX6_runLength_19 rfl ?_
      exact x_iretH rfl dX6_runLength_27 h
  · have h := x_f hc h
    refine x_iconst (x := (-1)) dX6_runLength_4 (by decide) ?_
    refine x_goto (tgt := 13) dX6_runLength_5 rfl ?_
    refine x_istore_n (-1) rfl dX6_runLength_13 rfl (Nat.le_of_ble_eq_true rfl) [(2, .int (-1)), (0, .ref (w.2.2 5 30 0 0)), (1, .int a1)] rfl ?_
    refine x_iload_n dX6_runLength_14 rfl 0 rfl ?_
    refine x_if_ge (tgt := 22) dX6_runLength_15 rfl (fun hc => ?_) (fun hc => ?_)
    · exact absurd hc (by decide)
    · skip
      refine x_iconst (x := (-1)) dX6_runLength_18 (by decide) ?_
      refine x_goto (tgt := 27) dX6_runLength_19 rfl ?_
      exact x_iretH rfl dX6_runLength_27 h
def fX6_stageFor (a1 : Int32) (a2 : Int32) (a3 : Int32) (σ : xS) : Option (Int32 × xS) :=
  x_b (fX6_isQueue a1 a2 σ) fun z1 s1 => if z1 = 0 then (some ((-1), s1)) else (x_b (fX6_in a3 1 12 s1) fun z2 s2 => if z2 = 0 then (some ((-2), s2)) else (x_b (fX6_decides ((3 * a1) + a2) a3 s2) fun z3 s3 => if z3 = 0 then (some ((-6), s3)) else (some (z3, s3))))
set_option maxRecDepth 100000 in
set_option maxHeartbeats 4000000 in
theorem eX6_stageFor {l : Launch} {w : xW} (hw : w.1.2 = true) {a1 : Int32} {a2 : Int32} {a3 : Int32} {σ τ : xS} {r : Int32} (h : fX6_stageFor a1 a2 a3 σ = some (r, τ)) : xEV l w yX6_stageFor mX6_stageFor [.ref (w.2.2 5 30 0 0), .int a1, .int a2, .int a3] σ (some (.int r)) τ := by
  rw [fX6_stageFor] at h
  refine x_enter (by decide +kernel) rfl (Nat.le_of_ble_eq_true rfl) ?_
  refine x_sub (L1 := [(0, .ref (w.2.2 5 30 0 0)), (1, .int a1), (2, .int a2), (3, .int a3)]) [0, 1, 2, 3] rfl ?_
  refine x_aload_n dX6_stageFor_0 rfl 0 rfl ?_
  refine x_iload_n dX6_stageFor_1 rfl 1 rfl ?_
  refine x_iload_n dX6_stageFor_2 rfl 2 rfl ?_
  obtain ⟨z1, s1, h1, h⟩ := x_b_e h
  refine x_callV (As := [.int a1, .int a2]) (st := []) (eX6_isQueue hw  h1) cv_X6_75 (Nat.le_of_ble_eq_true rfl) (ok_e30 hw) rfl (Nat.le_of_ble_eq_true rfl) _ rfl dX6_stageFor_3 [.int z1] rfl ?_
  refine x_if_ne (tgt := 11) dX6_stageFor_6 rfl (fun hc => ?_) (fun hc => ?_)
  · have h := x_f hc h
    refine x_iload_n dX6_stageFor_11 rfl 3 rfl ?_
    refine x_iconst (x := 1) dX6_stageFor_12 rfl ?_
    refine x_bipush (x := 12) dX6_stageFor_13 rfl ?_
    obtain ⟨z2, s2, h2, h⟩ := x_b_e h
    refine x_callS (As := [.int a3, .int 1, .int 12]) (st := []) (eX6_in hw  h2) cs_X6_36 (Nat.le_of_ble_eq_true rfl) rfl (Nat.le_of_ble_eq_true rfl) _ rfl dX6_stageFor_15 [.int z2] rfl ?_
    refine x_if_ne (tgt := 24) dX6_stageFor_18 rfl (fun hc => ?_) (fun hc => ?_)
    · have h := x_f hc h
      refine x_aload_n dX6_stageFor_24 rfl 0 rfl ?_
      refine x_iconst (x := 3) dX6_stageFor_25 rfl ?_
      refine x_iload_n dX6_stageFor_26 rfl 1 rfl ?_
      refine x_imul dX6_stageFor_27 ?_
      refine x_iload_n dX6_stageFor_28 rfl 2 rfl ?_
      refine x_iadd dX6_stageFor_29 ?_
      refine x_iload_n dX6_stageFor_30 rfl 3 rfl ?_
      obtain ⟨z3, s3, h3, h⟩ := x_b_e h
      refine x_callV (As := [.int ((3 * a1) + a2), .int a3]) (st := []) (eX6_decides hw  h3) cv_X6_142 (Nat.le_of_ble_eq_true rfl) (ok_e30 hw) rfl (Nat.le_of_ble_eq_true rfl) _ rfl dX6_stageFor_31 [.int z3] rfl ?_
      refine x_istore z3 rfl dX6_stageFor_34 (Nat.le_of_ble_eq_true rfl) [(4, .int z3), (0, .ref (w.2.2 5 30 0 0)), (1, .int a1), (2, .int a2), (3, .int a3)] rfl ?_
      refine x_iload dX6_stageFor_36 0 rfl ?_
      refine x_if_ne (tgt := 46) dX6_stageFor_38 rfl (fun hc => ?_) (fun hc => ?_)
      · have h := x_f hc h
        refine x_iload dX6_stageFor_46 0 rfl ?_
        exact x_iretH rfl dX6_stageFor_48 h
      · have h := x_t hc h
        refine x_bipush (x := (-6)) dX6_stageFor_41 (by decide) ?_
        refine x_goto (tgt := 48) dX6_stageFor_43 rfl ?_
        exact x_iretH rfl dX6_stageFor_48 h
    · have h := x_t hc h
      refine x_bipush (x := (-2)) dX6_stageFor_21 (by decide) ?_
      exact x_iretH rfl dX6_stageFor_23 h
  · have h := x_t hc h
    refine x_iconst (x := (-1)) dX6_stageFor_9 (by decide) ?_
    exact x_iretH rfl dX6_stageFor_10 h
def BX6_largestAdmissible_14 (a1 : Int32) (a2 : Int32) : Nat → Int32 → xS → Option (Int32 × xS)
  | 0, _, _ => none
  | n + 1, a3, σ => if a3 ≤ 0 then (some (a3, σ)) else (x_b (fX6_decides ((3 * a1) + a2) a3 σ) fun z2 s2 => if z2 = 0 then (x_let (a3 + (-1)) fun t3 => (BX6_largestAdmissible_14 a1 a2 n) t3 s2) else (some (a3, s2)))
set_option maxRecDepth 100000 in
set_option maxHeartbeats 4000000 in
theorem TX6_largestAdmissible_14 {l : Launch} {w : xW} (hw : w.1.2 = true) {a1 : Int32} {a2 : Int32} {τ : xS} {r : Int32} : ∀ (n : Nat) (a3 : Int32) (σ : xS), BX6_largestAdmissible_14 a1 a2 n a3 σ = some (r, τ) → xAt l w mX6_largestAdmissible 14 [(0, .ref (w.2.2 5 30 0 0)), (1, .int a1), (2, .int a2), (3, .int a3)] [] σ (some (.int r)) τ := by
  intro n
  induction n with
  | zero => intro a3 σ h; cases h
  | succ n ih =>
    intro a3 σ h
    rw [BX6_largestAdmissible_14] at h
    refine x_iload_n dX6_largestAdmissible_14 rfl 3 rfl ?_
    refine x_if_le (tgt := 37) dX6_largestAdmissible_15 rfl (fun hc => ?_) (fun hc => ?_)
    · have h := x_t hc h
      refine x_iload_n dX6_largestAdmissible_37 rfl 3 rfl ?_
      exact x_iretH rfl dX6_largestAdmissible_38 h
    · have h := x_f hc h
      refine x_aload_n dX6_largestAdmissible_18 rfl 0 rfl ?_
      refine x_iconst (x := 3) dX6_largestAdmissible_19 rfl ?_
      refine x_iload_n dX6_largestAdmissible_20 rfl 1 rfl ?_
      refine x_imul dX6_largestAdmissible_21 ?_
      refine x_iload_n dX6_largestAdmissible_22 rfl 2 rfl ?_
      refine x_iadd dX6_largestAdmissible_23 ?_
      refine x_iload_n dX6_largestAdmissible_24 rfl 3 rfl ?_
      obtain ⟨z2, s2, h2, h⟩ := x_b_e h
      refine x_callV (As := [.int ((3 * a1) + a2), .int a3]) (st := []) (eX6_decides hw  h2) cv_X6_142 (Nat.le_of_ble_eq_true rfl) (ok_e30 hw) rfl (Nat.le_of_ble_eq_true rfl) _ rfl dX6_largestAdmissible_25 [.int z2] rfl ?_
      refine x_if_ne (tgt := 37) dX6_largestAdmissible_28 rfl (fun hc => ?_) (fun hc => ?_)
      · have h := x_f hc h
        refine x_iload_n dX6_largestAdmissible_37 rfl 3 rfl ?_
        exact x_iretH rfl dX6_largestAdmissible_38 h
      · have h := x_t hc h
        obtain ⟨t3, ht3, h⟩ := x_let_e h
        refine x_iinc t3 (-1) (by decide) ht3 dX6_largestAdmissible_31 3 rfl (Nat.le_of_ble_eq_true rfl) [(3, .int t3), (0, .ref (w.2.2 5 30 0 0)), (1, .int a1), (2, .int a2)] rfl ?_
        refine x_goto (tgt := 14) dX6_largestAdmissible_34 rfl ?_
        refine x_sub (L1 := [(0, .ref (w.2.2 5 30 0 0)), (1, .int a1), (2, .int a2), (3, .int t3)]) [1, 2, 3, 0] rfl ?_
        exact ih _ _ h
def fX6_largestAdmissible (a1 : Int32) (a2 : Int32) (σ : xS) : Option (Int32 × xS) :=
  x_b (fX6_isQueue a1 a2 σ) fun z1 s1 => if z1 = 0 then (some ((-1), s1)) else (BX6_largestAdmissible_14 a1 a2 x_FU 12 s1)
set_option maxRecDepth 100000 in
set_option maxHeartbeats 4000000 in
theorem eX6_largestAdmissible {l : Launch} {w : xW} (hw : w.1.2 = true) {a1 : Int32} {a2 : Int32} {σ τ : xS} {r : Int32} (h : fX6_largestAdmissible a1 a2 σ = some (r, τ)) : xEV l w yX6_largestAdmissible mX6_largestAdmissible [.ref (w.2.2 5 30 0 0), .int a1, .int a2] σ (some (.int r)) τ := by
  rw [fX6_largestAdmissible] at h
  refine x_enter (by decide +kernel) rfl (Nat.le_of_ble_eq_true rfl) ?_
  refine x_sub (L1 := [(0, .ref (w.2.2 5 30 0 0)), (1, .int a1), (2, .int a2)]) [0, 1, 2] rfl ?_
  refine x_aload_n dX6_largestAdmissible_0 rfl 0 rfl ?_
  refine x_iload_n dX6_largestAdmissible_1 rfl 1 rfl ?_
  refine x_iload_n dX6_largestAdmissible_2 rfl 2 rfl ?_
  obtain ⟨z1, s1, h1, h⟩ := x_b_e h
  refine x_callV (As := [.int a1, .int a2]) (st := []) (eX6_isQueue hw  h1) cv_X6_75 (Nat.le_of_ble_eq_true rfl) (ok_e30 hw) rfl (Nat.le_of_ble_eq_true rfl) _ rfl dX6_largestAdmissible_3 [.int z1] rfl ?_
  refine x_if_ne (tgt := 11) dX6_largestAdmissible_6 rfl (fun hc => ?_) (fun hc => ?_)
  · have h := x_f hc h
    refine x_bipush (x := 12) dX6_largestAdmissible_11 rfl ?_
    refine x_istore_n 12 rfl dX6_largestAdmissible_13 rfl (Nat.le_of_ble_eq_true rfl) [(3, .int 12), (0, .ref (w.2.2 5 30 0 0)), (1, .int a1), (2, .int a2)] rfl ?_
    refine x_sub (L1 := [(0, .ref (w.2.2 5 30 0 0)), (1, .int a1), (2, .int a2), (3, .int 12)]) [1, 2, 3, 0] rfl ?_
    exact TX6_largestAdmissible_14 hw _ _ _ h
  · have h := x_t hc h
    refine x_iconst (x := (-1)) dX6_largestAdmissible_9 (by decide) ?_
    exact x_iretH rfl dX6_largestAdmissible_10 h
def BX6_burstCapacity_54 (a3 : Int32) (a4 : Int32) : Nat → Int32 → Int32 → xS → Option (Int32 × xS)
  | 0, _, _, _ => none
  | n + 1, a5, a6, σ => if a6 ≤ 0 then (x_b (fX6_brings  σ) fun z7 s7 => some (a5, s7)) else (x_b (fX6_counts a4 a3 a6 σ) fun z8 s8 => x_let (a5 + 1) fun t9 => x_b (fX6_decides a4 a3 s8) fun z10 s10 => (BX6_burstCapacity_54 a3 a4 n) t9 z10 s10)
set_option maxRecDepth 100000 in
set_option maxHeartbeats 4000000 in
theorem TX6_burstCapacity_54 {l : Launch} {w : xW} (hw : w.1.2 = true) {a3 : Int32} {a4 : Int32} {τ : xS} {r : Int32} : ∀ (n : Nat) (a5 : Int32) (a6 : Int32) (σ : xS), BX6_burstCapacity_54 a3 a4 n a5 a6 σ = some (r, τ) → xAt l w mX6_burstCapacity 54 [(0, .ref (w.2.2 5 30 0 0)), (3, .int a3), (4, .int a4), (5, .int a5), (6, .int a6)] [] σ (some (.int r)) τ := by
  intro n
  induction n with
  | zero => intro a5 a6 σ h; cases h
  | succ n ih =>
    intro a5 a6 σ h
    rw [BX6_burstCapacity_54] at h
    refine x_iload dX6_burstCapacity_54 4 rfl ?_
    refine x_if_le (tgt := 83) dX6_burstCapacity_56 rfl (fun hc => ?_) (fun hc => ?_)
    · have h := x_t hc h
      refine x_aload_n dX6_burstCapacity_83 rfl 0 rfl ?_
      obtain ⟨z7, s7, h7, h⟩ := x_b_e h
      refine x_callV (As := []) (st := []) (eX6_brings hw  h7) cv_X6_89 (Nat.le_of_ble_eq_true rfl) (ok_e30 hw) rfl (Nat.le_of_ble_eq_true rfl) _ rfl dX6_burstCapacity_84 [] rfl ?_
      refine x_iload dX6_burstCapacity_87 3 rfl ?_
      exact x_iretH rfl dX6_burstCapacity_89 h
    · have h := x_f hc h
      refine x_aload_n dX6_burstCapacity_59 rfl 0 rfl ?_
      refine x_iload dX6_burstCapacity_60 2 rfl ?_
      refine x_iload_n dX6_burstCapacity_62 rfl 1 rfl ?_
      refine x_iload dX6_burstCapacity_63 4 rfl ?_
      obtain ⟨z8, s8, h8, h⟩ := x_b_e h
      refine x_callV (As := [.int a4, .int a3, .int a6]) (st := []) (eX6_counts hw  h8) cv_X6_148 (Nat.le_of_ble_eq_true rfl) (ok_e30 hw) rfl (Nat.le_of_ble_eq_true rfl) _ rfl dX6_burstCapacity_65 [] rfl ?_
      obtain ⟨t9, ht9, h⟩ := x_let_e h
      refine x_iinc t9 1 rfl ht9 dX6_burstCapacity_68 3 rfl (Nat.le_of_ble_eq_true rfl) [(5, .int t9), (0, .ref (w.2.2 5 30 0 0)), (3, .int a3), (4, .int a4), (6, .int a6)] rfl ?_
      refine x_aload_n dX6_burstCapacity_71 rfl 1 rfl ?_
      refine x_iload dX6_burstCapacity_72 3 rfl ?_
      refine x_iload_n dX6_burstCapacity_74 rfl 2 rfl ?_
      obtain ⟨z10, s10, h10, h⟩ := x_b_e h
      refine x_callV (As := [.int a4, .int a3]) (st := []) (eX6_decides hw  h10) cv_X6_142 (Nat.le_of_ble_eq_true rfl) (ok_e30 hw) rfl (Nat.le_of_ble_eq_true rfl) _ rfl dX6_burstCapacity_75 [.int z10] rfl ?_
      refine x_istore z10 rfl dX6_burstCapacity_78 (Nat.le_of_ble_eq_true rfl) [(6, .int z10), (5, .int t9), (0, .ref (w.2.2 5 30 0 0)), (3, .int a3), (4, .int a4)] rfl ?_
      refine x_goto (tgt := 54) dX6_burstCapacity_80 rfl ?_
      refine x_sub (L1 := [(0, .ref (w.2.2 5 30 0 0)), (3, .int a3), (4, .int a4), (5, .int t9), (6, .int z10)]) [2, 3, 4, 1, 0] rfl ?_
      exact ih _ _ _ h
def fX6_burstCapacity (a1 : Int32) (a2 : Int32) (a3 : Int32) (σ : xS) : Option (Int32 × xS) :=
  x_b (fX6_isQueue a1 a2 σ) fun z1 s1 => if z1 = 0 then (some ((-1), s1)) else (x_b (fX6_in a3 1 12 s1) fun z2 s2 => if z2 = 0 then (some ((-2), s2)) else (x_let ((3 * a1) + a2) fun t3 => x_b (fX6_keeps  s2) fun z4 s4 => x_let (x_set s4 5 31 0 0 2 0) fun s5 => x_b (fX6_decides t3 a3 s5) fun z6 s6 => BX6_burstCapacity_54 a3 t3 x_FU 0 z6 s6))
set_option maxRecDepth 100000 in
set_option maxHeartbeats 4000000 in
theorem eX6_burstCapacity {l : Launch} {w : xW} (hw : w.1.2 = true) {a1 : Int32} {a2 : Int32} {a3 : Int32} {σ τ : xS} {r : Int32} (h : fX6_burstCapacity a1 a2 a3 σ = some (r, τ)) : xEV l w yX6_burstCapacity mX6_burstCapacity [.ref (w.2.2 5 30 0 0), .int a1, .int a2, .int a3] σ (some (.int r)) τ := by
  rw [fX6_burstCapacity] at h
  refine x_enter (by decide +kernel) rfl (Nat.le_of_ble_eq_true rfl) ?_
  refine x_sub (L1 := [(0, .ref (w.2.2 5 30 0 0)), (1, .int a1), (2, .int a2), (3, .int a3)]) [0, 1, 2, 3] rfl ?_
  refine x_aload_n dX6_burstCapacity_0 rfl 0 rfl ?_
  refine x_iload_n dX6_burstCapacity_1 rfl 1 rfl ?_
  refine x_iload_n dX6_burstCapacity_2 rfl 2 rfl ?_
  obtain ⟨z1, s1, h1, h⟩ := x_b_e h
  refine x_callV (As := [.int a1, .int a2]) (st := []) (eX6_isQueue hw  h1) cv_X6_75 (Nat.le_of_ble_eq_true rfl) (ok_e30 hw) rfl (Nat.le_of_ble_eq_true rfl) _ rfl dX6_burstCapacity_3 [.int z1] rfl ?_
  refine x_if_ne (tgt := 11) dX6_burstCapacity_6 rfl (fun hc => ?_) (fun hc => ?_)
  · have h := x_f hc h
    refine x_iload_n dX6_burstCapacity_11 rfl 3 rfl ?_
    refine x_iconst (x := 1) dX6_burstCapacity_12 rfl ?_
    refine x_bipush (x := 12) dX6_burstCapacity_13 rfl ?_
    obtain ⟨z2, s2, h2, h⟩ := x_b_e h
    refine x_callS (As := [.int a3, .int 1, .int 12]) (st := []) (eX6_in hw  h2) cs_X6_36 (Nat.le_of_ble_eq_true rfl) rfl (Nat.le_of_ble_eq_true rfl) _ rfl dX6_burstCapacity_15 [.int z2] rfl ?_
    refine x_if_ne (tgt := 24) dX6_burstCapacity_18 rfl (fun hc => ?_) (fun hc => ?_)
    · have h := x_f hc h
      refine x_iconst (x := 3) dX6_burstCapacity_24 rfl ?_
      refine x_iload_n dX6_burstCapacity_25 rfl 1 rfl ?_
      refine x_imul dX6_burstCapacity_26 ?_
      refine x_iload_n dX6_burstCapacity_27 rfl 2 rfl ?_
      refine x_iadd dX6_burstCapacity_28 ?_
      obtain ⟨t3, ht3, h⟩ := x_let_e h
      refine x_istore t3 ht3 dX6_burstCapacity_29 (Nat.le_of_ble_eq_true rfl) [(4, .int t3), (0, .ref (w.2.2 5 30 0 0)), (1, .int a1), (2, .int a2), (3, .int a3)] rfl ?_
      refine x_aload_n dX6_burstCapacity_31 rfl 1 rfl ?_
      obtain ⟨z4, s4, h4, h⟩ := x_b_e h
      refine x_callV (As := []) (st := []) (eX6_keeps hw  h4) cv_X6_83 (Nat.le_of_ble_eq_true rfl) (ok_e30 hw) rfl (Nat.le_of_ble_eq_true rfl) _ rfl dX6_burstCapacity_32 [] rfl ?_
      refine x_aload_n dX6_burstCapacity_35 rfl 1 rfl ?_
      refine x_getR (d1 := 5) (K1 := 31) (p1 := 0) (r1 := 0) fl_X6_7 (ok_e30 hw) rfl dX6_burstCapacity_36 ?_
      refine x_iconst (x := 2) dX6_burstCapacity_39 rfl ?_
      refine x_iconst (x := 0) dX6_burstCapacity_40 rfl ?_
      obtain ⟨s5, hs5, h⟩ := x_let_e h
      refine x_iast 6464 2 rfl s5 hs5 rfl rfl rfl (ok_e31 hw) rfl dX6_burstCapacity_41 ?_
      refine x_iconst (x := 0) dX6_burstCapacity_42 rfl ?_
      refine x_istore 0 rfl dX6_burstCapacity_43 (Nat.le_of_ble_eq_true rfl) [(5, .int 0), (4, .int t3), (0, .ref (w.2.2 5 30 0 0)), (1, .int a1), (2, .int a2), (3, .int a3)] rfl ?_
      refine x_aload_n dX6_burstCapacity_45 rfl 2 rfl ?_
      refine x_iload dX6_burstCapacity_46 1 rfl ?_
      refine x_iload_n dX6_burstCapacity_48 rfl 5 rfl ?_
      obtain ⟨z6, s6, h6, h⟩ := x_b_e h
      refine x_callV (As := [.int t3, .int a3]) (st := []) (eX6_decides hw  h6) cv_X6_142 (Nat.le_of_ble_eq_true rfl) (ok_e30 hw) rfl (Nat.le_of_ble_eq_true rfl) _ rfl dX6_burstCapacity_49 [.int z6] rfl ?_
      refine x_istore z6 rfl dX6_burstCapacity_52 (Nat.le_of_ble_eq_true rfl) [(6, .int z6), (5, .int 0), (4, .int t3), (0, .ref (w.2.2 5 30 0 0)), (1, .int a1), (2, .int a2), (3, .int a3)] rfl ?_
      refine x_sub (L1 := [(0, .ref (w.2.2 5 30 0 0)), (3, .int a3), (4, .int t3), (5, .int 0), (6, .int z6)]) [3, 6, 2, 1, 0] rfl ?_
      exact TX6_burstCapacity_54 hw _ _ _ _ h
    · have h := x_t hc h
      refine x_bipush (x := (-2)) dX6_burstCapacity_21 (by decide) ?_
      exact x_iretH rfl dX6_burstCapacity_23 h
  · have h := x_t hc h
    refine x_iconst (x := (-1)) dX6_burstCapacity_9 (by decide) ?_
    exact x_iretH rfl dX6_burstCapacity_10 h
