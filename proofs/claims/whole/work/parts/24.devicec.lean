def BX0_passTick_65 (d0 : Nat) (a1 : Int32) (a2 : Int32) (a3 : Int32) (d4 : Nat) (p4 : Nat) (a5 : Int32) (k38 : Int32 → xS → Option (Int32 × xS)) : Nat → Int32 → xS → Option (Int32 × xS)
  | 0, _, _ => none
  | n + 1, a6, σ => if a5 ≤ a6 then (x_let (a3 + 1) fun t4 => k38 t4 σ) else (x_g (x_in a6 3) (x_let (x_set σ d4 16 p4 (a6.toNatClampNeg) 4 (i_min (σ d4 16 p4 (a6.toNatClampNeg) 2) ((σ d4 16 p4 (a6.toNatClampNeg) 4) + (σ d4 16 p4 (a6.toNatClampNeg) 3)))) fun s6 => if (s6 d4 16 p4 (a6.toNatClampNeg) 12) = 0 then (x_b (fX3_limitWith d4 p4 (a6.toNatClampNeg) a2 s6) fun z8 s8 => if z8 < ((s6 d4 16 p4 (a6.toNatClampNeg) 11) + 2) then (x_let (a6 + 1) fun t9 => (BX0_passTick_65 d0 a1 a2 a3 d4 p4 a5 k38 n) t9 s8) else (x_let (x_set s8 d4 16 p4 (a6.toNatClampNeg) 8 0) fun s10 => x_let (a6 + 1) fun t11 => (BX0_passTick_65 d0 a1 a2 a3 d4 p4 a5 k38 n) t11 s10)) else (x_let (a6 + 1) fun t7 => (BX0_passTick_65 d0 a1 a2 a3 d4 p4 a5 k38 n) t7 s6)))
set_option maxRecDepth 100000 in
set_option maxHeartbeats 4000000 in
theorem TX0_passTick_65 {l : Launch} {w : xW} {d0 : Nat} {a1 : Int32} {a2 : Int32} {a3 : Int32} {d4 : Nat} {p4 : Nat} {a5 : Int32} (hd0 : d0 < 4) (hd4 : d4 < 4) (hp4 : p4 < 6) {k38 : Int32 → xS → Option (Int32 × xS)} {τ : xS} {r : Int32} (hk38 : ∀ (a3 : Int32) (σ1 : xS), k38 a3 σ1 = some (r, τ) → xAt l w mX0_passTick 38 [(0, .ref (w.2.2 d0 0 0 0)), (1, .int a1), (2, .int a2), (3, .int a3)] [] σ1 (some (.int r)) τ) : ∀ (n : Nat) (a6 : Int32) (σ : xS), BX0_passTick_65 d0 a1 a2 a3 d4 p4 a5 k38 n a6 σ = some (r, τ) → xAt l w mX0_passTick 65 [(0, .ref (w.2.2 d0 0 0 0)), (1, .int a1), (2, .int a2), (3, .int a3), (4, .ref (w.2.2 d4 14 p4 0)), (5, .int a5), (6, .int a6)] [] σ (some (.int r)) τ := by
  intro n
  induction n with
  | zero => intro a6 σ h; cases h
  | succ n ih =>
    intro a6 σ h
    rw [BX0_passTick_65] at h
    refine x_iload dX0_passTick_65 6 rfl ?_
    refine x_iload dX0_passTick_67 5 rfl ?_
    refine x_icmp_ge (tgt := 139) dX0_passTick_69 rfl (fun hc => ?_) (fun hc => ?_)
    · have h := x_t hc h
      obtain ⟨t4, ht4, h⟩ := x_let_e h
      refine x_iinc t4 1 rfl ht4 dX0_passTick_139 3 rfl (Nat.le_of_ble_eq_true rfl) [(3, .int t4), (0, .ref (w.2.2 d0 0 0 0)), (1, .int a1), (2, .int a2), (4, .ref (w.2.2 d4 14 p4 0)), (5, .int a5), (6, .int a6)] rfl ?_
      refine x_goto (tgt := 38) dX0_passTick_142 rfl ?_
      refine x_sub (L1 := [(0, .ref (w.2.2 d0 0 0 0)), (1, .int a1), (2, .int a2), (3, .int t4)]) [1, 2, 3, 0] rfl ?_
      exact hk38 _ _ h
    · have h := x_f hc h
      refine x_aload dX0_passTick_72 4 rfl ?_
      refine x_iload dX0_passTick_74 6 rfl ?_
      obtain ⟨hg5, h⟩ := x_g_e h
      refine x_aald (d1 := d4) (K1 := 16) (p1 := p4) (r1 := (a6.toNatClampNeg)) 3 a6.toNatClampNeg rfl 3 RX3 rfl rfl (Nat.le_of_ble_eq_true rfl) rfl rfl (ok_b (K := 14) (Nat.le_of_ble_eq_true rfl) (Nat.le_of_ble_eq_true rfl) hd4 hp4) rfl hg5 dX0_passTick_76 ?_
      refine x_astore dX0_passTick_77 (Nat.le_of_ble_eq_true rfl) [(7, .ref (w.2.2 d4 16 p4 (a6.toNatClampNeg))), (0, .ref (w.2.2 d0 0 0 0)), (1, .int a1), (2, .int a2), (3, .int a3), (4, .ref (w.2.2 d4 14 p4 0)), (5, .int a5), (6, .int a6)] rfl ?_
      refine x_aload dX0_passTick_79 0 rfl ?_
      refine x_aload dX0_passTick_81 0 rfl ?_
      refine x_getI fl_X0_235 (ok_c hd4 hp4 (x_in_lt hg5)) rfl dX0_passTick_83 ?_
      refine x_aload dX0_passTick_86 0 rfl ?_
      refine x_getI fl_X0_238 (ok_c hd4 hp4 (x_in_lt hg5)) rfl dX0_passTick_88 ?_
      refine x_aload dX0_passTick_91 0 rfl ?_
      refine x_getI fl_X0_241 (ok_c hd4 hp4 (x_in_lt hg5)) rfl dX0_passTick_93 ?_
      refine x_iadd dX0_passTick_96 ?_
      refine x_min lk_X0_126 w_min (Nat.le_of_ble_eq_true rfl) (Nat.le_of_ble_eq_true rfl) dX0_passTick_97 ?_
      obtain ⟨s6, hs6, h⟩ := x_let_e h
      refine x_putI s6 hs6 fp_X0_238 (ok_c hd4 hp4 (x_in_lt hg5)) rfl dX0_passTick_100 ?_
      refine x_aload dX0_passTick_103 0 rfl ?_
      refine x_getI fl_X0_157 (ok_c hd4 hp4 (x_in_lt hg5)) rfl dX0_passTick_105 ?_
      refine x_if_ne (tgt := 133) dX0_passTick_108 rfl (fun hc => ?_) (fun hc => ?_)
      · have h := x_f hc h
        obtain ⟨t7, ht7, h⟩ := x_let_e h
        refine x_iinc t7 1 rfl ht7 dX0_passTick_133 7 rfl (Nat.le_of_ble_eq_true rfl) [(6, .int t7), (7, .ref (w.2.2 d4 16 p4 (a6.toNatClampNeg))), (0, .ref (w.2.2 d0 0 0 0)), (1, .int a1), (2, .int a2), (3, .int a3), (4, .ref (w.2.2 d4 14 p4 0)), (5, .int a5)] rfl ?_
        refine x_goto (tgt := 65) dX0_passTick_136 rfl ?_
        refine x_sub (L1 := [(0, .ref (w.2.2 d0 0 0 0)), (1, .int a1), (2, .int a2), (3, .int a3), (4, .ref (w.2.2 d4 14 p4 0)), (5, .int a5), (6, .int t7)]) [2, 3, 4, 5, 6, 7, 0] rfl ?_
        exact ih _ _ h
      · have h := x_t hc h
        refine x_aload dX0_passTick_111 0 rfl ?_
        refine x_getI fl_X0_160 (ok_c hd4 hp4 (x_in_lt hg5)) rfl dX0_passTick_113 ?_
        refine x_iconst (x := 2) dX0_passTick_116 rfl ?_
        refine x_iadd dX0_passTick_117 ?_
        refine x_aload dX0_passTick_118 0 rfl ?_
        refine x_iload_n dX0_passTick_120 rfl 3 rfl ?_
        obtain ⟨z8, s8, h8, h⟩ := x_b_e h
        refine x_callV (As := [.int a2]) (st := [.int ((s6 d4 16 p4 (a6.toNatClampNeg) 11) + 2)]) (eX3_limitWith hd4 hp4 (x_in_lt hg5) h8) cv_X0_244 (Nat.le_of_ble_eq_true rfl) (ok_c hd4 hp4 (x_in_lt hg5)) rfl (Nat.le_of_ble_eq_true rfl) _ rfl dX0_passTick_121 [.int z8, .int ((s6 d4 16 p4 (a6.toNatClampNeg) 11) + 2)] rfl ?_
        refine x_icmp_gt (tgt := 133) dX0_passTick_124 rfl (fun hc => ?_) (fun hc => ?_)
        · have h := x_t hc h
          obtain ⟨t9, ht9, h⟩ := x_let_e h
          refine x_iinc t9 1 rfl ht9 dX0_passTick_133 7 rfl (Nat.le_of_ble_eq_true rfl) [(6, .int t9), (7, .ref (w.2.2 d4 16 p4 (a6.toNatClampNeg))), (0, .ref (w.2.2 d0 0 0 0)), (1, .int a1), (2, .int a2), (3, .int a3), (4, .ref (w.2.2 d4 14 p4 0)), (5, .int a5)] rfl ?_
          refine x_goto (tgt := 65) dX0_passTick_136 rfl ?_
          refine x_sub (L1 := [(0, .ref (w.2.2 d0 0 0 0)), (1, .int a1), (2, .int a2), (3, .int a3), (4, .ref (w.2.2 d4 14 p4 0)), (5, .int a5), (6, .int t9)]) [2, 3, 4, 5, 6, 7, 0] rfl ?_
          exact ih _ _ h
        · have h := x_f hc h
          refine x_aload dX0_passTick_127 0 rfl ?_
          refine x_iconst (x := 0) dX0_passTick_129 rfl ?_
          obtain ⟨s10, hs10, h⟩ := x_let_e h
          refine x_putZ s10 hs10 rfl fp_X0_247 (ok_c hd4 hp4 (x_in_lt hg5)) rfl dX0_passTick_130 ?_
          obtain ⟨t11, ht11, h⟩ := x_let_e h
          refine x_iinc t11 1 rfl ht11 dX0_passTick_133 7 rfl (Nat.le_of_ble_eq_true rfl) [(6, .int t11), (7, .ref (w.2.2 d4 16 p4 (a6.toNatClampNeg))), (0, .ref (w.2.2 d0 0 0 0)), (1, .int a1), (2, .int a2), (3, .int a3), (4, .ref (w.2.2 d4 14 p4 0)), (5, .int a5)] rfl ?_
          refine x_goto (tgt := 65) dX0_passTick_136 rfl ?_
          refine x_sub (L1 := [(0, .ref (w.2.2 d0 0 0 0)), (1, .int a1), (2, .int a2), (3, .int a3), (4, .ref (w.2.2 d4 14 p4 0)), (5, .int a5), (6, .int t11)]) [2, 3, 4, 5, 6, 7, 0] rfl ?_
          exact ih _ _ h
def BX0_passTick_38 (d0 : Nat) (a1 : Int32) (a2 : Int32) : Nat → Int32 → xS → Option (Int32 × xS)
  | 0, _, _ => none
  | n + 1, a3, σ => if (σ d0 0 0 0 2) ≤ a3 then (x_let (x_set σ d0 0 0 0 4 ((σ d0 0 0 0 4) + 1)) fun s2 => some (a1, s2)) else (x_g (x_in a3 6) (BX0_passTick_65 d0 a1 a2 a3 d0 (a3.toNatClampNeg) 3 (BX0_passTick_38 d0 a1 a2 n) x_FU 0 σ))
set_option maxRecDepth 100000 in
set_option maxHeartbeats 4000000 in
theorem TX0_passTick_38 {l : Launch} {w : xW} {d0 : Nat} {a1 : Int32} {a2 : Int32} (hd0 : d0 < 4) {τ : xS} {r : Int32} : ∀ (n : Nat) (a3 : Int32) (σ : xS), BX0_passTick_38 d0 a1 a2 n a3 σ = some (r, τ) → xAt l w mX0_passTick 38 [(0, .ref (w.2.2 d0 0 0 0)), (1, .int a1), (2, .int a2), (3, .int a3)] [] σ (some (.int r)) τ := by
  intro n
  induction n with
  | zero => intro a3 σ h; cases h
  | succ n ih =>
    intro a3 σ h
    rw [BX0_passTick_38] at h
    refine x_iload_n dX0_passTick_38 rfl 3 rfl ?_
    refine x_aload_n dX0_passTick_39 rfl 0 rfl ?_
    refine x_getI fl_X0_38 (ok_a (K := 0) (Nat.le_of_ble_eq_true rfl) hd0) rfl dX0_passTick_40 ?_
    refine x_icmp_ge (tgt := 145) dX0_passTick_43 rfl (fun hc => ?_) (fun hc => ?_)
    · have h := x_t hc h
      refine x_aload_n dX0_passTick_145 rfl 0 rfl ?_
      refine x_dup dX0_passTick_146 rfl ?_
      refine x_getI fl_X0_46 (ok_a (K := 0) (Nat.le_of_ble_eq_true rfl) hd0) rfl dX0_passTick_147 ?_
      refine x_iconst (x := 1) dX0_passTick_150 rfl ?_
      refine x_iadd dX0_passTick_151 ?_
      obtain ⟨s2, hs2, h⟩ := x_let_e h
      refine x_putI s2 hs2 fp_X0_46 (ok_a (K := 0) (Nat.le_of_ble_eq_true rfl) hd0) rfl dX0_passTick_152 ?_
      refine x_iload_n dX0_passTick_155 rfl 1 rfl ?_
      exact x_iretH rfl dX0_passTick_156 h
    · have h := x_f hc h
      refine x_aload_n dX0_passTick_46 rfl 0 rfl ?_
      refine x_getR (d1 := d0) (K1 := 10) (p1 := 0) (r1 := 0) fl_X0_20 (ok_a (K := 0) (Nat.le_of_ble_eq_true rfl) hd0) rfl dX0_passTick_47 ?_
      refine x_iload_n dX0_passTick_50 rfl 3 rfl ?_
      obtain ⟨hg3, h⟩ := x_g_e h
      refine x_aald (d1 := d0) (K1 := 13) (p1 := (a3.toNatClampNeg)) (r1 := 0) 6 a3.toNatClampNeg rfl 2 RX2 rfl rfl (Nat.le_of_ble_eq_true rfl) rfl rfl (ok_a (K := 10) (Nat.le_of_ble_eq_true rfl) hd0) rfl hg3 dX0_passTick_51 ?_
      refine x_getR (d1 := d0) (K1 := 14) (p1 := (a3.toNatClampNeg)) (r1 := 0) fl_X0_74 (ok_b (K := 13) (Nat.le_of_ble_eq_true rfl) (Nat.le_of_ble_eq_true rfl) hd0 (x_in_lt hg3)) rfl dX0_passTick_52 ?_
      refine x_astore dX0_passTick_55 (Nat.le_of_ble_eq_true rfl) [(4, .ref (w.2.2 d0 14 (a3.toNatClampNeg) 0)), (0, .ref (w.2.2 d0 0 0 0)), (1, .int a1), (2, .int a2), (3, .int a3)] rfl ?_
      refine x_aload dX0_passTick_57 0 rfl ?_
      refine x_alen 3 rfl (Nat.le_of_ble_eq_true rfl) rfl (ok_b (K := 14) (Nat.le_of_ble_eq_true rfl) (Nat.le_of_ble_eq_true rfl) hd0 (x_in_lt hg3)) dX0_passTick_59 ?_
      refine x_istore 3 rfl dX0_passTick_60 (Nat.le_of_ble_eq_true rfl) [(5, .int 3), (4, .ref (w.2.2 d0 14 (a3.toNatClampNeg) 0)), (0, .ref (w.2.2 d0 0 0 0)), (1, .int a1), (2, .int a2), (3, .int a3)] rfl ?_
      refine x_iconst (x := 0) dX0_passTick_62 rfl ?_
      refine x_istore 0 rfl dX0_passTick_63 (Nat.le_of_ble_eq_true rfl) [(6, .int 0), (5, .int 3), (4, .ref (w.2.2 d0 14 (a3.toNatClampNeg) 0)), (0, .ref (w.2.2 d0 0 0 0)), (1, .int a1), (2, .int a2), (3, .int a3)] rfl ?_
      refine x_sub (L1 := [(0, .ref (w.2.2 d0 0 0 0)), (1, .int a1), (2, .int a2), (3, .int a3), (4, .ref (w.2.2 d0 14 (a3.toNatClampNeg) 0)), (5, .int 3), (6, .int 0)]) [3, 4, 5, 6, 2, 1, 0] rfl ?_
      exact TX0_passTick_65 hd0 hd0 (x_in_lt hg3) ih _ _ _ h
def BX0_passTick_4 (d0 : Nat) : Nat → Int32 → Int32 → xS → Option (Int32 × xS)
  | 0, _, _, _ => none
  | n + 1, a1, a2, σ => if (σ d0 0 0 0 2) ≤ a2 then (x_b (fX0_sharedLeft d0 σ) fun z1 s1 => BX0_passTick_38 d0 a1 z1 x_FU 0 s1) else (x_g (x_in a2 6) (x_b (fX0_send d0 d0 (a2.toNatClampNeg) σ) fun z13 s13 => x_let (a1 + z13) fun t14 => x_let (a2 + 1) fun t15 => (BX0_passTick_4 d0 n) t14 t15 s13))
set_option maxRecDepth 100000 in
set_option maxHeartbeats 4000000 in
theorem TX0_passTick_4 {l : Launch} {w : xW} {d0 : Nat} (hd0 : d0 < 4) {τ : xS} {r : Int32} : ∀ (n : Nat) (a1 : Int32) (a2 : Int32) (σ : xS), BX0_passTick_4 d0 n a1 a2 σ = some (r, τ) → xAt l w mX0_passTick 4 [(0, .ref (w.2.2 d0 0 0 0)), (1, .int a1), (2, .int a2)] [] σ (some (.int r)) τ := by
  intro n
  induction n with
  | zero => intro a1 a2 σ h; cases h
  | succ n ih =>
    intro a1 a2 σ h
    rw [BX0_passTick_4] at h
    refine x_iload_n dX0_passTick_4 rfl 2 rfl ?_
    refine x_aload_n dX0_passTick_5 rfl 0 rfl ?_
    refine x_getI fl_X0_38 (ok_a (K := 0) (Nat.le_of_ble_eq_true rfl) hd0) rfl dX0_passTick_6 ?_
    refine x_icmp_ge (tgt := 31) dX0_passTick_9 rfl (fun hc => ?_) (fun hc => ?_)
    · have h := x_t hc h
      refine x_aload_n dX0_passTick_31 rfl 0 rfl ?_
      obtain ⟨z1, s1, h1, h⟩ := x_b_e h
      refine x_callV (As := []) (st := []) (eX0_sharedLeft hd0 h1) cv_X0_101 (Nat.le_of_ble_eq_true rfl) (ok_a (K := 0) (Nat.le_of_ble_eq_true rfl) hd0) rfl (Nat.le_of_ble_eq_true rfl) _ rfl dX0_passTick_32 [.int z1] rfl ?_
      refine x_istore_n z1 rfl dX0_passTick_35 rfl (Nat.le_of_ble_eq_true rfl) [(2, .int z1), (0, .ref (w.2.2 d0 0 0 0)), (1, .int a1)] rfl ?_
      refine x_iconst (x := 0) dX0_passTick_36 rfl ?_
      refine x_istore_n 0 rfl dX0_passTick_37 rfl (Nat.le_of_ble_eq_true rfl) [(3, .int 0), (2, .int z1), (0, .ref (w.2.2 d0 0 0 0)), (1, .int a1)] rfl ?_
      refine x_sub (L1 := [(0, .ref (w.2.2 d0 0 0 0)), (1, .int a1), (2, .int z1), (3, .int 0)]) [2, 3, 1, 0] rfl ?_
      exact TX0_passTick_38 hd0 _ _ _ h
    · have h := x_f hc h
      refine x_iload_n dX0_passTick_12 rfl 1 rfl ?_
      refine x_aload_n dX0_passTick_13 rfl 0 rfl ?_
      refine x_aload_n dX0_passTick_14 rfl 0 rfl ?_
      refine x_getR (d1 := d0) (K1 := 10) (p1 := 0) (r1 := 0) fl_X0_20 (ok_a (K := 0) (Nat.le_of_ble_eq_true rfl) hd0) rfl dX0_passTick_15 ?_
      refine x_iload_n dX0_passTick_18 rfl 2 rfl ?_
      obtain ⟨hg12, h⟩ := x_g_e h
      refine x_aald (d1 := d0) (K1 := 13) (p1 := (a2.toNatClampNeg)) (r1 := 0) 6 a2.toNatClampNeg rfl 2 RX2 rfl rfl (Nat.le_of_ble_eq_true rfl) rfl rfl (ok_a (K := 10) (Nat.le_of_ble_eq_true rfl) hd0) rfl hg12 dX0_passTick_19 ?_
      obtain ⟨z13, s13, h13, h⟩ := x_b_e h
      refine x_callV (As := [.ref (w.2.2 d0 13 (a2.toNatClampNeg) 0)]) (st := [.int a1]) (eX0_send hd0 hd0 (x_in_lt hg12) h13) cv_X0_231 (Nat.le_of_ble_eq_true rfl) (ok_a (K := 0) (Nat.le_of_ble_eq_true rfl) hd0) rfl (Nat.le_of_ble_eq_true rfl) _ rfl dX0_passTick_20 [.int z13, .int a1] rfl ?_
      refine x_iadd dX0_passTick_23 ?_
      obtain ⟨t14, ht14, h⟩ := x_let_e h
      refine x_istore_n t14 ht14 dX0_passTick_24 rfl (Nat.le_of_ble_eq_true rfl) [(1, .int t14), (0, .ref (w.2.2 d0 0 0 0)), (2, .int a2)] rfl ?_
      obtain ⟨t15, ht15, h⟩ := x_let_e h
      refine x_iinc t15 1 rfl ht15 dX0_passTick_25 2 rfl (Nat.le_of_ble_eq_true rfl) [(2, .int t15), (1, .int t14), (0, .ref (w.2.2 d0 0 0 0))] rfl ?_
      refine x_goto (tgt := 4) dX0_passTick_28 rfl ?_
      refine x_sub (L1 := [(0, .ref (w.2.2 d0 0 0 0)), (1, .int t14), (2, .int t15)]) [2, 1, 0] rfl ?_
      exact ih _ _ _ h
def fX0_passTick (d0 : Nat) (σ : xS) : Option (Int32 × xS) :=
  BX0_passTick_4 d0 x_FU 0 0 σ
set_option maxRecDepth 100000 in
set_option maxHeartbeats 4000000 in
theorem eX0_passTick {l : Launch} {w : xW} {d0 : Nat} (hd0 : d0 < 4) {σ τ : xS} {r : Int32} (h : fX0_passTick d0 σ = some (r, τ)) : xEV l w yX0_passTick mX0_passTick [.ref (w.2.2 d0 0 0 0)] σ (some (.int r)) τ := by
  rw [fX0_passTick] at h
  refine x_enter (by decide +kernel) rfl (Nat.le_of_ble_eq_true rfl) ?_
  refine x_sub (L1 := [(0, .ref (w.2.2 d0 0 0 0))]) [0] rfl ?_
  refine x_iconst (x := 0) dX0_passTick_0 rfl ?_
  refine x_istore_n 0 rfl dX0_passTick_1 rfl (Nat.le_of_ble_eq_true rfl) [(1, .int 0), (0, .ref (w.2.2 d0 0 0 0))] rfl ?_
  refine x_iconst (x := 0) dX0_passTick_2 rfl ?_
  refine x_istore_n 0 rfl dX0_passTick_3 rfl (Nat.le_of_ble_eq_true rfl) [(2, .int 0), (1, .int 0), (0, .ref (w.2.2 d0 0 0 0))] rfl ?_
  refine x_sub (L1 := [(0, .ref (w.2.2 d0 0 0 0)), (1, .int 0), (2, .int 0)]) [2, 1, 0] rfl ?_
  exact TX0_passTick_4 hd0 _ _ _ _ h
