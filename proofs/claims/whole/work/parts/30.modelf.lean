def BX6_drainTicks_16 (a1 : Int32) : Nat → Int32 → xS → Option (Int32 × xS)
  | 0, _, _ => none
  | n + 1, a2, σ => x_b (fX6_hasPackets a1 σ) fun z3 s3 => if z3 = 0 then (x_b (fX6_brings  s3) fun z4 s4 => if 0 ≤ a2 then (some (a2, s4)) else (some ((-5), s4))) else (if a2 < 0 then (x_b (fX6_brings  s3) fun z5 s5 => if 0 ≤ a2 then (some (a2, s5)) else (some ((-5), s5))) else (x_b (fX6_sends a1 s3) fun z6 s6 => x_b (fX6_hasPackets a1 s6) fun z7 s7 => if z7 = 0 then (x_let (a2 + 1) fun t8 => (BX6_drainTicks_16 a1 n) t8 s7) else (x_b (fX6_port a1 5 s7) fun z9 s9 => x_g (x_in z9 6464) (if (s9 5 31 0 0 z9.toNatClampNeg) = 0 then ((BX6_drainTicks_16 a1 n) (-1) s9) else (x_let (a2 + 1) fun t11 => (BX6_drainTicks_16 a1 n) t11 s9)))))
set_option maxRecDepth 100000 in
set_option maxHeartbeats 4000000 in
theorem TX6_drainTicks_16 {l : Launch} {w : xW} (hw : w.1.2 = true) {a1 : Int32} {τ : xS} {r : Int32} : ∀ (n : Nat) (a2 : Int32) (σ : xS), BX6_drainTicks_16 a1 n a2 σ = some (r, τ) → xAt l w mX6_drainTicks 16 [(0, .ref (w.2.2 5 30 0 0)), (1, .int a1), (2, .int a2)] [] σ (some (.int r)) τ := by
  intro n
  induction n with
  | zero => intro a2 σ h; cases h
  | succ n ih =>
    intro a2 σ h
    rw [BX6_drainTicks_16] at h
    refine x_aload_n dX6_drainTicks_16 rfl 0 rfl ?_
    refine x_iload_n dX6_drainTicks_17 rfl 1 rfl ?_
    obtain ⟨z3, s3, h3, h⟩ := x_b_e h
    refine x_callV (As := [.int a1]) (st := []) (eX6_hasPackets hw  h3) cv_X6_110 (Nat.le_of_ble_eq_true rfl) (ok_e30 hw) rfl (Nat.le_of_ble_eq_true rfl) _ rfl dX6_drainTicks_18 [.int z3] rfl ?_
    refine x_if_eq (tgt := 66) dX6_drainTicks_21 rfl (fun hc => ?_) (fun hc => ?_)
    · have h := x_t hc h
      refine x_aload_n dX6_drainTicks_66 rfl 0 rfl ?_
      obtain ⟨z4, s4, h4, h⟩ := x_b_e h
      refine x_callV (As := []) (st := []) (eX6_brings hw  h4) cv_X6_89 (Nat.le_of_ble_eq_true rfl) (ok_e30 hw) rfl (Nat.le_of_ble_eq_true rfl) _ rfl dX6_drainTicks_67 [] rfl ?_
      refine x_iload_n dX6_drainTicks_70 rfl 2 rfl ?_
      refine x_if_ge (tgt := 79) dX6_drainTicks_71 rfl (fun hc => ?_) (fun hc => ?_)
      · have h := x_t hc h
        refine x_iload_n dX6_drainTicks_79 rfl 2 rfl ?_
        exact x_iretH rfl dX6_drainTicks_80 h
      · have h := x_f hc h
        refine x_bipush (x := (-5)) dX6_drainTicks_74 (by decide) ?_
        refine x_goto (tgt := 80) dX6_drainTicks_76 rfl ?_
        exact x_iretH rfl dX6_drainTicks_80 h
    · have h := x_f hc h
      refine x_iload_n dX6_drainTicks_24 rfl 2 rfl ?_
      refine x_if_lt (tgt := 66) dX6_drainTicks_25 rfl (fun hc => ?_) (fun hc => ?_)
      · have h := x_t hc h
        refine x_aload_n dX6_drainTicks_66 rfl 0 rfl ?_
        obtain ⟨z5, s5, h5, h⟩ := x_b_e h
        refine x_callV (As := []) (st := []) (eX6_brings hw  h5) cv_X6_89 (Nat.le_of_ble_eq_true rfl) (ok_e30 hw) rfl (Nat.le_of_ble_eq_true rfl) _ rfl dX6_drainTicks_67 [] rfl ?_
        refine x_iload_n dX6_drainTicks_70 rfl 2 rfl ?_
        refine x_if_ge (tgt := 79) dX6_drainTicks_71 rfl (fun hc => ?_) (fun hc => ?_)
        · have h := x_t hc h
          refine x_iload_n dX6_drainTicks_79 rfl 2 rfl ?_
          exact x_iretH rfl dX6_drainTicks_80 h
        · have h := x_f hc h
          refine x_bipush (x := (-5)) dX6_drainTicks_74 (by decide) ?_
          refine x_goto (tgt := 80) dX6_drainTicks_76 rfl ?_
          exact x_iretH rfl dX6_drainTicks_80 h
      · have h := x_f hc h
        refine x_aload_n dX6_drainTicks_28 rfl 0 rfl ?_
        refine x_iload_n dX6_drainTicks_29 rfl 1 rfl ?_
        obtain ⟨z6, s6, h6, h⟩ := x_b_e h
        refine x_callV (As := [.int a1]) (st := []) (eX6_sends hw  h6) cv_X6_163 (Nat.le_of_ble_eq_true rfl) (ok_e30 hw) rfl (Nat.le_of_ble_eq_true rfl) _ rfl dX6_drainTicks_30 [.int z6] rfl ?_
        refine x_pop dX6_drainTicks_33 rfl ?_
        refine x_aload_n dX6_drainTicks_34 rfl 0 rfl ?_
        refine x_iload_n dX6_drainTicks_35 rfl 1 rfl ?_
        obtain ⟨z7, s7, h7, h⟩ := x_b_e h
        refine x_callV (As := [.int a1]) (st := []) (eX6_hasPackets hw  h7) cv_X6_110 (Nat.le_of_ble_eq_true rfl) (ok_e30 hw) rfl (Nat.le_of_ble_eq_true rfl) _ rfl dX6_drainTicks_36 [.int z7] rfl ?_
        refine x_if_eq (tgt := 59) dX6_drainTicks_39 rfl (fun hc => ?_) (fun hc => ?_)
        · have h := x_t hc h
          refine x_iload_n dX6_drainTicks_59 rfl 2 rfl ?_
          refine x_iconst (x := 1) dX6_drainTicks_60 rfl ?_
          refine x_iadd dX6_drainTicks_61 ?_
          obtain ⟨t8, ht8, h⟩ := x_let_e h
          refine x_istore_n t8 ht8 dX6_drainTicks_62 rfl (Nat.le_of_ble_eq_true rfl) [(2, .int t8), (0, .ref (w.2.2 5 30 0 0)), (1, .int a1)] rfl ?_
          refine x_goto (tgt := 16) dX6_drainTicks_63 rfl ?_
          refine x_sub (L1 := [(0, .ref (w.2.2 5 30 0 0)), (1, .int a1), (2, .int t8)]) [1, 2, 0] rfl ?_
          exact ih _ _ h
        · have h := x_f hc h
          refine x_aload_n dX6_drainTicks_42 rfl 0 rfl ?_
          refine x_getR (d1 := 5) (K1 := 31) (p1 := 0) (r1 := 0) fl_X6_7 (ok_e30 hw) rfl dX6_drainTicks_43 ?_
          refine x_iload_n dX6_drainTicks_46 rfl 1 rfl ?_
          refine x_iconst (x := 5) dX6_drainTicks_47 rfl ?_
          obtain ⟨z9, s9, h9, h⟩ := x_b_e h
          refine x_callS (As := [.int a1, .int 5]) (st := [.ref (w.2.2 5 31 0 0)]) (eX6_port hw  h9) cs_X6_44 (Nat.le_of_ble_eq_true rfl) rfl (Nat.le_of_ble_eq_true rfl) _ rfl dX6_drainTicks_48 [.int z9, .ref (w.2.2 5 31 0 0)] rfl ?_
          obtain ⟨hg10, h⟩ := x_g_e h
          refine x_iald 6464 z9.toNatClampNeg rfl rfl rfl rfl (ok_e31 hw) hg10 dX6_drainTicks_51 ?_
          refine x_if_ne (tgt := 59) dX6_drainTicks_52 rfl (fun hc => ?_) (fun hc => ?_)
          · have h := x_f hc h
            refine x_iload_n dX6_drainTicks_59 rfl 2 rfl ?_
            refine x_iconst (x := 1) dX6_drainTicks_60 rfl ?_
            refine x_iadd dX6_drainTicks_61 ?_
            obtain ⟨t11, ht11, h⟩ := x_let_e h
            refine x_istore_n t11 ht11 dX6_drainTicks_62 rfl (Nat.le_of_ble_eq_true rfl) [(2, .int t11), (0, .ref (w.2.2 5 30 0 0)), (1, .int a1)] rfl ?_
            refine x_goto (tgt := 16) dX6_drainTicks_63 rfl ?_
            refine x_sub (L1 := [(0, .ref (w.2.2 5 30 0 0)), (1, .int a1), (2, .int t11)]) [1, 2, 0] rfl ?_
            exact ih _ _ h
          · have h := x_t hc h
            refine x_iconst (x := (-1)) dX6_drainTicks_55 (by decide) ?_
            refine x_goto (tgt := 62) dX6_drainTicks_56 rfl ?_
            refine x_istore_n (-1) rfl dX6_drainTicks_62 rfl (Nat.le_of_ble_eq_true rfl) [(2, .int (-1)), (0, .ref (w.2.2 5 30 0 0)), (1, .int a1)] rfl ?_
            refine x_goto (tgt := 16) dX6_drainTicks_63 rfl ?_
            refine x_sub (L1 := [(0, .ref (w.2.2 5 30 0 0)), (1, .int a1), (2, .int (-1))]) [1, 2, 0] rfl ?_
            exact ih _ _ h
def fX6_drainTicks (a1 : Int32) (σ : xS) : Option (Int32 × xS) :=
  x_b (fX6_isPort a1 σ) fun z1 s1 => if z1 = 0 then (some ((-1), s1)) else (x_b (fX6_keeps  s1) fun z2 s2 => BX6_drainTicks_16 a1 x_FU 0 s2)
set_option maxRecDepth 100000 in
set_option maxHeartbeats 4000000 in
theorem eX6_drainTicks {l : Launch} {w : xW} (hw : w.1.2 = true) {a1 : Int32} {σ τ : xS} {r : Int32} (h : fX6_drainTicks a1 σ = some (r, τ)) : xEV l w yX6_drainTicks mX6_drainTicks [.ref (w.2.2 5 30 0 0), .int a1] σ (some (.int r)) τ := by
  rw [fX6_drainTicks] at h
  refine x_enter (by decide +kernel) rfl (Nat.le_of_ble_eq_true rfl) ?_
  refine x_sub (L1 := [(0, .ref (w.2.2 5 30 0 0)), (1, .int a1)]) [0, 1] rfl ?_
  refine x_aload_n dX6_drainTicks_0 rfl 0 rfl ?_
  refine x_iload_n dX6_drainTicks_1 rfl 1 rfl ?_
  obtain ⟨z1, s1, h1, h⟩ := x_b_e h
  refine x_callV (As := [.int a1]) (st := []) (eX6_isPort hw  h1) cv_X6_40 (Nat.le_of_ble_eq_true rfl) (ok_e30 hw) rfl (Nat.le_of_ble_eq_true rfl) _ rfl dX6_drainTicks_2 [.int z1] rfl ?_
  refine x_if_ne (tgt := 10) dX6_drainTicks_5 rfl (fun hc => ?_) (fun hc => ?_)
  · have h := x_f hc h
    refine x_aload_n dX6_drainTicks_10 rfl 0 rfl ?_
    obtain ⟨z2, s2, h2, h⟩ := x_b_e h
    refine x_callV (As := []) (st := []) (eX6_keeps hw  h2) cv_X6_83 (Nat.le_of_ble_eq_true rfl) (ok_e30 hw) rfl (Nat.le_of_ble_eq_true rfl) _ rfl dX6_drainTicks_11 [] rfl ?_
    refine x_iconst (x := 0) dX6_drainTicks_14 rfl ?_
    refine x_istore_n 0 rfl dX6_drainTicks_15 rfl (Nat.le_of_ble_eq_true rfl) [(2, .int 0), (0, .ref (w.2.2 5 30 0 0)), (1, .int a1)] rfl ?_
    refine x_sub (L1 := [(0, .ref (w.2.2 5 30 0 0)), (1, .int a1), (2, .int 0)]) [1, 2, 0] rfl ?_
    exact TX6_drainTicks_16 hw _ _ _ h
  · have h := x_t hc h
    refine x_iconst (x := (-1)) dX6_drainTicks_8 (by decide) ?_
    exact x_iretH rfl dX6_drainTicks_9 h
def BX6_equilibrium_90 (a2 : Int32) (a3 : Int32) (a4 : Int32) : Nat → Int32 → Int32 → xS → Option (Int32 × xS)
  | 0, _, _, _ => none
  | n + 1, a5, a6, σ => if a6 = 0 then (if a2 = 0 then (if a5 = 0 then none else some ((a4 / a5), σ)) else (if a5 = 0 then none else some ((a3 / a5), σ))) else (if a6 = 0 then none else x_let (a5 - a5 / a6 * a6) fun t6 => (BX6_equilibrium_90 a2 a3 a4 n) a6 t6 σ)
set_option maxRecDepth 100000 in
set_option maxHeartbeats 4000000 in
theorem TX6_equilibrium_90 {l : Launch} {w : xW} (hw : w.1.2 = true) {a2 : Int32} {a3 : Int32} {a4 : Int32} {τ : xS} {r : Int32} : ∀ (n : Nat) (a5 : Int32) (a6 : Int32) (σ : xS), BX6_equilibrium_90 a2 a3 a4 n a5 a6 σ = some (r, τ) → xAt l w mX6_equilibrium 90 [(2, .int a2), (3, .int a3), (4, .int a4), (5, .int a5), (6, .int a6)] [] σ (some (.int r)) τ := by
  intro n
  induction n with
  | zero => intro a5 a6 σ h; cases h
  | succ n ih =>
    intro a5 a6 σ h
    rw [BX6_equilibrium_90] at h
    refine x_iload dX6_equilibrium_90 4 rfl ?_
    refine x_if_eq (tgt := 113) dX6_equilibrium_92 rfl (fun hc => ?_) (fun hc => ?_)
    · have h := x_t hc h
      refine x_iload_n dX6_equilibrium_113 rfl 0 rfl ?_
      refine x_if_eq (tgt := 124) dX6_equilibrium_114 rfl (fun hc => ?_) (fun hc => ?_)
      · have h := x_t hc h
        refine x_iload dX6_equilibrium_124 2 rfl ?_
        refine x_iload dX6_equilibrium_126 3 rfl ?_
        obtain ⟨hg3, h⟩ := x_nz_e h
        refine x_idiv dX6_equilibrium_128 hg3 ?_
        exact x_iretH rfl dX6_equilibrium_129 h
      · have h := x_f hc h
        refine x_iload_n dX6_equilibrium_117 rfl 1 rfl ?_
        refine x_iload dX6_equilibrium_118 3 rfl ?_
        obtain ⟨hg4, h⟩ := x_nz_e h
        refine x_idiv dX6_equilibrium_120 hg4 ?_
        refine x_goto (tgt := 129) dX6_equilibrium_121 rfl ?_
        exact x_iretH rfl dX6_equilibrium_129 h
    · have h := x_f hc h
      refine x_iload dX6_equilibrium_95 3 rfl ?_
      refine x_iload dX6_equilibrium_97 4 rfl ?_
      obtain ⟨hg5, h⟩ := x_nz_e h
      refine x_irem dX6_equilibrium_99 hg5 ?_
      obtain ⟨t6, ht6, h⟩ := x_let_e h
      refine x_istore t6 ht6 dX6_equilibrium_100 (Nat.le_of_ble_eq_true rfl) [(7, .int t6), (2, .int a2), (3, .int a3), (4, .int a4), (5, .int a5), (6, .int a6)] rfl ?_
      refine x_iload dX6_equilibrium_102 5 rfl ?_
      refine x_istore a6 rfl dX6_equilibrium_104 (Nat.le_of_ble_eq_true rfl) [(5, .int a6), (7, .int t6), (2, .int a2), (3, .int a3), (4, .int a4), (6, .int a6)] rfl ?_
      refine x_iload dX6_equilibrium_106 1 rfl ?_
      refine x_istore t6 rfl dX6_equilibrium_108 (Nat.le_of_ble_eq_true rfl) [(6, .int t6), (5, .int a6), (7, .int t6), (2, .int a2), (3, .int a3), (4, .int a4)] rfl ?_
      refine x_goto (tgt := 90) dX6_equilibrium_110 rfl ?_
      refine x_sub (L1 := [(2, .int a2), (3, .int a3), (4, .int a4), (5, .int a6), (6, .int t6)]) [3, 4, 5, 1, 0] rfl ?_
      exact ih _ _ _ h
def BX6_equilibrium_27 (a1 : Int32) (a2 : Int32) : Nat → Int32 → Int32 → xS → Option (Int32 × xS)
  | 0, _, _, _ => none
  | n + 1, a3, a4, σ => if (3 * (σ 5 31 0 0 1)) ≤ a4 then (x_b (fX6_pool  σ) fun z1 s1 => x_let (8 * z1) fun t2 => BX6_equilibrium_90 a2 a3 t2 x_FU t2 a3 s1) else (if ((a1 >>> (a4 &&& 31)) &&& 1) = 1 then (x_b (fX6_queue a4 0 σ) fun z9 s9 => x_g (x_in z9 6464) (x_let (a3 + (s9 5 31 0 0 z9.toNatClampNeg)) fun t11 => x_let (a4 + 1) fun t12 => (BX6_equilibrium_27 a1 a2 n) t11 t12 s9)) else (x_let (a3 + 0) fun t7 => x_let (a4 + 1) fun t8 => (BX6_equilibrium_27 a1 a2 n) t7 t8 σ))
set_option maxRecDepth 100000 in
set_option maxHeartbeats 4000000 in
theorem TX6_equilibrium_27 {l : Launch} {w : xW} (hw : w.1.2 = true) {a1 : Int32} {a2 : Int32} {τ : xS} {r : Int32} : ∀ (n : Nat) (a3 : Int32) (a4 : Int32) (σ : xS), BX6_equilibrium_27 a1 a2 n a3 a4 σ = some (r, τ) → xAt l w mX6_equilibrium 27 [(0, .ref (w.2.2 5 30 0 0)), (1, .int a1), (2, .int a2), (3, .int a3), (4, .int a4)] [] σ (some (.int r)) τ := by
  intro n
  induction n with
  | zero => intro a3 a4 σ h; cases h
  | succ n ih =>
    intro a3 a4 σ h
    rw [BX6_equilibrium_27] at h
    refine x_iload dX6_equilibrium_27 4 rfl ?_
    refine x_iconst (x := 3) dX6_equilibrium_29 rfl ?_
    refine x_aload_n dX6_equilibrium_30 rfl 0 rfl ?_
    refine x_getR (d1 := 5) (K1 := 31) (p1 := 0) (r1 := 0) fl_X6_7 (ok_e30 hw) rfl dX6_equilibrium_31 ?_
    refine x_iconst (x := 1) dX6_equilibrium_34 rfl ?_
    refine x_iald 6464 1 rfl rfl rfl rfl (ok_e31 hw) rfl dX6_equilibrium_35 ?_
    refine x_imul dX6_equilibrium_36 ?_
    refine x_icmp_ge (tgt := 74) dX6_equilibrium_37 rfl (fun hc => ?_) (fun hc => ?_)
    · have h := x_t hc h
      refine x_bipush (x := 8) dX6_equilibrium_74 rfl ?_
      refine x_aload_n dX6_equilibrium_76 rfl 0 rfl ?_
      obtain ⟨z1, s1, h1, h⟩ := x_b_e h
      refine x_callV (As := []) (st := [.int 8]) (eX6_pool hw  h1) cv_X6_55 (Nat.le_of_ble_eq_true rfl) (ok_e30 hw) rfl (Nat.le_of_ble_eq_true rfl) _ rfl dX6_equilibrium_77 [.int z1, .int 8] rfl ?_
      refine x_imul dX6_equilibrium_80 ?_
      obtain ⟨t2, ht2, h⟩ := x_let_e h
      refine x_istore t2 ht2 dX6_equilibrium_81 (Nat.le_of_ble_eq_true rfl) [(4, .int t2), (0, .ref (w.2.2 5 30 0 0)), (1, .int a1), (2, .int a2), (3, .int a3)] rfl ?_
      refine x_iload dX6_equilibrium_83 0 rfl ?_
      refine x_istore t2 rfl dX6_equilibrium_85 (Nat.le_of_ble_eq_true rfl) [(5, .int t2), (4, .int t2), (0, .ref (w.2.2 5 30 0 0)), (1, .int a1), (2, .int a2), (3, .int a3)] rfl ?_
      refine x_iload_n dX6_equilibrium_87 rfl 5 rfl ?_
      refine x_istore a3 rfl dX6_equilibrium_88 (Nat.le_of_ble_eq_true rfl) [(6, .int a3), (5, .int t2), (4, .int t2), (0, .ref (w.2.2 5 30 0 0)), (1, .int a1), (2, .int a2), (3, .int a3)] rfl ?_
      refine x_sub (L1 := [(2, .int a2), (3, .int a3), (4, .int t2), (5, .int t2), (6, .int a3)]) [5, 6, 2, 1, 0] rfl ?_
      exact TX6_equilibrium_90 hw _ _ _ _ h
    · have h := x_f hc h
      refine x_iload_n dX6_equilibrium_40 rfl 3 rfl ?_
      refine x_iload_n dX6_equilibrium_41 rfl 1 rfl ?_
      refine x_iload dX6_equilibrium_42 4 rfl ?_
      refine x_ishr dX6_equilibrium_44 ?_
      refine x_iconst (x := 1) dX6_equilibrium_45 rfl ?_
      refine x_iand dX6_equilibrium_46 ?_
      refine x_iconst (x := 1) dX6_equilibrium_47 rfl ?_
      refine x_icmp_ne (tgt := 65) dX6_equilibrium_48 rfl (fun hc => ?_) (fun hc => ?_)
      · have h := x_f hc h
        refine x_iconst (x := 0) dX6_equilibrium_65 rfl ?_
        refine x_iadd dX6_equilibrium_66 ?_
        obtain ⟨t7, ht7, h⟩ := x_let_e h
        refine x_istore_n t7 ht7 dX6_equilibrium_67 rfl (Nat.le_of_ble_eq_true rfl) [(3, .int t7), (0, .ref (w.2.2 5 30 0 0)), (1, .int a1), (2, .int a2), (4, .int a4)] rfl ?_
        obtain ⟨t8, ht8, h⟩ := x_let_e h
        refine x_iinc t8 1 rfl ht8 dX6_equilibrium_68 4 rfl (Nat.le_of_ble_eq_true rfl) [(4, .int t8), (3, .int t7), (0, .ref (w.2.2 5 30 0 0)), (1, .int a1), (2, .int a2)] rfl ?_
        refine x_goto (tgt := 27) dX6_equilibrium_71 rfl ?_
        refine x_sub (L1 := [(0, .ref (w.2.2 5 30 0 0)), (1, .int a1), (2, .int a2), (3, .int t7), (4, .int t8)]) [2, 3, 4, 1, 0] rfl ?_
        exact ih _ _ _ h
      · have h := x_t hc h
        refine x_aload_n dX6_equilibrium_51 rfl 0 rfl ?_
        refine x_getR (d1 := 5) (K1 := 31) (p1 := 0) (r1 := 0) fl_X6_7 (ok_e30 hw) rfl dX6_equilibrium_52 ?_
        refine x_iload dX6_equilibrium_55 4 rfl ?_
        refine x_iconst (x := 0) dX6_equilibrium_57 rfl ?_
        obtain ⟨z9, s9, h9, h⟩ := x_b_e h
        refine x_callS (As := [.int a4, .int 0]) (st := [.ref (w.2.2 5 31 0 0), .int a3]) (eX6_queue hw  h9) cs_X6_48 (Nat.le_of_ble_eq_true rfl) rfl (Nat.le_of_ble_eq_true rfl) _ rfl dX6_equilibrium_58 [.int z9, .ref (w.2.2 5 31 0 0), .int a3] rfl ?_
        obtain ⟨hg10, h⟩ := x_g_e h
        refine x_iald 6464 z9.toNatClampNeg rfl rfl rfl rfl (ok_e31 hw) hg10 dX6_equilibrium_61 ?_
        refine x_goto (tgt := 66) dX6_equilibrium_62 rfl ?_
        refine x_iadd dX6_equilibrium_66 ?_
        obtain ⟨t11, ht11, h⟩ := x_let_e h
        refine x_istore_n t11 ht11 dX6_equilibrium_67 rfl (Nat.le_of_ble_eq_true rfl) [(3, .int t11), (0, .ref (w.2.2 5 30 0 0)), (1, .int a1), (2, .int a2), (4, .int a4)] rfl ?_
        obtain ⟨t12, ht12, h⟩ := x_let_e h
        refine x_iinc t12 1 rfl ht12 dX6_equilibrium_68 4 rfl (Nat.le_of_ble_eq_true rfl) [(4, .int t12), (3, .int t11), (0, .ref (w.2.2 5 30 0 0)), (1, .int a1), (2, .int a2)] rfl ?_
        refine x_goto (tgt := 27) dX6_equilibrium_71 rfl ?_
        refine x_sub (L1 := [(0, .ref (w.2.2 5 30 0 0)), (1, .int a1), (2, .int a2), (3, .int t11), (4, .int t12)]) [2, 3, 4, 1, 0] rfl ?_
        exact ih _ _ _ h
def fX6_equilibrium (a1 : Int32) (a2 : Int32) (σ : xS) : Option (Int32 × xS) :=
  if a1 < 0 then (some ((-2), σ)) else (if a1 < (1 <<< ((3 * (σ 5 31 0 0 1)) &&& 31)) then (BX6_equilibrium_27 a1 a2 x_FU 8 0 σ) else (some ((-2), σ)))
set_option maxRecDepth 100000 in
set_option maxHeartbeats 4000000 in
theorem eX6_equilibrium {l : Launch} {w : xW} (hw : w.1.2 = true) {a1 : Int32} {a2 : Int32} {σ τ : xS} {r : Int32} (h : fX6_equilibrium a1 a2 σ = some (r, τ)) : xEV l w yX6_equilibrium mX6_equilibrium [.ref (w.2.2 5 30 0 0), .int a1, .int a2] σ (some (.int r)) τ := by
  rw [fX6_equilibrium] at h
  refine x_enter (by decide +kernel) rfl (Nat.le_of_ble_eq_true rfl) ?_
  refine x_sub (L1 := [(0, .ref (w.2.2 5 30 0 0)), (1, .int a1), (2, .int a2)]) [0, 1, 2] rfl ?_
  refine x_iload_n dX6_equilibrium_0 rfl 1 rfl ?_
  refine x_if_lt (tgt := 18) dX6_equilibrium_1 rfl (fun hc => ?_) (fun hc => ?_)
  · have h := x_t hc h
    refine x_bipush (x := (-2)) dX6_equilibrium_18 (by decide) ?_
    exact x_iretH rfl dX6_equilibrium_20 h
  · have h := x_f hc h
    refine x_iload_n dX6_equilibrium_4 rfl 1 rfl ?_
    refine x_iconst (x := 1) dX6_equilibrium_5 rfl ?_
    refine x_iconst (x := 3) dX6_equilibrium_6 rfl ?_
    refine x_aload_n dX6_equilibrium_7 rfl 0 rfl ?_
    refine x_getR (d1 := 5) (K1 := 31) (p1 := 0) (r1 := 0) fl_X6_7 (ok_e30 hw) rfl dX6_equilibrium_8 ?_
    refine x_iconst (x := 1) dX6_equilibrium_11 rfl ?_
    refine x_iald 6464 1 rfl rfl rfl rfl (ok_e31 hw) rfl dX6_equilibrium_12 ?_
    refine x_imul dX6_equilibrium_13 ?_
    refine x_ishl dX6_equilibrium_14 ?_
    refine x_icmp_lt (tgt := 21) dX6_equilibrium_15 rfl (fun hc => ?_) (fun hc => ?_)
    · have h := x_t hc h
      refine x_bipush (x := 8) dX6_equilibrium_21 rfl ?_
      refine x_istore_n 8 rfl dX6_equilibrium_23 rfl (Nat.le_of_ble_eq_true rfl) [(3, .int 8), (0, .ref (w.2.2 5 30 0 0)), (1, .int a1), (2, .int a2)] rfl ?_
      refine x_iconst (x := 0) dX6_equilibrium_24 rfl ?_
      refine x_istore 0 rfl dX6_equilibrium_25 (Nat.le_of_ble_eq_true rfl) [(4, .int 0), (3, .int 8), (0, .ref (w.2.2 5 30 0 0)), (1, .int a1), (2, .int a2)] rfl ?_
      refine x_sub (L1 := [(0, .ref (w.2.2 5 30 0 0)), (1, .int a1), (2, .int a2), (3, .int 8), (4, .int 0)]) [2, 3, 4, 1, 0] rfl ?_
      exact TX6_equilibrium_27 hw _ _ _ _ h
    · have h := x_f hc h
      refine x_bipush (x := (-2)) dX6_equilibrium_18 (by decide) ?_
      exact x_iretH rfl dX6_equilibrium_20 h
def fX6_append (a1 : Int32) (σ : xS) : Option (Int32 × xS) :=
  x_b (fX6_in a1 0 127 σ) fun z1 s1 => if z1 = 0 then (some ((-2), s1)) else (if (s1 5 30 0 0 5) = 120 then (some ((-3), s1)) else (x_let (s1 5 30 0 0 5) fun t2 => x_g (x_in t2 120) (x_let (x_set s1 5 35 0 0 t2.toNatClampNeg a1) fun s4 => x_let (x_set s4 5 30 0 0 5 ((s4 5 30 0 0 5) + 1)) fun s5 => some ((s5 5 30 0 0 5), s5))))
set_option maxRecDepth 100000 in
set_option maxHeartbeats 4000000 in
theorem eX6_append {l : Launch} {w : xW} (hw : w.1.2 = true) {a1 : Int32} {σ τ : xS} {r : Int32} (h : fX6_append a1 σ = some (r, τ)) : xEV l w yX6_append mX6_append [.ref (w.2.2 5 30 0 0), .int a1] σ (some (.int r)) τ := by
  rw [fX6_append] at h
  refine x_enter (by decide +kernel) rfl (Nat.le_of_ble_eq_true rfl) ?_
  refine x_sub (L1 := [(0, .ref (w.2.2 5 30 0 0)), (1, .int a1)]) [0, 1] rfl ?_
  refine x_iload_n dX6_append_0 rfl 1 rfl ?_
  refine x_iconst (x := 0) dX6_append_1 rfl ?_
  refine x_bipush (x := 127) dX6_append_2 rfl ?_
  obtain ⟨z1, s1, h1, h⟩ := x_b_e h
  refine x_callS (As := [.int a1, .int 0, .int 127]) (st := []) (eX6_in hw  h1) cs_X6_36 (Nat.le_of_ble_eq_true rfl) rfl (Nat.le_of_ble_eq_true rfl) _ rfl dX6_append_4 [.int z1] rfl ?_
  refine x_if_ne (tgt := 13) dX6_append_7 rfl (fun hc => ?_) (fun hc => ?_)
  · have h := x_f hc h
    refine x_aload_n dX6_append_13 rfl 0 rfl ?_
    refine x_getI fl_X6_199 (ok_e30 hw) rfl dX6_append_14 ?_
    refine x_bipush (x := 120) dX6_append_17 rfl ?_
    refine x_icmp_ne (tgt := 25) dX6_append_19 rfl (fun hc => ?_) (fun hc => ?_)
    · have h := x_f hc h
      refine x_aload_n dX6_append_25 rfl 0 rfl ?_
      refine x_getR (d1 := 5) (K1 := 35) (p1 := 0) (r1 := 0) fl_X6_23 (ok_e30 hw) rfl dX6_append_26 ?_
      refine x_aload_n dX6_append_29 rfl 0 rfl ?_
      refine x_getI fl_X6_199 (ok_e30 hw) rfl dX6_append_30 ?_
      refine x_iload_n dX6_append_33 rfl 1 rfl ?_
      obtain ⟨t2, ht2, h⟩ := x_let_e h
      refine x_nm2 t2 ht2 ?_
      obtain ⟨hg3, h⟩ := x_g_e h
      obtain ⟨s4, hs4, h⟩ := x_let_e h
      refine x_iast 120 t2.toNatClampNeg rfl s4 hs4 rfl rfl rfl (ok_e35 hw) hg3 dX6_append_34 ?_
      refine x_aload_n dX6_append_35 rfl 0 rfl ?_
      refine x_dup dX6_append_36 rfl ?_
      refine x_getI fl_X6_199 (ok_e30 hw) rfl dX6_append_37 ?_
      refine x_iconst (x := 1) dX6_append_40 rfl ?_
      refine x_iadd dX6_append_41 ?_
      obtain ⟨s5, hs5, h⟩ := x_let_e h
      refine x_putI s5 hs5 fp_X6_199 (ok_e30 hw) rfl dX6_append_42 ?_
      refine x_aload_n dX6_append_45 rfl 0 rfl ?_
      refine x_getI fl_X6_199 (ok_e30 hw) rfl dX6_append_46 ?_
      exact x_iretH rfl dX6_append_49 h
    · have h := x_t hc h
      refine x_bipush (x := (-3)) dX6_append_22 (by decide) ?_
      exact x_iretH rfl dX6_append_24 h
  · have h := x_t hc h
    refine x_bipush (x := (-2)) dX6_append_10 (by decide) ?_
    exact x_iretH rfl dX6_append_12 h
def fX6_clearText (σ : xS) : Option (Int32 × xS) :=
  x_let (σ 5 30 0 0 5) fun t1 => x_let (x_set σ 5 30 0 0 5 0) fun s2 => some (t1, s2)
set_option maxRecDepth 100000 in
set_option maxHeartbeats 4000000 in
theorem eX6_clearText {l : Launch} {w : xW} (hw : w.1.2 = true) {σ τ : xS} {r : Int32} (h : fX6_clearText σ = some (r, τ)) : xEV l w yX6_clearText mX6_clearText [.ref (w.2.2 5 30 0 0)] σ (some (.int r)) τ := by
  rw [fX6_clearText] at h
  refine x_enter (by decide +kernel) rfl (Nat.le_of_ble_eq_true rfl) ?_
  refine x_sub (L1 := [(0, .ref (w.2.2 5 30 0 0))]) [0] rfl ?_
  refine x_aload_n dX6_clearText_0 rfl 0 rfl ?_
  refine x_getI fl_X6_199 (ok_e30 hw) rfl dX6_clearText_1 ?_
  obtain ⟨t1, ht1, h⟩ := x_let_e h
  refine x_istore_n t1 ht1 dX6_clearText_4 rfl (Nat.le_of_ble_eq_true rfl) [(1, .int t1), (0, .ref (w.2.2 5 30 0 0))] rfl ?_
  refine x_aload_n dX6_clearText_5 rfl 1 rfl ?_
  refine x_iconst (x := 0) dX6_clearText_6 rfl ?_
  obtain ⟨s2, hs2, h⟩ := x_let_e h
  refine x_putI s2 hs2 fp_X6_199 (ok_e30 hw) rfl dX6_clearText_7 ?_
  refine x_iload_n dX6_clearText_10 rfl 0 rfl ?_
  exact x_iretH rfl dX6_clearText_11 h
def fX6_here (σ : xS) : Option (Int32 × xS) :=
  if (σ 5 30 0 0 5) ≤ (σ 5 30 0 0 9) then (some ((-1), σ)) else (x_let (σ 5 30 0 0 9) fun t1 => x_g (x_in t1 120) (some ((σ 5 35 0 0 t1.toNatClampNeg), σ)))
set_option maxRecDepth 100000 in
set_option maxHeartbeats 4000000 in
theorem eX6_here {l : Launch} {w : xW} (hw : w.1.2 = true) {σ τ : xS} {r : Int32} (h : fX6_here σ = some (r, τ)) : xEV l w yX6_here mX6_here [.ref (w.2.2 5 30 0 0)] σ (some (.int r)) τ := by
  rw [fX6_here] at h
  refine x_enter (by decide +kernel) rfl (Nat.le_of_ble_eq_true rfl) ?_
  refine x_sub (L1 := [(0, .ref (w.2.2 5 30 0 0))]) [0] rfl ?_
  refine x_aload_n dX6_here_0 rfl 0 rfl ?_
  refine x_getI fl_X6_202 (ok_e30 hw) rfl dX6_here_1 ?_
  refine x_aload_n dX6_here_4 rfl 0 rfl ?_
  refine x_getI fl_X6_199 (ok_e30 hw) rfl dX6_here_5 ?_
  refine x_icmp_ge (tgt := 23) dX6_here_8 rfl (fun hc => ?_) (fun hc => ?_)
  · have h := x_t hc h
    refine x_iconst (x := (-1)) dX6_here_23 (by decide) ?_
    exact x_iretH rfl dX6_here_24 h
  · have h := x_f hc h
    refine x_aload_n dX6_here_11 rfl 0 rfl ?_
    refine x_getR (d1 := 5) (K1 := 35) (p1 := 0) (r1 := 0) fl_X6_23 (ok_e30 hw) rfl dX6_here_12 ?_
    refine x_aload_n dX6_here_15 rfl 0 rfl ?_
    refine x_getI fl_X6_202 (ok_e30 hw) rfl dX6_here_16 ?_
    obtain ⟨t1, ht1, h⟩ := x_let_e h
    refine x_nm t1 ht1 ?_
    obtain ⟨hg2, h⟩ := x_g_e h
    refine x_iald 120 t1.toNatClampNeg rfl rfl rfl rfl (ok_e35 hw) hg2 dX6_here_19 ?_
    refine x_goto (tgt := 24) dX6_here_20 rfl ?_
    exact x_iretH rfl dX6_here_24 h
def fX6_isDigit (σ : xS) : Option (Int32 × xS) :=
  x_b (fX6_here  σ) fun z1 s1 => x_b (fX6_in z1 48 57 s1) fun z2 s2 => x_g (x_z z2) (some (z2, s2))
set_option maxRecDepth 100000 in
set_option maxHeartbeats 4000000 in
theorem eX6_isDigit {l : Launch} {w : xW} (hw : w.1.2 = true) {σ τ : xS} {r : Int32} (h : fX6_isDigit σ = some (r, τ)) : xEV l w yX6_isDigit mX6_isDigit [.ref (w.2.2 5 30 0 0)] σ (some (.int r)) τ := by
  rw [fX6_isDigit] at h
  refine x_enter (by decide +kernel) rfl (Nat.le_of_ble_eq_true rfl) ?_
  refine x_sub (L1 := [(0, .ref (w.2.2 5 30 0 0))]) [0] rfl ?_
  refine x_aload_n dX6_isDigit_0 rfl 0 rfl ?_
  obtain ⟨z1, s1, h1, h⟩ := x_b_e h
  refine x_callV (As := []) (st := []) (eX6_here hw  h1) cv_X6_205 (Nat.le_of_ble_eq_true rfl) (ok_e30 hw) rfl (Nat.le_of_ble_eq_true rfl) _ rfl dX6_isDigit_1 [.int z1] rfl ?_
  refine x_bipush (x := 48) dX6_isDigit_4 rfl ?_
  refine x_bipush (x := 57) dX6_isDigit_6 rfl ?_
  obtain ⟨z2, s2, h2, h⟩ := x_b_e h
  refine x_callS (As := [.int z1, .int 48, .int 57]) (st := []) (eX6_in hw  h2) cs_X6_36 (Nat.le_of_ble_eq_true rfl) rfl (Nat.le_of_ble_eq_true rfl) _ rfl dX6_isDigit_8 [.int z2] rfl ?_
  obtain ⟨hg3, h⟩ := x_g_e h
  exact x_zretH rfl hg3 dX6_isDigit_11 h
def fX6_faults (a1 : Int32) (σ : xS) : Option (Unit × xS) :=
  if 0 ≤ (σ 5 30 0 0 10) then (x_let (x_set σ 5 30 0 0 10 (σ 5 30 0 0 10)) fun s1 => some ((), s1)) else (x_let (x_set σ 5 30 0 0 10 a1) fun s2 => some ((), s2))
set_option maxRecDepth 100000 in
set_option maxHeartbeats 4000000 in
theorem eX6_faults {l : Launch} {w : xW} (hw : w.1.2 = true) {a1 : Int32} {σ τ : xS} {r : Unit} (h : fX6_faults a1 σ = some (r, τ)) : xEV l w yX6_faults mX6_faults [.ref (w.2.2 5 30 0 0), .int a1] σ none τ := by
  rw [fX6_faults] at h
  refine x_enter (by decide +kernel) rfl (Nat.le_of_ble_eq_true rfl) ?_
  refine x_sub (L1 := [(0, .ref (w.2.2 5 30 0 0)), (1, .int a1)]) [0, 1] rfl ?_
  refine x_aload_n dX6_faults_0 rfl 0 rfl ?_
  refine x_aload_n dX6_faults_1 rfl 0 rfl ?_
  refine x_getI fl_X6_208 (ok_e30 hw) rfl dX6_faults_2 ?_
  refine x_if_ge (tgt := 12) dX6_faults_5 rfl (fun hc => ?_) (fun hc => ?_)
  · have h := x_t hc h
    refine x_aload_n dX6_faults_12 rfl 0 rfl ?_
    refine x_getI fl_X6_208 (ok_e30 hw) rfl dX6_faults_13 ?_
    obtain ⟨s1, hs1, h⟩ := x_let_e h
    refine x_putI s1 hs1 fp_X6_208 (ok_e30 hw) rfl dX6_faults_16 ?_
    exact x_vretH rfl dX6_faults_19 h
  · have h := x_f hc h
    refine x_iload_n dX6_faults_8 rfl 1 rfl ?_
    refine x_goto (tgt := 16) dX6_faults_9 rfl ?_
    obtain ⟨s2, hs2, h⟩ := x_let_e h
    refine x_putI s2 hs2 fp_X6_208 (ok_e30 hw) rfl dX6_faults_16 ?_
    exact x_vretH rfl dX6_faults_19 h
def fX6_digit (a1 : Int32) (σ : xS) : Option (Int32 × xS) :=
  x_b (fX6_here  σ) fun z1 s1 => x_let (z1 - 48) fun t2 => x_b (fX6_isDigit  s1) fun z3 s3 => if z3 = 0 then (x_b (fX6_faults (s3 5 30 0 0 9) s3) fun z4 s4 => some (0, s4)) else (if t2 ≤ a1 then (x_let (x_set s3 5 30 0 0 9 ((s3 5 30 0 0 9) + 1)) fun s5 => some (t2, s5)) else (x_b (fX6_faults (s3 5 30 0 0 9) s3) fun z6 s6 => some (0, s6)))
set_option maxRecDepth 100000 in
set_option maxHeartbeats 4000000 in
theorem eX6_digit {l : Launch} {w : xW} (hw : w.1.2 = true) {a1 : Int32} {σ τ : xS} {r : Int32} (h : fX6_digit a1 σ = some (r, τ)) : xEV l w yX6_digit mX6_digit [.ref (w.2.2 5 30 0 0), .int a1] σ (some (.int r)) τ := by
  rw [fX6_digit] at h
  refine x_enter (by decide +kernel) rfl (Nat.le_of_ble_eq_true rfl) ?_
  refine x_sub (L1 := [(0, .ref (w.2.2 5 30 0 0)), (1, .int a1)]) [0, 1] rfl ?_
  refine x_aload_n dX6_digit_0 rfl 0 rfl ?_
  obtain ⟨z1, s1, h1, h⟩ := x_b_e h
  refine x_callV (As := []) (st := []) (eX6_here hw  h1) cv_X6_205 (Nat.le_of_ble_eq_true rfl) (ok_e30 hw) rfl (Nat.le_of_ble_eq_true rfl) _ rfl dX6_digit_1 [.int z1] rfl ?_
  refine x_bipush (x := 48) dX6_digit_4 rfl ?_
  refine x_isub dX6_digit_6 ?_
  obtain ⟨t2, ht2, h⟩ := x_let_e h
  refine x_istore_n t2 ht2 dX6_digit_7 rfl (Nat.le_of_ble_eq_true rfl) [(2, .int t2), (0, .ref (w.2.2 5 30 0 0)), (1, .int a1)] rfl ?_
  refine x_aload_n dX6_digit_8 rfl 1 rfl ?_
  obtain ⟨z3, s3, h3, h⟩ := x_b_e h
  refine x_callV (As := []) (st := []) (eX6_isDigit hw  h3) cv_X6_211 (Nat.le_of_ble_eq_true rfl) (ok_e30 hw) rfl (Nat.le_of_ble_eq_true rfl) _ rfl dX6_digit_9 [.int z3] rfl ?_
  refine x_if_eq (tgt := 20) dX6_digit_12 rfl (fun hc => ?_) (fun hc => ?_)
  · have h := x_t hc h
    refine x_aload_n dX6_digit_20 rfl 1 rfl ?_
    refine x_aload_n dX6_digit_21 rfl 1 rfl ?_
    refine x_getI fl_X6_202 (ok_e30 hw) rfl dX6_digit_22 ?_
    obtain ⟨z4, s4, h4, h⟩ := x_b_e h
    refine x_callV (As := [.int (s3 5 30 0 0 9)]) (st := []) (eX6_faults hw  h4) cv_X6_215 (Nat.le_of_ble_eq_true rfl) (ok_e30 hw) rfl (Nat.le_of_ble_eq_true rfl) _ rfl dX6_digit_25 [] rfl ?_
    refine x_iconst (x := 0) dX6_digit_28 rfl ?_
    exact x_iretH rfl dX6_digit_29 h
  · have h := x_f hc h
    refine x_iload_n dX6_digit_15 rfl 0 rfl ?_
    refine x_iload_n dX6_digit_16 rfl 2 rfl ?_
    refine x_icmp_le (tgt := 30) dX6_digit_17 rfl (fun hc => ?_) (fun hc => ?_)
    · have h := x_t hc h
      refine x_aload_n dX6_digit_30 rfl 1 rfl ?_
      refine x_dup dX6_digit_31 rfl ?_
      refine x_getI fl_X6_202 (ok_e30 hw) rfl dX6_digit_32 ?_
      refine x_iconst (x := 1) dX6_digit_35 rfl ?_
      refine x_iadd dX6_digit_36 ?_
      obtain ⟨s5, hs5, h⟩ := x_let_e h
      refine x_putI s5 hs5 fp_X6_202 (ok_e30 hw) rfl dX6_digit_37 ?_
      refine x_iload_n dX6_digit_40 rfl 0 rfl ?_
      exact x_iretH rfl dX6_digit_41 h
    · have h := x_f hc h
      refine x_aload_n dX6_digit_20 rfl 1 rfl ?_
      refine x_aload_n dX6_digit_21 rfl 1 rfl ?_
      refine x_getI fl_X6_202 (ok_e30 hw) rfl dX6_digit_22 ?_
      obtain ⟨z6, s6, h6, h⟩ := x_b_e h
      refine x_callV (As := [.int (s3 5 30 0 0 9)]) (st := []) (eX6_faults hw  h6) cv_X6_215 (Nat.le_of_ble_eq_true rfl) (ok_e30 hw) rfl (Nat.le_of_ble_eq_true rfl) _ rfl dX6_digit_25 [] rfl ?_
      refine x_iconst (x := 0) dX6_digit_28 rfl ?_
      exact x_iretH rfl dX6_digit_29 h
def BX6_number_8 (a1 : Int32) (a2 : Int32) (a3 : Int32) : Nat → Int32 → xS → Option (Int32 × xS)
  | 0, _, _ => none
  | n + 1, a4, σ => x_b (fX6_isDigit  σ) fun z2 s2 => if z2 = 0 then (if (s2 5 30 0 0 9) = a3 then (x_b (fX6_faults a3 s2) fun z3 s3 => some (a4, s3)) else (x_g (x_in a3 120) (if (s2 5 35 0 0 a3.toNatClampNeg) = 48 then (x_b (fX6_faults a3 s2) fun z5 s5 => some (a4, s5)) else (if 2 < ((s2 5 30 0 0 9) - a3) then (x_b (fX6_faults a3 s2) fun z6 s6 => some (a4, s6)) else (x_b (fX6_in a4 a1 a2 s2) fun z7 s7 => if z7 = 0 then (x_b (fX6_faults a3 s7) fun z8 s8 => some (a4, s8)) else (some (a4, s7))))))) else (x_b (fX6_here  s2) fun z9 s9 => x_b (fX6_least 1000 (((10 * a4) + z9) - 48) s9) fun z10 s10 => x_let (x_set s10 5 30 0 0 9 ((s10 5 30 0 0 9) + 1)) fun s11 => (BX6_number_8 a1 a2 a3 n) z10 s11)
set_option maxRecDepth 100000 in
set_option maxHeartbeats 4000000 in
theorem TX6_number_8 {l : Launch} {w : xW} (hw : w.1.2 = true) {a1 : Int32} {a2 : Int32} {a3 : Int32} {τ : xS} {r : Int32} : ∀ (n : Nat) (a4 : Int32) (σ : xS), BX6_number_8 a1 a2 a3 n a4 σ = some (r, τ) → xAt l w mX6_number 8 [(0, .ref (w.2.2 5 30 0 0)), (1, .int a1), (2, .int a2), (3, .int a3), (4, .int a4)] [] σ (some (.int r)) τ := by
  intro n
  induction n with
  | zero => intro a4 σ h; cases h
  | succ n ih =>
    intro a4 σ h
    rw [BX6_number_8] at h
    refine x_aload_n dX6_number_8 rfl 0 rfl ?_
    obtain ⟨z2, s2, h2, h⟩ := x_b_e h
    refine x_callV (As := []) (st := []) (eX6_isDigit hw  h2) cv_X6_211 (Nat.le_of_ble_eq_true rfl) (ok_e30 hw) rfl (Nat.le_of_ble_eq_true rfl) _ rfl dX6_number_9 [.int z2] rfl ?_
    refine x_if_eq (tgt := 49) dX6_number_12 rfl (fun hc => ?_) (fun hc => ?_)
    · have h := x_t hc h
      refine x_aload_n dX6_number_49 rfl 0 rfl ?_
      refine x_getI fl_X6_202 (ok_e30 hw) rfl dX6_number_50 ?_
      refine x_iload_n dX6_number_53 rfl 3 rfl ?_
      refine x_icmp_eq (tgt := 88) dX6_number_54 rfl (fun hc => ?_) (fun hc => ?_)
      · have h := x_t hc h
        refine x_aload_n dX6_number_88 rfl 0 rfl ?_
        refine x_iload_n dX6_number_89 rfl 3 rfl ?_
        obtain ⟨z3, s3, h3, h⟩ := x_b_e h
        refine x_callV (As := [.int a3]) (st := []) (eX6_faults hw  h3) cv_X6_215 (Nat.le_of_ble_eq_true rfl) (ok_e30 hw) rfl (Nat.le_of_ble_eq_true rfl) _ rfl dX6_number_90 [] rfl ?_
        refine x_iload dX6_number_93 4 rfl ?_
        exact x_iretH rfl dX6_number_95 h
      · have h := x_f hc h
        refine x_aload_n dX6_number_57 rfl 0 rfl ?_
        refine x_getR (d1 := 5) (K1 := 35) (p1 := 0) (r1 := 0) fl_X6_23 (ok_e30 hw) rfl dX6_number_58 ?_
        refine x_iload_n dX6_number_61 rfl 3 rfl ?_
        obtain ⟨hg4, h⟩ := x_g_e h
        refine x_iald 120 a3.toNatClampNeg rfl rfl rfl rfl (ok_e35 hw) hg4 dX6_number_62 ?_
        refine x_bipush (x := 48) dX6_number_63 rfl ?_
        refine x_icmp_eq (tgt := 88) dX6_number_65 rfl (fun hc => ?_) (fun hc => ?_)
        · have h := x_t hc h
          refine x_aload_n dX6_number_88 rfl 0 rfl ?_
          refine x_iload_n dX6_number_89 rfl 3 rfl ?_
          obtain ⟨z5, s5, h5, h⟩ := x_b_e h
          refine x_callV (As := [.int a3]) (st := []) (eX6_faults hw  h5) cv_X6_215 (Nat.le_of_ble_eq_true rfl) (ok_e30 hw) rfl (Nat.le_of_ble_eq_true rfl) _ rfl dX6_number_90 [] rfl ?_
          refine x_iload dX6_number_93 4 rfl ?_
          exact x_iretH rfl dX6_number_95 h
        · have h := x_f hc h
          refine x_aload_n dX6_number_68 rfl 0 rfl ?_
          refine x_getI fl_X6_202 (ok_e30 hw) rfl dX6_number_69 ?_
          refine x_iload_n dX6_number_72 rfl 3 rfl ?_
          refine x_isub dX6_number_73 ?_
          refine x_iconst (x := 2) dX6_number_74 rfl ?_
          refine x_icmp_gt (tgt := 88) dX6_number_75 rfl (fun hc => ?_) (fun hc => ?_)
          · have h := x_t hc h
            refine x_aload_n dX6_number_88 rfl 0 rfl ?_
            refine x_iload_n dX6_number_89 rfl 3 rfl ?_
            obtain ⟨z6, s6, h6, h⟩ := x_b_e h
            refine x_callV (As := [.int a3]) (st := []) (eX6_faults hw  h6) cv_X6_215 (Nat.le_of_ble_eq_true rfl) (ok_e30 hw) rfl (Nat.le_of_ble_eq_true rfl) _ rfl dX6_number_90 [] rfl ?_
            refine x_iload dX6_number_93 4 rfl ?_
            exact x_iretH rfl dX6_number_95 h
          · have h := x_f hc h
            refine x_iload dX6_number_78 4 rfl ?_
            refine x_iload_n dX6_number_80 rfl 1 rfl ?_
            refine x_iload_n dX6_number_81 rfl 2 rfl ?_
            obtain ⟨z7, s7, h7, h⟩ := x_b_e h
            refine x_callS (As := [.int a4, .int a1, .int a2]) (st := []) (eX6_in hw  h7) cs_X6_36 (Nat.le_of_ble_eq_true rfl) rfl (Nat.le_of_ble_eq_true rfl) _ rfl dX6_number_82 [.int z7] rfl ?_
            refine x_if_ne (tgt := 93) dX6_number_85 rfl (fun hc => ?_) (fun hc => ?_)
            · have h := x_f hc h
              refine x_iload dX6_number_93 4 rfl ?_
              exact x_iretH rfl dX6_number_95 h
            · have h := x_t hc h
              refine x_aload_n dX6_number_88 rfl 0 rfl ?_
              refine x_iload_n dX6_number_89 rfl 3 rfl ?_
              obtain ⟨z8, s8, h8, h⟩ := x_b_e h
              refine x_callV (As := [.int a3]) (st := []) (eX6_faults hw  h8) cv_X6_215 (Nat.le_of_ble_eq_true rfl) (ok_e30 hw) rfl (Nat.le_of_ble_eq_true rfl) _ rfl dX6_number_90 [] rfl ?_
              refine x_iload dX6_number_93 4 rfl ?_
              exact x_iretH rfl dX6_number_95 h
    · have h := x_f hc h
      refine x_sipush (x := 1000) dX6_number_15 rfl ?_
      refine x_bipush (x := 10) dX6_number_18 rfl ?_
      refine x_iload dX6_number_20 4 rfl ?_
      refine x_imul dX6_number_22 ?_
      refine x_aload_n dX6_number_23 rfl 0 rfl ?_
      obtain ⟨z9, s9, h9, h⟩ := x_b_e h
      refine x_callV (As := []) (st := [.int (10 * a4), .int 1000]) (eX6_here hw  h9) cv_X6_205 (Nat.le_of_ble_eq_true rfl) (ok_e30 hw) rfl (Nat.le_of_ble_eq_true rfl) _ rfl dX6_number_24 [.int z9, .int (10 * a4), .int 1000] rfl ?_
      refine x_iadd dX6_number_27 ?_
      refine x_bipush (x := 48) dX6_number_28 rfl ?_
      refine x_isub dX6_number_30 ?_
      obtain ⟨z10, s10, h10, h⟩ := x_b_e h
      refine x_callS (As := [.int 1000, .int (((10 * a4) + z9) - 48)]) (st := []) (eX6_least hw  h10) cs_X6_68 (Nat.le_of_ble_eq_true rfl) rfl (Nat.le_of_ble_eq_true rfl) _ rfl dX6_number_31 [.int z10] rfl ?_
      refine x_istore z10 rfl dX6_number_34 (Nat.le_of_ble_eq_true rfl) [(4, .int z10), (0, .ref (w.2.2 5 30 0 0)), (1, .int a1), (2, .int a2), (3, .int a3)] rfl ?_
      refine x_aload_n dX6_number_36 rfl 1 rfl ?_
      refine x_dup dX6_number_37 rfl ?_
      refine x_getI fl_X6_202 (ok_e30 hw) rfl dX6_number_38 ?_
      refine x_iconst (x := 1) dX6_number_41 rfl ?_
      refine x_iadd dX6_number_42 ?_
      obtain ⟨s11, hs11, h⟩ := x_let_e h
      refine x_putI s11 hs11 fp_X6_202 (ok_e30 hw) rfl dX6_number_43 ?_
      refine x_goto (tgt := 8) dX6_number_46 rfl ?_
      refine x_sub (L1 := [(0, .ref (w.2.2 5 30 0 0)), (1, .int a1), (2, .int a2), (3, .int a3), (4, .int z10)]) [1, 2, 3, 4, 0] rfl ?_
      exact ih _ _ h
def fX6_number (a1 : Int32) (a2 : Int32) (σ : xS) : Option (Int32 × xS) :=
  x_let (σ 5 30 0 0 9) fun t1 => BX6_number_8 a1 a2 t1 x_FU 0 σ
set_option maxRecDepth 100000 in
set_option maxHeartbeats 4000000 in
theorem eX6_number {l : Launch} {w : xW} (hw : w.1.2 = true) {a1 : Int32} {a2 : Int32} {σ τ : xS} {r : Int32} (h : fX6_number a1 a2 σ = some (r, τ)) : xEV l w yX6_number mX6_number [.ref (w.2.2 5 30 0 0), .int a1, .int a2] σ (some (.int r)) τ := by
  rw [fX6_number] at h
  refine x_enter (by decide +kernel) rfl (Nat.le_of_ble_eq_true rfl) ?_
  refine x_sub (L1 := [(0, .ref (w.2.2 5 30 0 0)), (1, .int a1), (2, .int a2)]) [0, 1, 2] rfl ?_
  refine x_aload_n dX6_number_0 rfl 0 rfl ?_
  refine x_getI fl_X6_202 (ok_e30 hw) rfl dX6_number_1 ?_
  obtain ⟨t1, ht1, h⟩ := x_let_e h
  refine x_istore_n t1 ht1 dX6_number_4 rfl (Nat.le_of_ble_eq_true rfl) [(3, .int t1), (0, .ref (w.2.2 5 30 0 0)), (1, .int a1), (2, .int a2)] rfl ?_
  refine x_iconst (x := 0) dX6_number_5 rfl ?_
  refine x_istore 0 rfl dX6_number_6 (Nat.le_of_ble_eq_true rfl) [(4, .int 0), (3, .int t1), (0, .ref (w.2.2 5 30 0 0)), (1, .int a1), (2, .int a2)] rfl ?_
  refine x_sub (L1 := [(0, .ref (w.2.2 5 30 0 0)), (1, .int a1), (2, .int a2), (3, .int t1), (4, .int 0)]) [2, 3, 4, 1, 0] rfl ?_
  exact TX6_number_8 hw _ _ _ h
def fX6_sign (a1 : Int32) (σ : xS) : Option (Unit × xS) :=
  x_b (fX6_here  σ) fun z1 s1 => if z1 = a1 then (x_let (x_set s1 5 30 0 0 9 ((s1 5 30 0 0 9) + 1)) fun s3 => some ((), s3)) else (x_b (fX6_faults (s1 5 30 0 0 9) s1) fun z2 s2 => some ((), s2))
set_option maxRecDepth 100000 in
set_option maxHeartbeats 4000000 in
theorem eX6_sign {l : Launch} {w : xW} (hw : w.1.2 = true) {a1 : Int32} {σ τ : xS} {r : Unit} (h : fX6_sign a1 σ = some (r, τ)) : xEV l w yX6_sign mX6_sign [.ref (w.2.2 5 30 0 0), .int a1] σ none τ := by
  rw [fX6_sign] at h
  refine x_enter (by decide +kernel) rfl (Nat.le_of_ble_eq_true rfl) ?_
  refine x_sub (L1 := [(0, .ref (w.2.2 5 30 0 0)), (1, .int a1)]) [0, 1] rfl ?_
  refine x_aload_n dX6_sign_0 rfl 0 rfl ?_
  obtain ⟨z1, s1, h1, h⟩ := x_b_e h
  refine x_callV (As := []) (st := []) (eX6_here hw  h1) cv_X6_205 (Nat.le_of_ble_eq_true rfl) (ok_e30 hw) rfl (Nat.le_of_ble_eq_true rfl) _ rfl dX6_sign_1 [.int z1] rfl ?_
  refine x_iload_n dX6_sign_4 rfl 1 rfl ?_
  refine x_icmp_ne (tgt := 21) dX6_sign_5 rfl (fun hc => ?_) (fun hc => ?_)
  · have h := x_f hc h
    refine x_aload_n dX6_sign_21 rfl 0 rfl ?_
    refine x_aload_n dX6_sign_22 rfl 0 rfl ?_
    refine x_getI fl_X6_202 (ok_e30 hw) rfl dX6_sign_23 ?_
    obtain ⟨z2, s2, h2, h⟩ := x_b_e h
    refine x_callV (As := [.int (s1 5 30 0 0 9)]) (st := []) (eX6_faults hw  h2) cv_X6_215 (Nat.le_of_ble_eq_true rfl) (ok_e30 hw) rfl (Nat.le_of_ble_eq_true rfl) _ rfl dX6_sign_26 [] rfl ?_
    exact x_vretH rfl dX6_sign_29 h
  · have h := x_t hc h
    refine x_aload_n dX6_sign_8 rfl 0 rfl ?_
    refine x_dup dX6_sign_9 rfl ?_
    refine x_getI fl_X6_202 (ok_e30 hw) rfl dX6_sign_10 ?_
    refine x_iconst (x := 1) dX6_sign_13 rfl ?_
    refine x_iadd dX6_sign_14 ?_
    obtain ⟨s3, hs3, h⟩ := x_let_e h
    refine x_putI s3 hs3 fp_X6_202 (ok_e30 hw) rfl dX6_sign_15 ?_
    refine x_goto (tgt := 29) dX6_sign_18 rfl ?_
    exact x_vretH rfl dX6_sign_29 h
def fX6_ends (σ : xS) : Option (Unit × xS) :=
  if 0 ≤ (σ 5 30 0 0 10) then (some ((), σ)) else (x_b (fX6_sign 59 σ) fun z1 s1 => some ((), s1))
set_option maxRecDepth 100000 in
set_option maxHeartbeats 4000000 in
theorem eX6_ends {l : Launch} {w : xW} (hw : w.1.2 = true) {σ τ : xS} {r : Unit} (h : fX6_ends σ = some (r, τ)) : xEV l w yX6_ends mX6_ends [.ref (w.2.2 5 30 0 0)] σ none τ := by
  rw [fX6_ends] at h
  refine x_enter (by decide +kernel) rfl (Nat.le_of_ble_eq_true rfl) ?_
  refine x_sub (L1 := [(0, .ref (w.2.2 5 30 0 0))]) [0] rfl ?_
  refine x_aload_n dX6_ends_0 rfl 0 rfl ?_
  refine x_getI fl_X6_208 (ok_e30 hw) rfl dX6_ends_1 ?_
  refine x_if_ge (tgt := 13) dX6_ends_4 rfl (fun hc => ?_) (fun hc => ?_)
  · have h := x_t hc h
    exact x_vretH rfl dX6_ends_13 h
  · have h := x_f hc h
    refine x_aload_n dX6_ends_7 rfl 0 rfl ?_
    refine x_bipush (x := 59) dX6_ends_8 rfl ?_
    obtain ⟨z1, s1, h1, h⟩ := x_b_e h
    refine x_callV (As := [.int 59]) (st := []) (eX6_sign hw  h1) cv_X6_233 (Nat.le_of_ble_eq_true rfl) (ok_e30 hw) rfl (Nat.le_of_ble_eq_true rfl) _ rfl dX6_ends_10 [] rfl ?_
    exact x_vretH rfl dX6_ends_13 h
def fX6_acts (σ : xS) : Option (Int32 × xS) :=
  if (σ 5 30 0 0 11) = 0 then (some (0, σ)) else (if 0 ≤ (σ 5 30 0 0 10) then (some (0, σ)) else (some (1, σ)))
set_option maxRecDepth 100000 in
set_option maxHeartbeats 4000000 in
theorem eX6_acts {l : Launch} {w : xW} (hw : w.1.2 = true) {σ τ : xS} {r : Int32} (h : fX6_acts σ = some (r, τ)) : xEV l w yX6_acts mX6_acts [.ref (w.2.2 5 30 0 0)] σ (some (.int r)) τ := by
  rw [fX6_acts] at h
  refine x_enter (by decide +kernel) rfl (Nat.le_of_ble_eq_true rfl) ?_
  refine x_sub (L1 := [(0, .ref (w.2.2 5 30 0 0))]) [0] rfl ?_
  refine x_aload_n dX6_acts_0 rfl 0 rfl ?_
  refine x_getI fl_X6_239 (ok_e30 hw) rfl dX6_acts_1 ?_
  refine x_if_eq (tgt := 18) dX6_acts_4 rfl (fun hc => ?_) (fun hc => ?_)
  · have h := x_t hc h
    refine x_iconst (x := 0) dX6_acts_18 rfl ?_
    exact x_zretH rfl rfl dX6_acts_19 h
  · have h := x_f hc h
    refine x_aload_n dX6_acts_7 rfl 0 rfl ?_
    refine x_getI fl_X6_208 (ok_e30 hw) rfl dX6_acts_8 ?_
    refine x_if_ge (tgt := 18) dX6_acts_11 rfl (fun hc => ?_) (fun hc => ?_)
    · have h := x_t hc h
      refine x_iconst (x := 0) dX6_acts_18 rfl ?_
      exact x_zretH rfl rfl dX6_acts_19 h
    · have h := x_f hc h
      refine x_iconst (x := 1) dX6_acts_14 rfl ?_
      refine x_goto (tgt := 19) dX6_acts_15 rfl ?_
      exact x_zretH rfl rfl dX6_acts_19 h
def BX6_order_155 (a2 : Int32) (a3 : Int32) (a4 : Int32) (a5 : Int32) : Nat → Int32 → xS → Option (Unit × xS)
  | 0, _, _ => none
  | n + 1, a6, σ => if a5 ≤ a6 then (some ((), σ)) else (x_b (fX6_acts  σ) fun z5 s5 => if z5 = 0 then (some ((), s5)) else (x_b (fX6_arrives ((3 * a2) + a4) a3 s5) fun z6 s6 => if z6 = (-6) then (x_let (x_set s6 5 30 0 0 12 ((s5 5 30 0 0 12) + 1)) fun s9 => x_let (a6 + 1) fun t10 => (BX6_order_155 a2 a3 a4 a5 n) t10 s9) else (x_let (x_set s6 5 30 0 0 12 ((s5 5 30 0 0 12) + 0)) fun s7 => x_let (a6 + 1) fun t8 => (BX6_order_155 a2 a3 a4 a5 n) t8 s7)))
set_option maxRecDepth 100000 in
set_option maxHeartbeats 4000000 in
theorem TX6_order_155 {l : Launch} {w : xW} (hw : w.1.2 = true) {a2 : Int32} {a3 : Int32} {a4 : Int32} {a5 : Int32} {τ : xS} {r : Unit} : ∀ (n : Nat) (a6 : Int32) (σ : xS), BX6_order_155 a2 a3 a4 a5 n a6 σ = some (r, τ) → xAt l w mX6_order 155 [(0, .ref (w.2.2 5 30 0 0)), (2, .int a2), (3, .int a3), (4, .int a4), (5, .int a5), (6, .int a6)] [] σ none τ := by
  intro n
  induction n with
  | zero => intro a6 σ h; cases h
  | succ n ih =>
    intro a6 σ h
    rw [BX6_order_155] at h
    refine x_iload dX6_order_155 5 rfl ?_
    refine x_iload dX6_order_157 4 rfl ?_
    refine x_icmp_ge (tgt := 205) dX6_order_159 rfl (fun hc => ?_) (fun hc => ?_)
    · have h := x_t hc h
      refine x_goto (tgt := 345) dX6_order_205 rfl ?_
      exact x_vretH rfl dX6_order_345 h
    · have h := x_f hc h
      refine x_aload_n dX6_order_162 rfl 0 rfl ?_
      obtain ⟨z5, s5, h5, h⟩ := x_b_e h
      refine x_callV (As := []) (st := []) (eX6_acts hw  h5) cv_X6_227 (Nat.le_of_ble_eq_true rfl) (ok_e30 hw) rfl (Nat.le_of_ble_eq_true rfl) _ rfl dX6_order_163 [.int z5] rfl ?_
      refine x_if_eq (tgt := 205) dX6_order_166 rfl (fun hc => ?_) (fun hc => ?_)
      · have h := x_t hc h
        refine x_goto (tgt := 345) dX6_order_205 rfl ?_
        exact x_vretH rfl dX6_order_345 h
      · have h := x_f hc h
        refine x_aload_n dX6_order_169 rfl 0 rfl ?_
        refine x_dup dX6_order_170 rfl ?_
        refine x_getI fl_X6_230 (ok_e30 hw) rfl dX6_order_171 ?_
        refine x_aload_n dX6_order_174 rfl 0 rfl ?_
        refine x_iconst (x := 3) dX6_order_175 rfl ?_
        refine x_iload_n dX6_order_176 rfl 1 rfl ?_
        refine x_imul dX6_order_177 ?_
        refine x_iload dX6_order_178 3 rfl ?_
        refine x_iadd dX6_order_180 ?_
        refine x_iload_n dX6_order_181 rfl 2 rfl ?_
        obtain ⟨z6, s6, h6, h⟩ := x_b_e h
        refine x_callV (As := [.int ((3 * a2) + a4), .int a3]) (st := [.int (s5 5 30 0 0 12), .ref (w.2.2 5 30 0 0)]) (eX6_arrives hw  h6) cv_X6_154 (Nat.le_of_ble_eq_true rfl) (ok_e30 hw) rfl (Nat.le_of_ble_eq_true rfl) _ rfl dX6_order_182 [.int z6, .int (s5 5 30 0 0 12), .ref (w.2.2 5 30 0 0)] rfl ?_
        refine x_bipush (x := (-6)) dX6_order_185 (by decide) ?_
        refine x_icmp_ne (tgt := 194) dX6_order_187 rfl (fun hc => ?_) (fun hc => ?_)
        · have h := x_f hc h
          refine x_iconst (x := 0) dX6_order_194 rfl ?_
          refine x_iadd dX6_order_195 ?_
          obtain ⟨s7, hs7, h⟩ := x_let_e h
          refine x_putI s7 hs7 fp_X6_230 (ok_e30 hw) rfl dX6_order_196 ?_
          obtain ⟨t8, ht8, h⟩ := x_let_e h
          refine x_iinc t8 1 rfl ht8 dX6_order_199 5 rfl (Nat.le_of_ble_eq_true rfl) [(6, .int t8), (0, .ref (w.2.2 5 30 0 0)), (2, .int a2), (3, .int a3), (4, .int a4), (5, .int a5)] rfl ?_
          refine x_goto (tgt := 155) dX6_order_202 rfl ?_
          refine x_sub (L1 := [(0, .ref (w.2.2 5 30 0 0)), (2, .int a2), (3, .int a3), (4, .int a4), (5, .int a5), (6, .int t8)]) [1, 2, 3, 4, 5, 0] rfl ?_
          exact ih _ _ h
        · have h := x_t hc h
          refine x_iconst (x := 1) dX6_order_190 rfl ?_
          refine x_goto (tgt := 195) dX6_order_191 rfl ?_
          refine x_iadd dX6_order_195 ?_
          obtain ⟨s9, hs9, h⟩ := x_let_e h
          refine x_putI s9 hs9 fp_X6_230 (ok_e30 hw) rfl dX6_order_196 ?_
          obtain ⟨t10, ht10, h⟩ := x_let_e h
          refine x_iinc t10 1 rfl ht10 dX6_order_199 5 rfl (Nat.le_of_ble_eq_true rfl) [(6, .int t10), (0, .ref (w.2.2 5 30 0 0)), (2, .int a2), (3, .int a3), (4, .int a4), (5, .int a5)] rfl ?_
          refine x_goto (tgt := 155) dX6_order_202 rfl ?_
          refine x_sub (L1 := [(0, .ref (w.2.2 5 30 0 0)), (2, .int a2), (3, .int a3), (4, .int a4), (5, .int a5), (6, .int t10)]) [1, 2, 3, 4, 5, 0] rfl ?_
          exact ih _ _ h
def BX6_order_109 (a2 : Int32) (a4 : Int32) (as0 : Int32) (σ : xS) : Option (Unit × xS) :=
  if 0 ≤ (σ 5 30 0 0 10) then (x_b (fX6_ends  σ) fun z4 s4 => BX6_order_155 a2 as0 a4 1 x_FU 0 s4) else (x_b (fX6_here  σ) fun z11 s11 => if z11 = 42 then (x_let (x_set s11 5 30 0 0 9 ((s11 5 30 0 0 9) + 1)) fun s13 => x_b (fX6_number 2 9 s13) fun z14 s14 => x_b (fX6_ends  s14) fun z15 s15 => BX6_order_155 a2 as0 a4 z14 x_FU 0 s15) else (x_b (fX6_ends  s11) fun z12 s12 => BX6_order_155 a2 as0 a4 1 x_FU 0 s12))
set_option maxRecDepth 100000 in
set_option maxHeartbeats 4000000 in
theorem TX6_order_109 {l : Launch} {w : xW} (hw : w.1.2 = true) {a2 : Int32} {a4 : Int32} {as0 : Int32} {σ τ : xS} {r : Unit} (h : BX6_order_109 a2 a4 as0 σ = some (r, τ)) : xAt l w mX6_order 109 [(0, .ref (w.2.2 5 30 0 0)), (2, .int a2), (4, .int a4)] [.int as0] σ none τ := by
  rw [BX6_order_109] at h
  refine x_istore_n as0 rfl dX6_order_109 rfl (Nat.le_of_ble_eq_true rfl) [(3, .int as0), (0, .ref (w.2.2 5 30 0 0)), (2, .int a2), (4, .int a4)] rfl ?_
  refine x_iconst (x := 1) dX6_order_110 rfl ?_
  refine x_istore 1 rfl dX6_order_111 (Nat.le_of_ble_eq_true rfl) [(5, .int 1), (3, .int as0), (0, .ref (w.2.2 5 30 0 0)), (2, .int a2), (4, .int a4)] rfl ?_
  refine x_aload_n dX6_order_113 rfl 2 rfl ?_
  refine x_getI fl_X6_208 (ok_e30 hw) rfl dX6_order_114 ?_
  refine x_if_ge (tgt := 148) dX6_order_117 rfl (fun hc => ?_) (fun hc => ?_)
  · have h := x_t hc h
    refine x_aload_n dX6_order_148 rfl 2 rfl ?_
    obtain ⟨z4, s4, h4, h⟩ := x_b_e h
    refine x_callV (As := []) (st := []) (eX6_ends hw  h4) cv_X6_224 (Nat.le_of_ble_eq_true rfl) (ok_e30 hw) rfl (Nat.le_of_ble_eq_true rfl) _ rfl dX6_order_149 [] rfl ?_
    refine x_iconst (x := 0) dX6_order_152 rfl ?_
    refine x_istore 0 rfl dX6_order_153 (Nat.le_of_ble_eq_true rfl) [(6, .int 0), (5, .int 1), (3, .int as0), (0, .ref (w.2.2 5 30 0 0)), (2, .int a2), (4, .int a4)] rfl ?_
    refine x_sub (L1 := [(0, .ref (w.2.2 5 30 0 0)), (2, .int a2), (3, .int as0), (4, .int a4), (5, .int 1), (6, .int 0)]) [3, 4, 2, 5, 1, 0] rfl ?_
    exact TX6_order_155 hw _ _ _ h
  · have h := x_f hc h
    refine x_aload_n dX6_order_120 rfl 2 rfl ?_
    obtain ⟨z11, s11, h11, h⟩ := x_b_e h
    refine x_callV (As := []) (st := []) (eX6_here hw  h11) cv_X6_205 (Nat.le_of_ble_eq_true rfl) (ok_e30 hw) rfl (Nat.le_of_ble_eq_true rfl) _ rfl dX6_order_121 [.int z11] rfl ?_
    refine x_bipush (x := 42) dX6_order_124 rfl ?_
    refine x_icmp_ne (tgt := 148) dX6_order_126 rfl (fun hc => ?_) (fun hc => ?_)
    · have h := x_f hc h
      refine x_aload_n dX6_order_148 rfl 2 rfl ?_
      obtain ⟨z12, s12, h12, h⟩ := x_b_e h
      refine x_callV (As := []) (st := []) (eX6_ends hw  h12) cv_X6_224 (Nat.le_of_ble_eq_true rfl) (ok_e30 hw) rfl (Nat.le_of_ble_eq_true rfl) _ rfl dX6_order_149 [] rfl ?_
      refine x_iconst (x := 0) dX6_order_152 rfl ?_
      refine x_istore 0 rfl dX6_order_153 (Nat.le_of_ble_eq_true rfl) [(6, .int 0), (5, .int 1), (3, .int as0), (0, .ref (w.2.2 5 30 0 0)), (2, .int a2), (4, .int a4)] rfl ?_
      refine x_sub (L1 := [(0, .ref (w.2.2 5 30 0 0)), (2, .int a2), (3, .int as0), (4, .int a4), (5, .int 1), (6, .int 0)]) [3, 4, 2, 5, 1, 0] rfl ?_
      exact TX6_order_155 hw _ _ _ h
    · have h := x_t hc h
      refine x_aload_n dX6_order_129 rfl 2 rfl ?_
      refine x_dup dX6_order_130 rfl ?_
      refine x_getI fl_X6_202 (ok_e30 hw) rfl dX6_order_131 ?_
      refine x_iconst (x := 1) dX6_order_134 rfl ?_
      refine x_iadd dX6_order_135 ?_
      obtain ⟨s13, hs13, h⟩ := x_let_e h
      refine x_putI s13 hs13 fp_X6_202 (ok_e30 hw) rfl dX6_order_136 ?_
      refine x_aload_n dX6_order_139 rfl 2 rfl ?_
      refine x_iconst (x := 2) dX6_order_140 rfl ?_
      refine x_bipush (x := 9) dX6_order_141 rfl ?_
      obtain ⟨z14, s14, h14, h⟩ := x_b_e h
      refine x_callV (As := [.int 2, .int 9]) (st := []) (eX6_number hw  h14) cv_X6_221 (Nat.le_of_ble_eq_true rfl) (ok_e30 hw) rfl (Nat.le_of_ble_eq_true rfl) _ rfl dX6_order_143 [.int z14] rfl ?_
      refine x_istore z14 rfl dX6_order_146 (Nat.le_of_ble_eq_true rfl) [(5, .int z14), (3, .int as0), (0, .ref (w.2.2 5 30 0 0)), (2, .int a2), (4, .int a4)] rfl ?_
      refine x_aload_n dX6_order_148 rfl 2 rfl ?_
      obtain ⟨z15, s15, h15, h⟩ := x_b_e h
      refine x_callV (As := []) (st := []) (eX6_ends hw  h15) cv_X6_224 (Nat.le_of_ble_eq_true rfl) (ok_e30 hw) rfl (Nat.le_of_ble_eq_true rfl) _ rfl dX6_order_149 [] rfl ?_
      refine x_iconst (x := 0) dX6_order_152 rfl ?_
      refine x_istore 0 rfl dX6_order_153 (Nat.le_of_ble_eq_true rfl) [(6, .int 0), (5, .int z14), (3, .int as0), (0, .ref (w.2.2 5 30 0 0)), (2, .int a2), (4, .int a4)] rfl ?_
      refine x_sub (L1 := [(0, .ref (w.2.2 5 30 0 0)), (2, .int a2), (3, .int as0), (4, .int a4), (5, .int z14), (6, .int 0)]) [3, 4, 2, 5, 1, 0] rfl ?_
      exact TX6_order_155 hw _ _ _ h
def BX6_order_313 (a2 : Int32) (as0 : Int32) (σ : xS) : Option (Unit × xS) :=
  x_b (fX6_ends  σ) fun z24 s24 => x_b (fX6_acts  s24) fun z25 s25 => if z25 = 0 then (some ((), s25)) else (x_b (fX6_grant a2 as0 s25) fun z26 s26 => some ((), s26))
set_option maxRecDepth 100000 in
set_option maxHeartbeats 4000000 in
theorem TX6_order_313 {l : Launch} {w : xW} (hw : w.1.2 = true) {a2 : Int32} {as0 : Int32} {σ τ : xS} {r : Unit} (h : BX6_order_313 a2 as0 σ = some (r, τ)) : xAt l w mX6_order 313 [(0, .ref (w.2.2 5 30 0 0)), (2, .int a2)] [.int as0] σ none τ := by
  rw [BX6_order_313] at h
  refine x_istore_n as0 rfl dX6_order_313 rfl (Nat.le_of_ble_eq_true rfl) [(3, .int as0), (0, .ref (w.2.2 5 30 0 0)), (2, .int a2)] rfl ?_
  refine x_aload_n dX6_order_314 rfl 1 rfl ?_
  obtain ⟨z24, s24, h24, h⟩ := x_b_e h
  refine x_callV (As := []) (st := []) (eX6_ends hw  h24) cv_X6_224 (Nat.le_of_ble_eq_true rfl) (ok_e30 hw) rfl (Nat.le_of_ble_eq_true rfl) _ rfl dX6_order_315 [] rfl ?_
  refine x_aload_n dX6_order_318 rfl 1 rfl ?_
  obtain ⟨z25, s25, h25, h⟩ := x_b_e h
  refine x_callV (As := []) (st := []) (eX6_acts hw  h25) cv_X6_227 (Nat.le_of_ble_eq_true rfl) (ok_e30 hw) rfl (Nat.le_of_ble_eq_true rfl) _ rfl dX6_order_319 [.int z25] rfl ?_
  refine x_if_eq (tgt := 345) dX6_order_322 rfl (fun hc => ?_) (fun hc => ?_)
  · have h := x_t hc h
    exact x_vretH rfl dX6_order_345 h
  · have h := x_f hc h
    refine x_aload_n dX6_order_325 rfl 1 rfl ?_
    refine x_iload_n dX6_order_326 rfl 2 rfl ?_
    refine x_iload_n dX6_order_327 rfl 0 rfl ?_
    obtain ⟨z26, s26, h26, h⟩ := x_b_e h
    refine x_callV (As := [.int a2, .int as0]) (st := []) (eX6_grant hw  h26) cv_X6_236 (Nat.le_of_ble_eq_true rfl) (ok_e30 hw) rfl (Nat.le_of_ble_eq_true rfl) _ rfl dX6_order_328 [.int z26] rfl ?_
    refine x_pop dX6_order_331 rfl ?_
    refine x_goto (tgt := 345) dX6_order_332 rfl ?_
    exact x_vretH rfl dX6_order_345 h
def fX6_order (σ : xS) : Option (Unit × xS) :=
  x_b (fX6_here  σ) fun z1 s1 => x_let (x_set s1 5 30 0 0 9 ((s1 5 30 0 0 9) + 1)) fun s2 => if z1 = 97 then (x_b (fX6_digit ((s2 5 31 0 0 1) - 1) s2) fun z3 s3 => if 0 ≤ (s3 5 30 0 0 10) then (if 0 ≤ (s3 5 30 0 0 10) then (BX6_order_109 z3 0 0 s3) else (x_b (fX6_number 1 12 s3) fun z16 s16 => BX6_order_109 z3 0 z16 s16)) else (x_b (fX6_digit 2 s3) fun z17 s17 => if 0 ≤ (s17 5 30 0 0 10) then (BX6_order_109 z3 z17 0 s17) else (x_b (fX6_number 1 12 s17) fun z18 s18 => BX6_order_109 z3 z17 z18 s18))) else (if z1 = 102 then (x_b (fX6_digit ((s2 5 31 0 0 1) - 1) s2) fun z19 s19 => x_b (fX6_ends  s19) fun z20 s20 => x_b (fX6_acts  s20) fun z21 s21 => if z21 = 0 then (some ((), s21)) else (x_b (fX6_flushes z19 s21) fun z22 s22 => some ((), s22))) else (if z1 = 103 then (x_b (fX6_digit ((s2 5 31 0 0 1) - 1) s2) fun z23 s23 => if 0 ≤ (s23 5 30 0 0 10) then (if 0 ≤ (s23 5 30 0 0 10) then (BX6_order_313 z23 0 s23) else (x_b (fX6_number 1 32 s23) fun z27 s27 => BX6_order_313 z23 z27 s27)) else (x_b (fX6_sign 44 s23) fun z28 s28 => if 0 ≤ (s28 5 30 0 0 10) then (BX6_order_313 z23 0 s28) else (x_b (fX6_number 1 32 s28) fun z29 s29 => BX6_order_313 z23 z29 s29))) else (if z1 = 116 then (x_b (fX6_number 1 20 s2) fun z30 s30 => x_b (fX6_ends  s30) fun z31 s31 => x_b (fX6_acts  s31) fun z32 s32 => if z32 = 0 then (some ((), s32)) else (x_b (fX6_ticking z30 s32) fun z33 s33 => some ((), s33))) else (x_b (fX6_faults ((s2 5 30 0 0 9) - 1) s2) fun z34 s34 => some ((), s34)))))
set_option maxRecDepth 100000 in
set_option maxHeartbeats 4000000 in
theorem eX6_order {l : Launch} {w : xW} (hw : w.1.2 = true) {σ τ : xS} {r : Unit} (h : fX6_order σ = some (r, τ)) : xEV l w yX6_order mX6_order [.ref (w.2.2 5 30 0 0)] σ none τ := by
  rw [fX6_order] at h
  refine x_enter (by decide +kernel) rfl (Nat.le_of_ble_eq_true rfl) ?_
  refine x_sub (L1 := [(0, .ref (w.2.2 5 30 0 0))]) [0] rfl ?_
  refine x_aload_n dX6_order_0 rfl 0 rfl ?_
  obtain ⟨z1, s1, h1, h⟩ := x_b_e h
  refine x_callV (As := []) (st := []) (eX6_here hw  h1) cv_X6_205 (Nat.le_of_ble_eq_true rfl) (ok_e30 hw) rfl (Nat.le_of_ble_eq_true rfl) _ rfl dX6_order_1 [.int z1] rfl ?_
  refine x_istore_n z1 rfl dX6_order_4 rfl (Nat.le_of_ble_eq_true rfl) [(1, .int z1), (0, .ref (w.2.2 5 30 0 0))] rfl ?_
  refine x_aload_n dX6_order_5 rfl 1 rfl ?_
  refine x_dup dX6_order_6 rfl ?_
  refine x_getI fl_X6_202 (ok_e30 hw) rfl dX6_order_7 ?_
  refine x_iconst (x := 1) dX6_order_10 rfl ?_
  refine x_iadd dX6_order_11 ?_
  obtain ⟨s2, hs2, h⟩ := x_let_e h
  refine x_putI s2 hs2 fp_X6_202 (ok_e30 hw) rfl dX6_order_12 ?_
  refine x_iload_n dX6_order_15 rfl 0 rfl ?_
  by_cases hc97 : z1 = 97
  · have h := x_t hc97 h
    refine x_lookup (off := 44) (tgt := 60) dX6_order_16 rfl (by rw [hc97]; first | done | rfl) rfl ?_
    refine x_aload_n dX6_order_60 rfl 1 rfl ?_
    refine x_aload_n dX6_order_61 rfl 1 rfl ?_
    refine x_getR (d1 := 5) (K1 := 31) (p1 := 0) (r1 := 0) fl_X6_7 (ok_e30 hw) rfl dX6_order_62 ?_
    refine x_iconst (x := 1) dX6_order_65 rfl ?_
    refine x_iald 6464 1 rfl rfl rfl rfl (ok_e31 hw) rfl dX6_order_66 ?_
    refine x_iconst (x := 1) dX6_order_67 rfl ?_
    refine x_isub dX6_order_68 ?_
    obtain ⟨z3, s3, h3, h⟩ := x_b_e h
    refine x_callV (As := [.int ((s2 5 31 0 0 1) - 1)]) (st := []) (eX6_digit hw  h3) cv_X6_218 (Nat.le_of_ble_eq_true rfl) (ok_e30 hw) rfl (Nat.le_of_ble_eq_true rfl) _ rfl dX6_order_69 [.int z3] rfl ?_
    refine x_istore_n z3 rfl dX6_order_72 rfl (Nat.le_of_ble_eq_true rfl) [(2, .int z3), (1, .int z1), (0, .ref (w.2.2 5 30 0 0))] rfl ?_
    refine x_aload_n dX6_order_73 rfl 2 rfl ?_
    refine x_getI fl_X6_208 (ok_e30 hw) rfl dX6_order_74 ?_
    refine x_if_ge (tgt := 88) dX6_order_77 rfl (fun hc => ?_) (fun hc => ?_)
    · have h := x_t hc h
      refine x_iconst (x := 0) dX6_order_88 rfl ?_
      refine x_istore 0 rfl dX6_order_89 (Nat.le_of_ble_eq_true rfl) [(4, .int 0), (2, .int z3), (1, .int z1), (0, .ref (w.2.2 5 30 0 0))] rfl ?_
      refine x_aload_n dX6_order_91 rfl 3 rfl ?_
      refine x_getI fl_X6_208 (ok_e30 hw) rfl dX6_order_92 ?_
      refine x_if_ge (tgt := 108) dX6_order_95 rfl (fun hc => ?_) (fun hc => ?_)
      · have h := x_t hc h
        refine x_iconst (x := 0) dX6_order_108 rfl ?_
        refine x_sub (L1 := [(0, .ref (w.2.2 5 30 0 0)), (2, .int z3), (4, .int 0)]) [3, 1, 0] rfl ?_
        exact TX6_order_109 hw  h
      · have h := x_f hc h
        refine x_aload_n dX6_order_98 rfl 3 rfl ?_
        refine x_iconst (x := 1) dX6_order_99 rfl ?_
        refine x_bipush (x := 12) dX6_order_100 rfl ?_
        obtain ⟨z16, s16, h16, h⟩ := x_b_e h
        refine x_callV (As := [.int 1, .int 12]) (st := []) (eX6_number hw  h16) cv_X6_221 (Nat.le_of_ble_eq_true rfl) (ok_e30 hw) rfl (Nat.le_of_ble_eq_true rfl) _ rfl dX6_order_102 [.int z16] rfl ?_
        refine x_goto (tgt := 109) dX6_order_105 rfl ?_
        refine x_sub (L1 := [(0, .ref (w.2.2 5 30 0 0)), (2, .int z3), (4, .int 0)]) [3, 1, 0] rfl ?_
        exact TX6_order_109 hw  h
    · have h := x_f hc h
      refine x_aload_n dX6_order_80 rfl 2 rfl ?_
      refine x_iconst (x := 2) dX6_order_81 rfl ?_
      obtain ⟨z17, s17, h17, h⟩ := x_b_e h
      refine x_callV (As := [.int 2]) (st := []) (eX6_digit hw  h17) cv_X6_218 (Nat.le_of_ble_eq_true rfl) (ok_e30 hw) rfl (Nat.le_of_ble_eq_true rfl) _ rfl dX6_order_82 [.int z17] rfl ?_
      refine x_goto (tgt := 89) dX6_order_85 rfl ?_
      refine x_istore z17 rfl dX6_order_89 (Nat.le_of_ble_eq_true rfl) [(4, .int z17), (2, .int z3), (1, .int z1), (0, .ref (w.2.2 5 30 0 0))] rfl ?_
      refine x_aload_n dX6_order_91 rfl 3 rfl ?_
      refine x_getI fl_X6_208 (ok_e30 hw) rfl dX6_order_92 ?_
      refine x_if_ge (tgt := 108) dX6_order_95 rfl (fun hc => ?_) (fun hc => ?_)
      · have h := x_t hc h
        refine x_iconst (x := 0) dX6_order_108 rfl ?_
        refine x_sub (L1 := [(0, .ref (w.2.2 5 30 0 0)), (2, .int z3), (4, .int z17)]) [3, 1, 0] rfl ?_
        exact TX6_order_109 hw  h
      · have h := x_f hc h
        refine x_aload_n dX6_order_98 rfl 3 rfl ?_
        refine x_iconst (x := 1) dX6_order_99 rfl ?_
        refine x_bipush (x := 12) dX6_order_100 rfl ?_
        obtain ⟨z18, s18, h18, h⟩ := x_b_e h
        refine x_callV (As := [.int 1, .int 12]) (st := []) (eX6_number hw  h18) cv_X6_221 (Nat.le_of_ble_eq_true rfl) (ok_e30 hw) rfl (Nat.le_of_ble_eq_true rfl) _ rfl dX6_order_102 [.int z18] rfl ?_
        refine x_goto (tgt := 109) dX6_order_105 rfl ?_
        refine x_sub (L1 := [(0, .ref (w.2.2 5 30 0 0)), (2, .int z3), (4, .int z17)]) [3, 1, 0] rfl ?_
        exact TX6_order_109 hw  h
  · have h := x_f hc97 h
    by_cases hc102 : z1 = 102
    · have h := x_t hc102 h
      refine x_lookup (off := 220) (tgt := 236) dX6_order_16 rfl (by rw [hc102]; first | done | rfl) rfl ?_
      refine x_aload_n dX6_order_236 rfl 1 rfl ?_
      refine x_aload_n dX6_order_237 rfl 1 rfl ?_
      refine x_getR (d1 := 5) (K1 := 31) (p1 := 0) (r1 := 0) fl_X6_7 (ok_e30 hw) rfl dX6_order_238 ?_
      refine x_iconst (x := 1) dX6_order_241 rfl ?_
      refine x_iald 6464 1 rfl rfl rfl rfl (ok_e31 hw) rfl dX6_order_242 ?_
      refine x_iconst (x := 1) dX6_order_243 rfl ?_
      refine x_isub dX6_order_244 ?_
      obtain ⟨z19, s19, h19, h⟩ := x_b_e h
      refine x_callV (As := [.int ((s2 5 31 0 0 1) - 1)]) (st := []) (eX6_digit hw  h19) cv_X6_218 (Nat.le_of_ble_eq_true rfl) (ok_e30 hw) rfl (Nat.le_of_ble_eq_true rfl) _ rfl dX6_order_245 [.int z19] rfl ?_
      refine x_istore_n z19 rfl dX6_order_248 rfl (Nat.le_of_ble_eq_true rfl) [(2, .int z19), (1, .int z1), (0, .ref (w.2.2 5 30 0 0))] rfl ?_
      refine x_aload_n dX6_order_249 rfl 2 rfl ?_
      obtain ⟨z20, s20, h20, h⟩ := x_b_e h
      refine x_callV (As := []) (st := []) (eX6_ends hw  h20) cv_X6_224 (Nat.le_of_ble_eq_true rfl) (ok_e30 hw) rfl (Nat.le_of_ble_eq_true rfl) _ rfl dX6_order_250 [] rfl ?_
      refine x_aload_n dX6_order_253 rfl 2 rfl ?_
      obtain ⟨z21, s21, h21, h⟩ := x_b_e h
      refine x_callV (As := []) (st := []) (eX6_acts hw  h21) cv_X6_227 (Nat.le_of_ble_eq_true rfl) (ok_e30 hw) rfl (Nat.le_of_ble_eq_true rfl) _ rfl dX6_order_254 [.int z21] rfl ?_
      refine x_if_eq (tgt := 345) dX6_order_257 rfl (fun hc => ?_) (fun hc => ?_)
      · have h := x_t hc h
        exact x_vretH rfl dX6_order_345 h
      · have h := x_f hc h
        refine x_aload_n dX6_order_260 rfl 2 rfl ?_
        refine x_iload_n dX6_order_261 rfl 0 rfl ?_
        obtain ⟨z22, s22, h22, h⟩ := x_b_e h
        refine x_callV (As := [.int z19]) (st := []) (eX6_flushes hw  h22) cv_X6_172 (Nat.le_of_ble_eq_true rfl) (ok_e30 hw) rfl (Nat.le_of_ble_eq_true rfl) _ rfl dX6_order_262 [.int z22] rfl ?_
        refine x_pop dX6_order_265 rfl ?_
        refine x_goto (tgt := 345) dX6_order_266 rfl ?_
        exact x_vretH rfl dX6_order_345 h
    · have h := x_f hc102 h
      by_cases hc103 : z1 = 103
      · have h := x_t hc103 h
        refine x_lookup (off := 253) (tgt := 269) dX6_order_16 rfl (by rw [hc103]; first | done | rfl) rfl ?_
        refine x_aload_n dX6_order_269 rfl 1 rfl ?_
        refine x_aload_n dX6_order_270 rfl 1 rfl ?_
        refine x_getR (d1 := 5) (K1 := 31) (p1 := 0) (r1 := 0) fl_X6_7 (ok_e30 hw) rfl dX6_order_271 ?_
        refine x_iconst (x := 1) dX6_order_274 rfl ?_
        refine x_iald 6464 1 rfl rfl rfl rfl (ok_e31 hw) rfl dX6_order_275 ?_
        refine x_iconst (x := 1) dX6_order_276 rfl ?_
        refine x_isub dX6_order_277 ?_
        obtain ⟨z23, s23, h23, h⟩ := x_b_e h
        refine x_callV (As := [.int ((s2 5 31 0 0 1) - 1)]) (st := []) (eX6_digit hw  h23) cv_X6_218 (Nat.le_of_ble_eq_true rfl) (ok_e30 hw) rfl (Nat.le_of_ble_eq_true rfl) _ rfl dX6_order_278 [.int z23] rfl ?_
        refine x_istore_n z23 rfl dX6_order_281 rfl (Nat.le_of_ble_eq_true rfl) [(2, .int z23), (1, .int z1), (0, .ref (w.2.2 5 30 0 0))] rfl ?_
        refine x_aload_n dX6_order_282 rfl 2 rfl ?_
        refine x_getI fl_X6_208 (ok_e30 hw) rfl dX6_order_283 ?_
        refine x_if_ge (tgt := 295) dX6_order_286 rfl (fun hc => ?_) (fun hc => ?_)
        · have h := x_t hc h
          refine x_aload_n dX6_order_295 rfl 2 rfl ?_
          refine x_getI fl_X6_208 (ok_e30 hw) rfl dX6_order_296 ?_
          refine x_if_ge (tgt := 312) dX6_order_299 rfl (fun hc => ?_) (fun hc => ?_)
          · have h := x_t hc h
            refine x_iconst (x := 0) dX6_order_312 rfl ?_
            refine x_sub (L1 := [(0, .ref (w.2.2 5 30 0 0)), (2, .int z23)]) [2, 0] rfl ?_
            exact TX6_order_313 hw  h
          · have h := x_f hc h
            refine x_aload_n dX6_order_302 rfl 2 rfl ?_
            refine x_iconst (x := 1) dX6_order_303 rfl ?_
            refine x_bipush (x := 32) dX6_order_304 rfl ?_
            obtain ⟨z27, s27, h27, h⟩ := x_b_e h
            refine x_callV (As := [.int 1, .int 32]) (st := []) (eX6_number hw  h27) cv_X6_221 (Nat.le_of_ble_eq_true rfl) (ok_e30 hw) rfl (Nat.le_of_ble_eq_true rfl) _ rfl dX6_order_306 [.int z27] rfl ?_
            refine x_goto (tgt := 313) dX6_order_309 rfl ?_
            refine x_sub (L1 := [(0, .ref (w.2.2 5 30 0 0)), (2, .int z23)]) [2, 0] rfl ?_
            exact TX6_order_313 hw  h
        · have h := x_f hc h
          refine x_aload_n dX6_order_289 rfl 2 rfl ?_
          refine x_bipush (x := 44) dX6_order_290 rfl ?_
          obtain ⟨z28, s28, h28, h⟩ := x_b_e h
          refine x_callV (As := [.int 44]) (st := []) (eX6_sign hw  h28) cv_X6_233 (Nat.le_of_ble_eq_true rfl) (ok_e30 hw) rfl (Nat.le_of_ble_eq_true rfl) _ rfl dX6_order_292 [] rfl ?_
          refine x_aload_n dX6_order_295 rfl 2 rfl ?_
          refine x_getI fl_X6_208 (ok_e30 hw) rfl dX6_order_296 ?_
          refine x_if_ge (tgt := 312) dX6_order_299 rfl (fun hc => ?_) (fun hc => ?_)
          · have h := x_t hc h
            refine x_iconst (x := 0) dX6_order_312 rfl ?_
            refine x_sub (L1 := [(0, .ref (w.2.2 5 30 0 0)), (2, .int z23)]) [2, 0] rfl ?_
            exact TX6_order_313 hw  h
          · have h := x_f hc h
            refine x_aload_n dX6_order_302 rfl 2 rfl ?_
            refine x_iconst (x := 1) dX6_order_303 rfl ?_
            refine x_bipush (x := 32) dX6_order_304 rfl ?_
            obtain ⟨z29, s29, h29, h⟩ := x_b_e h
            refine x_callV (As := [.int 1, .int 32]) (st := []) (eX6_number hw  h29) cv_X6_221 (Nat.le_of_ble_eq_true rfl) (ok_e30 hw) rfl (Nat.le_of_ble_eq_true rfl) _ rfl dX6_order_306 [.int z29] rfl ?_
            refine x_goto (tgt := 313) dX6_order_309 rfl ?_
            refine x_sub (L1 := [(0, .ref (w.2.2 5 30 0 0)), (2, .int z23)]) [2, 0] rfl ?_
            exact TX6_order_313 hw  h
      · have h := x_f hc103 h
        by_cases hc116 : z1 = 116
        · have h := x_t hc116 h
          refine x_lookup (off := 192) (tgt := 208) dX6_order_16 rfl (by rw [hc116]; first | done | rfl) rfl ?_
          refine x_aload_n dX6_order_208 rfl 1 rfl ?_
          refine x_iconst (x := 1) dX6_order_209 rfl ?_
          refine x_bipush (x := 20) dX6_order_210 rfl ?_
          obtain ⟨z30, s30, h30, h⟩ := x_b_e h
          refine x_callV (As := [.int 1, .int 20]) (st := []) (eX6_number hw  h30) cv_X6_221 (Nat.le_of_ble_eq_true rfl) (ok_e30 hw) rfl (Nat.le_of_ble_eq_true rfl) _ rfl dX6_order_212 [.int z30] rfl ?_
          refine x_istore_n z30 rfl dX6_order_215 rfl (Nat.le_of_ble_eq_true rfl) [(3, .int z30), (1, .int z1), (0, .ref (w.2.2 5 30 0 0))] rfl ?_
          refine x_aload_n dX6_order_216 rfl 2 rfl ?_
          obtain ⟨z31, s31, h31, h⟩ := x_b_e h
          refine x_callV (As := []) (st := []) (eX6_ends hw  h31) cv_X6_224 (Nat.le_of_ble_eq_true rfl) (ok_e30 hw) rfl (Nat.le_of_ble_eq_true rfl) _ rfl dX6_order_217 [] rfl ?_
          refine x_aload_n dX6_order_220 rfl 2 rfl ?_
          obtain ⟨z32, s32, h32, h⟩ := x_b_e h
          refine x_callV (As := []) (st := []) (eX6_acts hw  h32) cv_X6_227 (Nat.le_of_ble_eq_true rfl) (ok_e30 hw) rfl (Nat.le_of_ble_eq_true rfl) _ rfl dX6_order_221 [.int z32] rfl ?_
          refine x_if_eq (tgt := 345) dX6_order_224 rfl (fun hc => ?_) (fun hc => ?_)
          · have h := x_t hc h
            exact x_vretH rfl dX6_order_345 h
          · have h := x_f hc h
            refine x_aload_n dX6_order_227 rfl 2 rfl ?_
            refine x_iload_n dX6_order_228 rfl 0 rfl ?_
            obtain ⟨z33, s33, h33, h⟩ := x_b_e h
            refine x_callV (As := [.int z30]) (st := []) (eX6_ticking hw  h33) cv_X6_169 (Nat.le_of_ble_eq_true rfl) (ok_e30 hw) rfl (Nat.le_of_ble_eq_true rfl) _ rfl dX6_order_229 [.int z33] rfl ?_
            refine x_pop dX6_order_232 rfl ?_
            refine x_goto (tgt := 345) dX6_order_233 rfl ?_
            exact x_vretH rfl dX6_order_345 h
        · have h := x_f hc116 h
          refine x_lookup (off := 319) (tgt := 335) dX6_order_16 rfl (by simp [Op.lookupswitch.offset, (x_ne_i 97 97 rfl hc97).symm, (x_ne_i 102 102 rfl hc102).symm, (x_ne_i 103 103 rfl hc103).symm, (x_ne_i 116 116 rfl hc116).symm]) rfl ?_
          refine x_aload_n dX6_order_335 rfl 1 rfl ?_
          refine x_aload_n dX6_order_336 rfl 1 rfl ?_
          refine x_getI fl_X6_202 (ok_e30 hw) rfl dX6_order_337 ?_
          refine x_iconst (x := 1) dX6_order_340 rfl ?_
          refine x_isub dX6_order_341 ?_
          obtain ⟨z34, s34, h34, h⟩ := x_b_e h
          refine x_callV (As := [.int ((s2 5 30 0 0 9) - 1)]) (st := []) (eX6_faults hw  h34) cv_X6_215 (Nat.le_of_ble_eq_true rfl) (ok_e30 hw) rfl (Nat.le_of_ble_eq_true rfl) _ rfl dX6_order_342 [] rfl ?_
          exact x_vretH rfl dX6_order_345 h
def BX6_reads_20 : Nat → xS → Option (Unit × xS)
  | 0, _ => none
  | n + 1, σ => if (σ 5 30 0 0 5) ≤ (σ 5 30 0 0 9) then (some ((), σ)) else (if 0 ≤ (σ 5 30 0 0 10) then (some ((), σ)) else (x_b (fX6_order  σ) fun z6 s6 => (BX6_reads_20 n) s6))
set_option maxRecDepth 100000 in
set_option maxHeartbeats 4000000 in
theorem TX6_reads_20 {l : Launch} {w : xW} (hw : w.1.2 = true) {τ : xS} {r : Unit} : ∀ (n : Nat) (σ : xS), BX6_reads_20 n σ = some (r, τ) → xAt l w mX6_reads 20 [(0, .ref (w.2.2 5 30 0 0))] [] σ none τ := by
  intro n
  induction n with
  | zero => intro σ h; cases h
  | succ n ih =>
    intro σ h
    rw [BX6_reads_20] at h
    refine x_aload_n dX6_reads_20 rfl 0 rfl ?_
    refine x_getI fl_X6_202 (ok_e30 hw) rfl dX6_reads_21 ?_
    refine x_aload_n dX6_reads_24 rfl 0 rfl ?_
    refine x_getI fl_X6_199 (ok_e30 hw) rfl dX6_reads_25 ?_
    refine x_icmp_ge (tgt := 45) dX6_reads_28 rfl (fun hc => ?_) (fun hc => ?_)
    · have h := x_t hc h
      exact x_vretH rfl dX6_reads_45 h
    · have h := x_f hc h
      refine x_aload_n dX6_reads_31 rfl 0 rfl ?_
      refine x_getI fl_X6_208 (ok_e30 hw) rfl dX6_reads_32 ?_
      refine x_if_ge (tgt := 45) dX6_reads_35 rfl (fun hc => ?_) (fun hc => ?_)
      · have h := x_t hc h
        exact x_vretH rfl dX6_reads_45 h
      · have h := x_f hc h
        refine x_aload_n dX6_reads_38 rfl 0 rfl ?_
        obtain ⟨z6, s6, h6, h⟩ := x_b_e h
        refine x_callV (As := []) (st := []) (eX6_order hw  h6) cv_X6_243 (Nat.le_of_ble_eq_true rfl) (ok_e30 hw) rfl (Nat.le_of_ble_eq_true rfl) _ rfl dX6_reads_39 [] rfl ?_
        refine x_goto (tgt := 20) dX6_reads_42 rfl ?_
        refine x_sub (L1 := [(0, .ref (w.2.2 5 30 0 0))]) [0] rfl ?_
        exact ih _ h
def fX6_reads (a1 : Int32) (σ : xS) : Option (Unit × xS) :=
  x_let (x_set σ 5 30 0 0 9 0) fun s1 => x_let (x_set s1 5 30 0 0 10 (-1)) fun s2 => x_g (x_z a1) (x_let (x_set s2 5 30 0 0 11 a1) fun s3 => x_let (x_set s3 5 30 0 0 12 0) fun s5 => BX6_reads_20 x_FU s5)
set_option maxRecDepth 100000 in
set_option maxHeartbeats 4000000 in
theorem eX6_reads {l : Launch} {w : xW} (hw : w.1.2 = true) {a1 : Int32} {σ τ : xS} {r : Unit} (h : fX6_reads a1 σ = some (r, τ)) : xEV l w yX6_reads mX6_reads [.ref (w.2.2 5 30 0 0), .int a1] σ none τ := by
  rw [fX6_reads] at h
  refine x_enter (by decide +kernel) rfl (Nat.le_of_ble_eq_true rfl) ?_
  refine x_sub (L1 := [(0, .ref (w.2.2 5 30 0 0)), (1, .int a1)]) [0, 1] rfl ?_
  refine x_aload_n dX6_reads_0 rfl 0 rfl ?_
  refine x_iconst (x := 0) dX6_reads_1 rfl ?_
  obtain ⟨s1, hs1, h⟩ := x_let_e h
  refine x_putI s1 hs1 fp_X6_202 (ok_e30 hw) rfl dX6_reads_2 ?_
  refine x_aload_n dX6_reads_5 rfl 0 rfl ?_
  refine x_iconst (x := (-1)) dX6_reads_6 (by decide) ?_
  obtain ⟨s2, hs2, h⟩ := x_let_e h
  refine x_putI s2 hs2 fp_X6_208 (ok_e30 hw) rfl dX6_reads_7 ?_
  refine x_aload_n dX6_reads_10 rfl 0 rfl ?_
  refine x_iload_n dX6_reads_11 rfl 1 rfl ?_
  obtain ⟨hg4, h⟩ := x_g_e h
  obtain ⟨s3, hs3, h⟩ := x_let_e h
  refine x_putZ s3 hs3 hg4 fp_X6_239 (ok_e30 hw) rfl dX6_reads_12 ?_
  refine x_aload_n dX6_reads_15 rfl 0 rfl ?_
  refine x_iconst (x := 0) dX6_reads_16 rfl ?_
  obtain ⟨s5, hs5, h⟩ := x_let_e h
  refine x_putI s5 hs5 fp_X6_230 (ok_e30 hw) rfl dX6_reads_17 ?_
  refine x_sub (L1 := [(0, .ref (w.2.2 5 30 0 0))]) [0] rfl ?_
  exact TX6_reads_20 hw _ _ h
def fX6_faultPosition (σ : xS) : Option (Int32 × xS) :=
  x_b (fX6_reads 0 σ) fun z1 s1 => if 0 ≤ (s1 5 30 0 0 10) then (some ((s1 5 30 0 0 10), s1)) else (some ((-5), s1))
set_option maxRecDepth 100000 in
set_option maxHeartbeats 4000000 in
theorem eX6_faultPosition {l : Launch} {w : xW} (hw : w.1.2 = true) {σ τ : xS} {r : Int32} (h : fX6_faultPosition σ = some (r, τ)) : xEV l w yX6_faultPosition mX6_faultPosition [.ref (w.2.2 5 30 0 0)] σ (some (.int r)) τ := by
  rw [fX6_faultPosition] at h
  refine x_enter (by decide +kernel) rfl (Nat.le_of_ble_eq_true rfl) ?_
  refine x_sub (L1 := [(0, .ref (w.2.2 5 30 0 0))]) [0] rfl ?_
  refine x_aload_n dX6_faultPosition_0 rfl 0 rfl ?_
  refine x_iconst (x := 0) dX6_faultPosition_1 rfl ?_
  obtain ⟨z1, s1, h1, h⟩ := x_b_e h
  refine x_callV (As := [.int 0]) (st := []) (eX6_reads hw  h1) cv_X6_246 (Nat.le_of_ble_eq_true rfl) (ok_e30 hw) rfl (Nat.le_of_ble_eq_true rfl) _ rfl dX6_faultPosition_2 [] rfl ?_
  refine x_aload_n dX6_faultPosition_5 rfl 0 rfl ?_
  refine x_getI fl_X6_208 (ok_e30 hw) rfl dX6_faultPosition_6 ?_
  refine x_if_ge (tgt := 17) dX6_faultPosition_9 rfl (fun hc => ?_) (fun hc => ?_)
  · have h := x_t hc h
    refine x_aload_n dX6_faultPosition_17 rfl 0 rfl ?_
    refine x_getI fl_X6_208 (ok_e30 hw) rfl dX6_faultPosition_18 ?_
    exact x_iretH rfl dX6_faultPosition_21 h
  · have h := x_f hc h
    refine x_bipush (x := (-5)) dX6_faultPosition_12 (by decide) ?_
    refine x_goto (tgt := 21) dX6_faultPosition_14 rfl ?_
    exact x_iretH rfl dX6_faultPosition_21 h
def fX6_run (σ : xS) : Option (Int32 × xS) :=
  x_b (fX6_reads 0 σ) fun z1 s1 => if (s1 5 30 0 0 10) < 0 then (x_b (fX6_reads 1 s1) fun z2 s2 => some ((s2 5 30 0 0 12), s2)) else (some (((-1000) - (s1 5 30 0 0 10)), s1))
set_option maxRecDepth 100000 in
set_option maxHeartbeats 4000000 in
theorem eX6_run {l : Launch} {w : xW} (hw : w.1.2 = true) {σ τ : xS} {r : Int32} (h : fX6_run σ = some (r, τ)) : xEV l w yX6_run mX6_run [.ref (w.2.2 5 30 0 0)] σ (some (.int r)) τ := by
  rw [fX6_run] at h
  refine x_enter (by decide +kernel) rfl (Nat.le_of_ble_eq_true rfl) ?_
  refine x_sub (L1 := [(0, .ref (w.2.2 5 30 0 0))]) [0] rfl ?_
  refine x_aload_n dX6_run_0 rfl 0 rfl ?_
  refine x_iconst (x := 0) dX6_run_1 rfl ?_
  obtain ⟨z1, s1, h1, h⟩ := x_b_e h
  refine x_callV (As := [.int 0]) (st := []) (eX6_reads hw  h1) cv_X6_246 (Nat.le_of_ble_eq_true rfl) (ok_e30 hw) rfl (Nat.le_of_ble_eq_true rfl) _ rfl dX6_run_2 [] rfl ?_
  refine x_aload_n dX6_run_5 rfl 0 rfl ?_
  refine x_getI fl_X6_208 (ok_e30 hw) rfl dX6_run_6 ?_
  refine x_if_lt (tgt := 21) dX6_run_9 rfl (fun hc => ?_) (fun hc => ?_)
  · have h := x_t hc h
    refine x_aload_n dX6_run_21 rfl 0 rfl ?_
    refine x_iconst (x := 1) dX6_run_22 rfl ?_
    obtain ⟨z2, s2, h2, h⟩ := x_b_e h
    refine x_callV (As := [.int 1]) (st := []) (eX6_reads hw  h2) cv_X6_246 (Nat.le_of_ble_eq_true rfl) (ok_e30 hw) rfl (Nat.le_of_ble_eq_true rfl) _ rfl dX6_run_23 [] rfl ?_
    refine x_aload_n dX6_run_26 rfl 0 rfl ?_
    refine x_getI fl_X6_230 (ok_e30 hw) rfl dX6_run_27 ?_
    exact x_iretH rfl dX6_run_30 h
  · have h := x_f hc h
    refine x_sipush (x := (-1000)) dX6_run_12 (by decide) ?_
    refine x_aload_n dX6_run_15 rfl 0 rfl ?_
    refine x_getI fl_X6_208 (ok_e30 hw) rfl dX6_run_16 ?_
    refine x_isub dX6_run_19 ?_
    exact x_iretH rfl dX6_run_20 h
def BX6_save_13 (a1 : Int32) : Nat → Int32 → xS → Option (Int32 × xS)
  | 0, _, _ => none
  | n + 1, a2, σ => if 6464 ≤ a2 then (x_g (x_in a1 2) (x_let (x_set σ 5 34 0 0 a1.toNatClampNeg 1) fun s3 => some ((s3 5 31 0 0 3), s3))) else (x_g (x_in a2 6464) (x_let ((6464 * a1) + a2) fun t5 => x_g (x_in t5 12928) (x_let (x_set σ 5 33 0 0 t5.toNatClampNeg (σ 5 31 0 0 a2.toNatClampNeg)) fun s7 => x_let (a2 + 1) fun t8 => (BX6_save_13 a1 n) t8 s7)))
set_option maxRecDepth 100000 in
set_option maxHeartbeats 4000000 in
theorem TX6_save_13 {l : Launch} {w : xW} (hw : w.1.2 = true) {a1 : Int32} {τ : xS} {r : Int32} : ∀ (n : Nat) (a2 : Int32) (σ : xS), BX6_save_13 a1 n a2 σ = some (r, τ) → xAt l w mX6_save 13 [(0, .ref (w.2.2 5 30 0 0)), (1, .int a1), (2, .int a2)] [] σ (some (.int r)) τ := by
  intro n
  induction n with
  | zero => intro a2 σ h; cases h
  | succ n ih =>
    intro a2 σ h
    rw [BX6_save_13] at h
    refine x_iload_n dX6_save_13 rfl 2 rfl ?_
    refine x_sipush (x := 6464) dX6_save_14 rfl ?_
    refine x_icmp_ge (tgt := 44) dX6_save_17 rfl (fun hc => ?_) (fun hc => ?_)
    · have h := x_t hc h
      refine x_aload_n dX6_save_44 rfl 0 rfl ?_
      refine x_getR (d1 := 5) (K1 := 34) (p1 := 0) (r1 := 0) fl_X6_19 (ok_e30 hw) rfl dX6_save_45 ?_
      refine x_iload_n dX6_save_48 rfl 1 rfl ?_
      refine x_iconst (x := 1) dX6_save_49 rfl ?_
      obtain ⟨hg2, h⟩ := x_g_e h
      obtain ⟨s3, hs3, h⟩ := x_let_e h
      refine x_zast 2 a1.toNatClampNeg rfl s3 hs3 rfl rfl rfl rfl (ok_e34 hw) hg2 dX6_save_50 ?_
      refine x_aload_n dX6_save_51 rfl 0 rfl ?_
      refine x_getR (d1 := 5) (K1 := 31) (p1 := 0) (r1 := 0) fl_X6_7 (ok_e30 hw) rfl dX6_save_52 ?_
      refine x_iconst (x := 3) dX6_save_55 rfl ?_
      refine x_iald 6464 3 rfl rfl rfl rfl (ok_e31 hw) rfl dX6_save_56 ?_
      exact x_iretH rfl dX6_save_57 h
    · have h := x_f hc h
      refine x_aload_n dX6_save_20 rfl 0 rfl ?_
      refine x_getR (d1 := 5) (K1 := 33) (p1 := 0) (r1 := 0) fl_X6_16 (ok_e30 hw) rfl dX6_save_21 ?_
      refine x_sipush (x := 6464) dX6_save_24 rfl ?_
      refine x_iload_n dX6_save_27 rfl 1 rfl ?_
      refine x_imul dX6_save_28 ?_
      refine x_iload_n dX6_save_29 rfl 2 rfl ?_
      refine x_iadd dX6_save_30 ?_
      refine x_aload_n dX6_save_31 rfl 0 rfl ?_
      refine x_getR (d1 := 5) (K1 := 31) (p1 := 0) (r1 := 0) fl_X6_7 (ok_e30 hw) rfl dX6_save_32 ?_
      refine x_iload_n dX6_save_35 rfl 2 rfl ?_
      obtain ⟨hg4, h⟩ := x_g_e h
      refine x_iald 6464 a2.toNatClampNeg rfl rfl rfl rfl (ok_e31 hw) hg4 dX6_save_36 ?_
      obtain ⟨t5, ht5, h⟩ := x_let_e h
      refine x_nm2 t5 ht5 ?_
      obtain ⟨hg6, h⟩ := x_g_e h
      obtain ⟨s7, hs7, h⟩ := x_let_e h
      refine x_iast 12928 t5.toNatClampNeg rfl s7 hs7 rfl rfl rfl (ok_e33 hw) hg6 dX6_save_37 ?_
      obtain ⟨t8, ht8, h⟩ := x_let_e h
      refine x_iinc t8 1 rfl ht8 dX6_save_38 2 rfl (Nat.le_of_ble_eq_true rfl) [(2, .int t8), (0, .ref (w.2.2 5 30 0 0)), (1, .int a1)] rfl ?_
      refine x_goto (tgt := 13) dX6_save_41 rfl ?_
      refine x_sub (L1 := [(0, .ref (w.2.2 5 30 0 0)), (1, .int a1), (2, .int t8)]) [1, 2, 0] rfl ?_
      exact ih _ _ h
def fX6_save (a1 : Int32) (σ : xS) : Option (Int32 × xS) :=
  x_b (fX6_in a1 0 1 σ) fun z1 s1 => if z1 = 0 then (some ((-1), s1)) else (BX6_save_13 a1 x_FU 0 s1)
set_option maxRecDepth 100000 in
set_option maxHeartbeats 4000000 in
theorem eX6_save {l : Launch} {w : xW} (hw : w.1.2 = true) {a1 : Int32} {σ τ : xS} {r : Int32} (h : fX6_save a1 σ = some (r, τ)) : xEV l w yX6_save mX6_save [.ref (w.2.2 5 30 0 0), .int a1] σ (some (.int r)) τ := by
  rw [fX6_save] at h
  refine x_enter (by decide +kernel) rfl (Nat.le_of_ble_eq_true rfl) ?_
  refine x_sub (L1 := [(0, .ref (w.2.2 5 30 0 0)), (1, .int a1)]) [0, 1] rfl ?_
  refine x_iload_n dX6_save_0 rfl 1 rfl ?_
  refine x_iconst (x := 0) dX6_save_1 rfl ?_
  refine x_iconst (x := 1) dX6_save_2 rfl ?_
  obtain ⟨z1, s1, h1, h⟩ := x_b_e h
  refine x_callS (As := [.int a1, .int 0, .int 1]) (st := []) (eX6_in hw  h1) cs_X6_36 (Nat.le_of_ble_eq_true rfl) rfl (Nat.le_of_ble_eq_true rfl) _ rfl dX6_save_3 [.int z1] rfl ?_
  refine x_if_ne (tgt := 11) dX6_save_6 rfl (fun hc => ?_) (fun hc => ?_)
  · have h := x_f hc h
    refine x_iconst (x := 0) dX6_save_11 rfl ?_
    refine x_istore_n 0 rfl dX6_save_12 rfl (Nat.le_of_ble_eq_true rfl) [(2, .int 0), (0, .ref (w.2.2 5 30 0 0)), (1, .int a1)] rfl ?_
    refine x_sub (L1 := [(0, .ref (w.2.2 5 30 0 0)), (1, .int a1), (2, .int 0)]) [1, 2, 0] rfl ?_
    exact TX6_save_13 hw _ _ _ h
  · have h := x_t hc h
    refine x_iconst (x := (-1)) dX6_save_9 (by decide) ?_
    exact x_iretH rfl dX6_save_10 h
def BX6_restore_25 (a1 : Int32) : Nat → Int32 → xS → Option (Int32 × xS)
  | 0, _, _ => none
  | n + 1, a2, σ => if 6464 ≤ a2 then (some ((σ 5 31 0 0 3), σ)) else (x_let ((6464 * a1) + a2) fun t3 => x_g (x_in t3 12928) (x_g (x_in a2 6464) (x_let (x_set σ 5 31 0 0 a2.toNatClampNeg (σ 5 33 0 0 t3.toNatClampNeg)) fun s6 => x_let (a2 + 1) fun t7 => (BX6_restore_25 a1 n) t7 s6)))
set_option maxRecDepth 100000 in
set_option maxHeartbeats 4000000 in
theorem TX6_restore_25 {l : Launch} {w : xW} (hw : w.1.2 = true) {a1 : Int32} {τ : xS} {r : Int32} : ∀ (n : Nat) (a2 : Int32) (σ : xS), BX6_restore_25 a1 n a2 σ = some (r, τ) → xAt l w mX6_restore 25 [(0, .ref (w.2.2 5 30 0 0)), (1, .int a1), (2, .int a2)] [] σ (some (.int r)) τ := by
  intro n
  induction n with
  | zero => intro a2 σ h; cases h
  | succ n ih =>
    intro a2 σ h
    rw [BX6_restore_25] at h
    refine x_iload_n dX6_restore_25 rfl 2 rfl ?_
    refine x_sipush (x := 6464) dX6_restore_26 rfl ?_
    refine x_icmp_ge (tgt := 56) dX6_restore_29 rfl (fun hc => ?_) (fun hc => ?_)
    · have h := x_t hc h
      refine x_aload_n dX6_restore_56 rfl 0 rfl ?_
      refine x_getR (d1 := 5) (K1 := 31) (p1 := 0) (r1 := 0) fl_X6_7 (ok_e30 hw) rfl dX6_restore_57 ?_
      refine x_iconst (x := 3) dX6_restore_60 rfl ?_
      refine x_iald 6464 3 rfl rfl rfl rfl (ok_e31 hw) rfl dX6_restore_61 ?_
      exact x_iretH rfl dX6_restore_62 h
    · have h := x_f hc h
      refine x_aload_n dX6_restore_32 rfl 0 rfl ?_
      refine x_getR (d1 := 5) (K1 := 31) (p1 := 0) (r1 := 0) fl_X6_7 (ok_e30 hw) rfl dX6_restore_33 ?_
      refine x_iload_n dX6_restore_36 rfl 2 rfl ?_
      refine x_aload_n dX6_restore_37 rfl 0 rfl ?_
      refine x_getR (d1 := 5) (K1 := 33) (p1 := 0) (r1 := 0) fl_X6_16 (ok_e30 hw) rfl dX6_restore_38 ?_
      refine x_sipush (x := 6464) dX6_restore_41 rfl ?_
      refine x_iload_n dX6_restore_44 rfl 1 rfl ?_
      refine x_imul dX6_restore_45 ?_
      refine x_iload_n dX6_restore_46 rfl 2 rfl ?_
      refine x_iadd dX6_restore_47 ?_
      obtain ⟨t3, ht3, h⟩ := x_let_e h
      refine x_nm t3 ht3 ?_
      obtain ⟨hg4, h⟩ := x_g_e h
      refine x_iald 12928 t3.toNatClampNeg rfl rfl rfl rfl (ok_e33 hw) hg4 dX6_restore_48 ?_
      obtain ⟨hg5, h⟩ := x_g_e h
      obtain ⟨s6, hs6, h⟩ := x_let_e h
      refine x_iast 6464 a2.toNatClampNeg rfl s6 hs6 rfl rfl rfl (ok_e31 hw) hg5 dX6_restore_49 ?_
      obtain ⟨t7, ht7, h⟩ := x_let_e h
      refine x_iinc t7 1 rfl ht7 dX6_restore_50 2 rfl (Nat.le_of_ble_eq_true rfl) [(2, .int t7), (0, .ref (w.2.2 5 30 0 0)), (1, .int a1)] rfl ?_
      refine x_goto (tgt := 25) dX6_restore_53 rfl ?_
      refine x_sub (L1 := [(0, .ref (w.2.2 5 30 0 0)), (1, .int a1), (2, .int t7)]) [1, 2, 0] rfl ?_
      exact ih _ _ h
def fX6_restore (a1 : Int32) (σ : xS) : Option (Int32 × xS) :=
  x_b (fX6_in a1 0 1 σ) fun z1 s1 => if z1 = 0 then (some ((-1), s1)) else (x_g (x_in a1 2) (if (s1 5 34 0 0 a1.toNatClampNeg) = 0 then (some ((-5), s1)) else (BX6_restore_25 a1 x_FU 0 s1)))
set_option maxRecDepth 100000 in
set_option maxHeartbeats 4000000 in
theorem eX6_restore {l : Launch} {w : xW} (hw : w.1.2 = true) {a1 : Int32} {σ τ : xS} {r : Int32} (h : fX6_restore a1 σ = some (r, τ)) : xEV l w yX6_restore mX6_restore [.ref (w.2.2 5 30 0 0), .int a1] σ (some (.int r)) τ := by
  rw [fX6_restore] at h
  refine x_enter (by decide +kernel) rfl (Nat.le_of_ble_eq_true rfl) ?_
  refine x_sub (L1 := [(0, .ref (w.2.2 5 30 0 0)), (1, .int a1)]) [0, 1] rfl ?_
  refine x_iload_n dX6_restore_0 rfl 1 rfl ?_
  refine x_iconst (x := 0) dX6_restore_1 rfl ?_
  refine x_iconst (x := 1) dX6_restore_2 rfl ?_
  obtain ⟨z1, s1, h1, h⟩ := x_b_e h
  refine x_callS (As := [.int a1, .int 0, .int 1]) (st := []) (eX6_in hw  h1) cs_X6_36 (Nat.le_of_ble_eq_true rfl) rfl (Nat.le_of_ble_eq_true rfl) _ rfl dX6_restore_3 [.int z1] rfl ?_
  refine x_if_ne (tgt := 11) dX6_restore_6 rfl (fun hc => ?_) (fun hc => ?_)
  · have h := x_f hc h
    refine x_aload_n dX6_restore_11 rfl 0 rfl ?_
    refine x_getR (d1 := 5) (K1 := 34) (p1 := 0) (r1 := 0) fl_X6_19 (ok_e30 hw) rfl dX6_restore_12 ?_
    refine x_iload_n dX6_restore_15 rfl 1 rfl ?_
    obtain ⟨hg2, h⟩ := x_g_e h
    refine x_zald 2 a1.toNatClampNeg rfl rfl rfl rfl (ok_e34 hw) hg2 dX6_restore_16 ?_
    refine x_if_ne (tgt := 23) dX6_restore_17 rfl (fun hc => ?_) (fun hc => ?_)
    · have h := x_f hc h
      refine x_iconst (x := 0) dX6_restore_23 rfl ?_
      refine x_istore_n 0 rfl dX6_restore_24 rfl (Nat.le_of_ble_eq_true rfl) [(2, .int 0), (0, .ref (w.2.2 5 30 0 0)), (1, .int a1)] rfl ?_
      refine x_sub (L1 := [(0, .ref (w.2.2 5 30 0 0)), (1, .int a1), (2, .int 0)]) [1, 2, 0] rfl ?_
      exact TX6_restore_25 hw _ _ _ h
    · have h := x_t hc h
      refine x_bipush (x := (-5)) dX6_restore_20 (by decide) ?_
      exact x_iretH rfl dX6_restore_22 h
  · have h := x_t hc h
    refine x_iconst (x := (-1)) dX6_restore_9 (by decide) ?_
    exact x_iretH rfl dX6_restore_10 h
def fX6_sumOf (g1 : Int64) (a3 : Int32) (σ : xS) : Option (Int64 × xS) :=
  some (((31 * g1) + a3.toInt64), σ)
set_option maxRecDepth 100000 in
set_option maxHeartbeats 4000000 in
theorem eX6_sumOf {l : Launch} {w : xW} (hw : w.1.2 = true) {g1 : Int64} {a3 : Int32} {σ τ : xS} {r : Int64} (h : fX6_sumOf g1 a3 σ = some (r, τ)) : xEV l w yX6_sumOf mX6_sumOf [.ref (w.2.2 5 30 0 0), .long g1, .int a3] σ (some (.long r)) τ := by
  rw [fX6_sumOf] at h
  refine x_enter (by decide +kernel) rfl (Nat.le_of_ble_eq_true rfl) ?_
  refine x_sub (L1 := [(0, .ref (w.2.2 5 30 0 0)), (1, .long g1), (3, .int a3)]) [0, 1, 2] rfl ?_
  refine x_ldc2 (x := 31) dX6_sumOf_0 tk_X6_250 ?_
  refine x_lload_n dX6_sumOf_3 rfl 1 rfl ?_
  refine x_lmul dX6_sumOf_4 ?_
  refine x_iload_n dX6_sumOf_5 rfl 2 rfl ?_
  refine x_i2l dX6_sumOf_6 ?_
  refine x_ladd dX6_sumOf_7 ?_
  exact x_lretH rfl dX6_sumOf_8 h
