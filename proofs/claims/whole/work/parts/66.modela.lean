set_option maxRecDepth 100000 in
set_option maxHeartbeats 4000000 in
theorem eX6_in {l : Launch} {w : xW} (hw : w.1.2 = true) {a0 : Int32} {a1 : Int32} {a2 : Int32} {σ τ : xS} {r : Int32} (h : fX6_in a0 a1 a2 σ = some (r, τ)) : xEV l w yX6_in mX6_in [.int a0, .int a1, .int a2] σ (some (.int r)) τ := by
  rw [fX6_in] at h
  refine x_enter (by decide +kernel) rfl (Nat.le_of_ble_eq_true rfl) ?_
  refine x_sub (L1 := [(0, .int a0), (1, .int a1), (2, .int a2)]) [0, 1, 2] rfl ?_
  refine x_iload_n dX6_in_0 rfl 0 rfl ?_
  refine x_iload_n dX6_in_1 rfl 1 rfl ?_
  refine x_icmp_lt (tgt := 14) dX6_in_2 rfl (fun hc => ?_) (fun hc => ?_)
  · have h := x_t hc h
    refine x_iconst (x := 0) dX6_in_14 rfl ?_
    exact x_zretH rfl rfl dX6_in_15 h
  · have h := x_f hc h
    refine x_iload_n dX6_in_5 rfl 0 rfl ?_
    refine x_iload_n dX6_in_6 rfl 2 rfl ?_
    refine x_icmp_gt (tgt := 14) dX6_in_7 rfl (fun hc => ?_) (fun hc => ?_)
    · have h := x_t hc h
      refine x_iconst (x := 0) dX6_in_14 rfl ?_
      exact x_zretH rfl rfl dX6_in_15 h
    · have h := x_f hc h
      refine x_iconst (x := 1) dX6_in_10 rfl ?_
      refine x_goto (tgt := 15) dX6_in_11 rfl ?_
      exact x_zretH rfl rfl dX6_in_15 h
set_option maxRecDepth 100000 in
set_option maxHeartbeats 4000000 in
theorem eX6_least {l : Launch} {w : xW} (hw : w.1.2 = true) {a0 : Int32} {a1 : Int32} {σ τ : xS} {r : Int32} (h : fX6_least a0 a1 σ = some (r, τ)) : xEV l w yX6_least mX6_least [.int a0, .int a1] σ (some (.int r)) τ := by
  rw [fX6_least] at h
  refine x_enter (by decide +kernel) rfl (Nat.le_of_ble_eq_true rfl) ?_
  refine x_sub (L1 := [(0, .int a0), (1, .int a1)]) [0, 1] rfl ?_
  refine x_iload_n dX6_least_0 rfl 0 rfl ?_
  refine x_iload_n dX6_least_1 rfl 1 rfl ?_
  refine x_icmp_ge (tgt := 9) dX6_least_2 rfl (fun hc => ?_) (fun hc => ?_)
  · have h := x_t hc h
    refine x_iload_n dX6_least_9 rfl 1 rfl ?_
    exact x_iretH rfl dX6_least_10 h
  · have h := x_f hc h
    refine x_iload_n dX6_least_5 rfl 0 rfl ?_
    refine x_goto (tgt := 10) dX6_least_6 rfl ?_
    exact x_iretH rfl dX6_least_10 h
set_option maxRecDepth 100000 in
set_option maxHeartbeats 4000000 in
theorem eX6_most {l : Launch} {w : xW} (hw : w.1.2 = true) {a0 : Int32} {a1 : Int32} {σ τ : xS} {r : Int32} (h : fX6_most a0 a1 σ = some (r, τ)) : xEV l w yX6_most mX6_most [.int a0, .int a1] σ (some (.int r)) τ := by
  rw [fX6_most] at h
  refine x_enter (by decide +kernel) rfl (Nat.le_of_ble_eq_true rfl) ?_
  refine x_sub (L1 := [(0, .int a0), (1, .int a1)]) [0, 1] rfl ?_
  refine x_iload_n dX6_most_0 rfl 0 rfl ?_
  refine x_iload_n dX6_most_1 rfl 1 rfl ?_
  refine x_icmp_le (tgt := 9) dX6_most_2 rfl (fun hc => ?_) (fun hc => ?_)
  · have h := x_t hc h
    refine x_iload_n dX6_most_9 rfl 1 rfl ?_
    exact x_iretH rfl dX6_most_10 h
  · have h := x_f hc h
    refine x_iload_n dX6_most_5 rfl 0 rfl ?_
    refine x_goto (tgt := 10) dX6_most_6 rfl ?_
    exact x_iretH rfl dX6_most_10 h
set_option maxRecDepth 100000 in
set_option maxHeartbeats 4000000 in
theorem eX6_port {l : Launch} {w : xW} (hw : w.1.2 = true) {a0 : Int32} {a1 : Int32} {σ τ : xS} {r : Int32} (h : fX6_port a0 a1 σ = some (r, τ)) : xEV l w yX6_port mX6_port [.int a0, .int a1] σ (some (.int r)) τ := by
  rw [fX6_port] at h
  refine x_enter (by decide +kernel) rfl (Nat.le_of_ble_eq_true rfl) ?_
  refine x_sub (L1 := [(0, .int a0), (1, .int a1)]) [0, 1] rfl ?_
  refine x_bipush (x := 16) dX6_port_0 rfl ?_
  refine x_bipush (x := 24) dX6_port_2 rfl ?_
  refine x_iload_n dX6_port_4 rfl 0 rfl ?_
  refine x_imul dX6_port_5 ?_
  refine x_iadd dX6_port_6 ?_
  refine x_iload_n dX6_port_7 rfl 1 rfl ?_
  refine x_iadd dX6_port_8 ?_
  exact x_iretH rfl dX6_port_9 h
set_option maxRecDepth 100000 in
set_option maxHeartbeats 4000000 in
theorem eX6_queue {l : Launch} {w : xW} (hw : w.1.2 = true) {a0 : Int32} {a1 : Int32} {σ τ : xS} {r : Int32} (h : fX6_queue a0 a1 σ = some (r, τ)) : xEV l w yX6_queue mX6_queue [.int a0, .int a1] σ (some (.int r)) τ := by
  rw [fX6_queue] at h
  refine x_enter (by decide +kernel) rfl (Nat.le_of_ble_eq_true rfl) ?_
  refine x_sub (L1 := [(0, .int a0), (1, .int a1)]) [0, 1] rfl ?_
  refine x_sipush (x := 160) dX6_queue_0 rfl ?_
  refine x_bipush (x := 16) dX6_queue_3 rfl ?_
  refine x_iload_n dX6_queue_5 rfl 0 rfl ?_
  refine x_imul dX6_queue_6 ?_
  refine x_iadd dX6_queue_7 ?_
  refine x_iload_n dX6_queue_8 rfl 1 rfl ?_
  refine x_iadd dX6_queue_9 ?_
  exact x_iretH rfl dX6_queue_10 h
set_option maxRecDepth 100000 in
set_option maxHeartbeats 4000000 in
theorem eX6_entry {l : Launch} {w : xW} (hw : w.1.2 = true) {a0 : Int32} {a1 : Int32} {σ τ : xS} {r : Int32} (h : fX6_entry a0 a1 σ = some (r, τ)) : xEV l w yX6_entry mX6_entry [.int a0, .int a1] σ (some (.int r)) τ := by
  rw [fX6_entry] at h
  refine x_enter (by decide +kernel) rfl (Nat.le_of_ble_eq_true rfl) ?_
  refine x_sub (L1 := [(0, .int a0), (1, .int a1)]) [0, 1] rfl ?_
  refine x_sipush (x := 448) dX6_entry_0 rfl ?_
  refine x_sipush (x := 128) dX6_entry_3 rfl ?_
  refine x_iload_n dX6_entry_6 rfl 0 rfl ?_
  refine x_imul dX6_entry_7 ?_
  refine x_iadd dX6_entry_8 ?_
  refine x_iload_n dX6_entry_9 rfl 1 rfl ?_
  refine x_iadd dX6_entry_10 ?_
  exact x_iretH rfl dX6_entry_11 h
set_option maxRecDepth 100000 in
set_option maxHeartbeats 4000000 in
theorem eX6_packet {l : Launch} {w : xW} (hw : w.1.2 = true) {a0 : Int32} {a1 : Int32} {σ τ : xS} {r : Int32} (h : fX6_packet a0 a1 σ = some (r, τ)) : xEV l w yX6_packet mX6_packet [.int a0, .int a1] σ (some (.int r)) τ := by
  rw [fX6_packet] at h
  refine x_enter (by decide +kernel) rfl (Nat.le_of_ble_eq_true rfl) ?_
  refine x_sub (L1 := [(0, .int a0), (1, .int a1)]) [0, 1] rfl ?_
  refine x_sipush (x := 2752) dX6_packet_0 rfl ?_
  refine x_bipush (x := 28) dX6_packet_3 rfl ?_
  refine x_iload_n dX6_packet_5 rfl 0 rfl ?_
  refine x_imul dX6_packet_6 ?_
  refine x_iadd dX6_packet_7 ?_
  refine x_iload_n dX6_packet_8 rfl 1 rfl ?_
  refine x_iadd dX6_packet_9 ?_
  exact x_iretH rfl dX6_packet_10 h
set_option maxRecDepth 100000 in
set_option maxHeartbeats 4000000 in
theorem eX6_isPort {l : Launch} {w : xW} (hw : w.1.2 = true) {a1 : Int32} {σ τ : xS} {r : Int32} (h : fX6_isPort a1 σ = some (r, τ)) : xEV l w yX6_isPort mX6_isPort [.ref (w.2.2 5 30 0 0), .int a1] σ (some (.int r)) τ := by
  rw [fX6_isPort] at h
  refine x_enter (by decide +kernel) rfl (Nat.le_of_ble_eq_true rfl) ?_
  refine x_sub (L1 := [(0, .ref (w.2.2 5 30 0 0)), (1, .int a1)]) [0, 1] rfl ?_
  refine x_iload_n dX6_isPort_0 rfl 1 rfl ?_
  refine x_iconst (x := 0) dX6_isPort_1 rfl ?_
  refine x_aload_n dX6_isPort_2 rfl 0 rfl ?_
  refine x_getR (d1 := 5) (K1 := 31) (p1 := 0) (r1 := 0) fl_X6_7 (ok_e30 hw) rfl dX6_isPort_3 ?_
  refine x_iconst (x := 1) dX6_isPort_6 rfl ?_
  refine x_iald 6464 1 rfl rfl rfl rfl (ok_e31 hw) rfl dX6_isPort_7 ?_
  refine x_iconst (x := 1) dX6_isPort_8 rfl ?_
  refine x_isub dX6_isPort_9 ?_
  obtain ⟨z1, s1, h1, h⟩ := x_b_e h
  refine x_callS (As := [.int a1, .int 0, .int ((σ 5 31 0 0 1) - 1)]) (st := []) (eX6_in hw  h1) cs_X6_36 (Nat.le_of_ble_eq_true rfl) rfl (Nat.le_of_ble_eq_true rfl) _ rfl dX6_isPort_10 [.int z1] rfl ?_
  obtain ⟨hg2, h⟩ := x_g_e h
  exact x_zretH rfl hg2 dX6_isPort_13 h
set_option maxRecDepth 100000 in
set_option maxHeartbeats 4000000 in
theorem eX6_isQueue {l : Launch} {w : xW} (hw : w.1.2 = true) {a1 : Int32} {a2 : Int32} {σ τ : xS} {r : Int32} (h : fX6_isQueue a1 a2 σ = some (r, τ)) : xEV l w yX6_isQueue mX6_isQueue [.ref (w.2.2 5 30 0 0), .int a1, .int a2] σ (some (.int r)) τ := by
  rw [fX6_isQueue] at h
  refine x_enter (by decide +kernel) rfl (Nat.le_of_ble_eq_true rfl) ?_
  refine x_sub (L1 := [(0, .ref (w.2.2 5 30 0 0)), (1, .int a1), (2, .int a2)]) [0, 1, 2] rfl ?_
  refine x_aload_n dX6_isQueue_0 rfl 0 rfl ?_
  refine x_iload_n dX6_isQueue_1 rfl 1 rfl ?_
  obtain ⟨z1, s1, h1, h⟩ := x_b_e h
  refine x_callV (As := [.int a1]) (st := []) (eX6_isPort hw  h1) cv_X6_40 (Nat.le_of_ble_eq_true rfl) (ok_e30 hw) rfl (Nat.le_of_ble_eq_true rfl) _ rfl dX6_isQueue_2 [.int z1] rfl ?_
  refine x_if_eq (tgt := 21) dX6_isQueue_5 rfl (fun hc => ?_) (fun hc => ?_)
  · have h := x_t hc h
    refine x_iconst (x := 0) dX6_isQueue_21 rfl ?_
    exact x_zretH rfl rfl dX6_isQueue_22 h
  · have h := x_f hc h
    refine x_iload_n dX6_isQueue_8 rfl 2 rfl ?_
    refine x_iconst (x := 0) dX6_isQueue_9 rfl ?_
    refine x_iconst (x := 2) dX6_isQueue_10 rfl ?_
    obtain ⟨z2, s2, h2, h⟩ := x_b_e h
    refine x_callS (As := [.int a2, .int 0, .int 2]) (st := []) (eX6_in hw  h2) cs_X6_36 (Nat.le_of_ble_eq_true rfl) rfl (Nat.le_of_ble_eq_true rfl) _ rfl dX6_isQueue_11 [.int z2] rfl ?_
    refine x_if_eq (tgt := 21) dX6_isQueue_14 rfl (fun hc => ?_) (fun hc => ?_)
    · have h := x_t hc h
      refine x_iconst (x := 0) dX6_isQueue_21 rfl ?_
      exact x_zretH rfl rfl dX6_isQueue_22 h
    · have h := x_f hc h
      refine x_iconst (x := 1) dX6_isQueue_17 rfl ?_
      refine x_goto (tgt := 22) dX6_isQueue_18 rfl ?_
      exact x_zretH rfl rfl dX6_isQueue_22 h
set_option maxRecDepth 100000 in
set_option maxHeartbeats 4000000 in
theorem TX6_starts_75 {l : Launch} {w : xW} (hw : w.1.2 = true) {τ : xS} {r : Unit} : ∀ (n : Nat) (a3 : Int32) (σ : xS), BX6_starts_75 n a3 σ = some (r, τ) → xAt l w mX6_starts 75 [(0, .ref (w.2.2 5 30 0 0)), (3, .int a3)] [] σ none τ := by
  intro n
  induction n with
  | zero => intro a3 σ h; cases h
  | succ n ih =>
    intro a3 σ h
    rw [BX6_starts_75] at h
    refine x_iload_n dX6_starts_75 rfl 1 rfl ?_
    refine x_bipush (x := 18) dX6_starts_76 rfl ?_
    refine x_icmp_ge (tgt := 110) dX6_starts_78 rfl (fun hc => ?_) (fun hc => ?_)
    · have h := x_t hc h
      exact x_vretH rfl dX6_starts_110 h
    · have h := x_f hc h
      refine x_aload_n dX6_starts_81 rfl 0 rfl ?_
      refine x_getR (d1 := 5) (K1 := 31) (p1 := 0) (r1 := 0) fl_X6_7 (ok_e30 hw) rfl dX6_starts_82 ?_
      refine x_iload_n dX6_starts_85 rfl 1 rfl ?_
      refine x_iconst (x := 0) dX6_starts_86 rfl ?_
      obtain ⟨z3, s3, h3, h⟩ := x_b_e h
      refine x_callS (As := [.int a3, .int 0]) (st := [.ref (w.2.2 5 31 0 0)]) (eX6_queue hw  h3) cs_X6_48 (Nat.le_of_ble_eq_true rfl) rfl (Nat.le_of_ble_eq_true rfl) _ rfl dX6_starts_87 [.int z3, .ref (w.2.2 5 31 0 0)] rfl ?_
      refine x_bipush (x := 8) dX6_starts_90 rfl ?_
      obtain ⟨hg4, h⟩ := x_g_e h
      obtain ⟨s5, hs5, h⟩ := x_let_e h
      refine x_iast 6464 z3.toNatClampNeg rfl s5 hs5 rfl rfl rfl (ok_e31 hw) hg4 dX6_starts_92 ?_
      refine x_aload_n dX6_starts_93 rfl 0 rfl ?_
      refine x_getR (d1 := 5) (K1 := 31) (p1 := 0) (r1 := 0) fl_X6_7 (ok_e30 hw) rfl dX6_starts_94 ?_
      refine x_iload_n dX6_starts_97 rfl 1 rfl ?_
      refine x_iconst (x := 4) dX6_starts_98 rfl ?_
      obtain ⟨z6, s6, h6, h⟩ := x_b_e h
      refine x_callS (As := [.int a3, .int 4]) (st := [.ref (w.2.2 5 31 0 0)]) (eX6_queue hw  h6) cs_X6_48 (Nat.le_of_ble_eq_true rfl) rfl (Nat.le_of_ble_eq_true rfl) _ rfl dX6_starts_99 [.int z6, .ref (w.2.2 5 31 0 0)] rfl ?_
      refine x_iconst (x := 4) dX6_starts_102 rfl ?_
      obtain ⟨hg7, h⟩ := x_g_e h
      obtain ⟨s8, hs8, h⟩ := x_let_e h
      refine x_iast 6464 z6.toNatClampNeg rfl s8 hs8 rfl rfl rfl (ok_e31 hw) hg7 dX6_starts_103 ?_
      obtain ⟨t9, ht9, h⟩ := x_let_e h
      refine x_iinc t9 1 rfl ht9 dX6_starts_104 1 rfl (Nat.le_of_ble_eq_true rfl) [(3, .int t9), (0, .ref (w.2.2 5 30 0 0))] rfl ?_
      refine x_goto (tgt := 75) dX6_starts_107 rfl ?_
      refine x_sub (L1 := [(0, .ref (w.2.2 5 30 0 0)), (3, .int t9)]) [1, 0] rfl ?_
      exact ih _ _ h
set_option maxRecDepth 100000 in
set_option maxHeartbeats 4000000 in
theorem TX6_starts_38 {l : Launch} {w : xW} (hw : w.1.2 = true) {τ : xS} {r : Unit} : ∀ (n : Nat) (a3 : Int32) (σ : xS), BX6_starts_38 n a3 σ = some (r, τ) → xAt l w mX6_starts 38 [(0, .ref (w.2.2 5 30 0 0)), (3, .int a3)] [] σ none τ := by
  intro n
  induction n with
  | zero => intro a3 σ h; cases h
  | succ n ih =>
    intro a3 σ h
    rw [BX6_starts_38] at h
    refine x_iload_n dX6_starts_38 rfl 1 rfl ?_
    refine x_bipush (x := 6) dX6_starts_39 rfl ?_
    refine x_icmp_ge (tgt := 73) dX6_starts_41 rfl (fun hc => ?_) (fun hc => ?_)
    · have h := x_t hc h
      refine x_iconst (x := 0) dX6_starts_73 rfl ?_
      refine x_istore_n 0 rfl dX6_starts_74 rfl (Nat.le_of_ble_eq_true rfl) [(3, .int 0), (0, .ref (w.2.2 5 30 0 0))] rfl ?_
      refine x_sub (L1 := [(0, .ref (w.2.2 5 30 0 0)), (3, .int 0)]) [1, 0] rfl ?_
      exact TX6_starts_75 hw _ _ _ h
    · have h := x_f hc h
      refine x_aload_n dX6_starts_44 rfl 0 rfl ?_
      refine x_getR (d1 := 5) (K1 := 31) (p1 := 0) (r1 := 0) fl_X6_7 (ok_e30 hw) rfl dX6_starts_45 ?_
      refine x_iload_n dX6_starts_48 rfl 1 rfl ?_
      refine x_iconst (x := 5) dX6_starts_49 rfl ?_
      obtain ⟨z10, s10, h10, h⟩ := x_b_e h
      refine x_callS (As := [.int a3, .int 5]) (st := [.ref (w.2.2 5 31 0 0)]) (eX6_port hw  h10) cs_X6_44 (Nat.le_of_ble_eq_true rfl) rfl (Nat.le_of_ble_eq_true rfl) _ rfl dX6_starts_50 [.int z10, .ref (w.2.2 5 31 0 0)] rfl ?_
      refine x_iconst (x := 4) dX6_starts_53 rfl ?_
      obtain ⟨hg11, h⟩ := x_g_e h
      obtain ⟨s12, hs12, h⟩ := x_let_e h
      refine x_iast 6464 z10.toNatClampNeg rfl s12 hs12 rfl rfl rfl (ok_e31 hw) hg11 dX6_starts_54 ?_
      refine x_aload_n dX6_starts_55 rfl 0 rfl ?_
      refine x_getR (d1 := 5) (K1 := 31) (p1 := 0) (r1 := 0) fl_X6_7 (ok_e30 hw) rfl dX6_starts_56 ?_
      refine x_iload_n dX6_starts_59 rfl 1 rfl ?_
      refine x_bipush (x := 7) dX6_starts_60 rfl ?_
      obtain ⟨z13, s13, h13, h⟩ := x_b_e h
      refine x_callS (As := [.int a3, .int 7]) (st := [.ref (w.2.2 5 31 0 0)]) (eX6_port hw  h13) cs_X6_44 (Nat.le_of_ble_eq_true rfl) rfl (Nat.le_of_ble_eq_true rfl) _ rfl dX6_starts_62 [.int z13, .ref (w.2.2 5 31 0 0)] rfl ?_
      refine x_iconst (x := 1) dX6_starts_65 rfl ?_
      obtain ⟨hg14, h⟩ := x_g_e h
      obtain ⟨s15, hs15, h⟩ := x_let_e h
      refine x_iast 6464 z13.toNatClampNeg rfl s15 hs15 rfl rfl rfl (ok_e31 hw) hg14 dX6_starts_66 ?_
      obtain ⟨t16, ht16, h⟩ := x_let_e h
      refine x_iinc t16 1 rfl ht16 dX6_starts_67 1 rfl (Nat.le_of_ble_eq_true rfl) [(3, .int t16), (0, .ref (w.2.2 5 30 0 0))] rfl ?_
      refine x_goto (tgt := 38) dX6_starts_70 rfl ?_
      refine x_sub (L1 := [(0, .ref (w.2.2 5 30 0 0)), (3, .int t16)]) [1, 0] rfl ?_
      exact ih _ _ h
set_option maxRecDepth 100000 in
set_option maxHeartbeats 4000000 in
theorem TX6_starts_2 {l : Launch} {w : xW} (hw : w.1.2 = true) {a1 : Int32} {a2 : Int32} {τ : xS} {r : Unit} : ∀ (n : Nat) (a3 : Int32) (σ : xS), BX6_starts_2 a1 a2 n a3 σ = some (r, τ) → xAt l w mX6_starts 2 [(0, .ref (w.2.2 5 30 0 0)), (1, .int a1), (2, .int a2), (3, .int a3)] [] σ none τ := by
  intro n
  induction n with
  | zero => intro a3 σ h; cases h
  | succ n ih =>
    intro a3 σ h
    rw [BX6_starts_2] at h
    refine x_iload_n dX6_starts_2 rfl 3 rfl ?_
    refine x_sipush (x := 6464) dX6_starts_3 rfl ?_
    refine x_icmp_ge (tgt := 22) dX6_starts_6 rfl (fun hc => ?_) (fun hc => ?_)
    · have h := x_t hc h
      refine x_aload_n dX6_starts_22 rfl 0 rfl ?_
      refine x_getR (d1 := 5) (K1 := 31) (p1 := 0) (r1 := 0) fl_X6_7 (ok_e30 hw) rfl dX6_starts_23 ?_
      refine x_iconst (x := 0) dX6_starts_26 rfl ?_
      refine x_iload_n dX6_starts_27 rfl 1 rfl ?_
      obtain ⟨s1, hs1, h⟩ := x_let_e h
      refine x_iast 6464 0 rfl s1 hs1 rfl rfl rfl (ok_e31 hw) rfl dX6_starts_28 ?_
      refine x_aload_n dX6_starts_29 rfl 0 rfl ?_
      refine x_getR (d1 := 5) (K1 := 31) (p1 := 0) (r1 := 0) fl_X6_7 (ok_e30 hw) rfl dX6_starts_30 ?_
      refine x_iconst (x := 1) dX6_starts_33 rfl ?_
      refine x_iload_n dX6_starts_34 rfl 2 rfl ?_
      obtain ⟨s2, hs2, h⟩ := x_let_e h
      refine x_iast 6464 1 rfl s2 hs2 rfl rfl rfl (ok_e31 hw) rfl dX6_starts_35 ?_
      refine x_iconst (x := 0) dX6_starts_36 rfl ?_
      refine x_istore_n 0 rfl dX6_starts_37 rfl (Nat.le_of_ble_eq_true rfl) [(3, .int 0), (0, .ref (w.2.2 5 30 0 0)), (1, .int a1), (2, .int a2)] rfl ?_
      refine x_sub (L1 := [(0, .ref (w.2.2 5 30 0 0)), (3, .int 0)]) [1, 0] rfl ?_
      exact TX6_starts_38 hw _ _ _ h
    · have h := x_f hc h
      refine x_aload_n dX6_starts_9 rfl 0 rfl ?_
      refine x_getR (d1 := 5) (K1 := 31) (p1 := 0) (r1 := 0) fl_X6_7 (ok_e30 hw) rfl dX6_starts_10 ?_
      refine x_iload_n dX6_starts_13 rfl 3 rfl ?_
      refine x_iconst (x := 0) dX6_starts_14 rfl ?_
      obtain ⟨hg17, h⟩ := x_g_e h
      obtain ⟨s18, hs18, h⟩ := x_let_e h
      refine x_iast 6464 a3.toNatClampNeg rfl s18 hs18 rfl rfl rfl (ok_e31 hw) hg17 dX6_starts_15 ?_
      obtain ⟨t19, ht19, h⟩ := x_let_e h
      refine x_iinc t19 1 rfl ht19 dX6_starts_16 3 rfl (Nat.le_of_ble_eq_true rfl) [(3, .int t19), (0, .ref (w.2.2 5 30 0 0)), (1, .int a1), (2, .int a2)] rfl ?_
      refine x_goto (tgt := 2) dX6_starts_19 rfl ?_
      refine x_sub (L1 := [(0, .ref (w.2.2 5 30 0 0)), (1, .int a1), (2, .int a2), (3, .int t19)]) [1, 2, 3, 0] rfl ?_
      exact ih _ _ h
set_option maxRecDepth 100000 in
set_option maxHeartbeats 4000000 in
theorem eX6_starts {l : Launch} {w : xW} (hw : w.1.2 = true) {a1 : Int32} {a2 : Int32} {σ τ : xS} {r : Unit} (h : fX6_starts a1 a2 σ = some (r, τ)) : xEV l w yX6_starts mX6_starts [.ref (w.2.2 5 30 0 0), .int a1, .int a2] σ none τ := by
  rw [fX6_starts] at h
  refine x_enter (by decide +kernel) rfl (Nat.le_of_ble_eq_true rfl) ?_
  refine x_sub (L1 := [(0, .ref (w.2.2 5 30 0 0)), (1, .int a1), (2, .int a2)]) [0, 1, 2] rfl ?_
  refine x_iconst (x := 0) dX6_starts_0 rfl ?_
  refine x_istore_n 0 rfl dX6_starts_1 rfl (Nat.le_of_ble_eq_true rfl) [(3, .int 0), (0, .ref (w.2.2 5 30 0 0)), (1, .int a1), (2, .int a2)] rfl ?_
  refine x_sub (L1 := [(0, .ref (w.2.2 5 30 0 0)), (1, .int a1), (2, .int a2), (3, .int 0)]) [1, 2, 3, 0] rfl ?_
  exact TX6_starts_2 hw _ _ _ h
set_option maxRecDepth 100000 in
set_option maxHeartbeats 4000000 in
theorem eX6_sum {l : Launch} {w : xW} (hw : w.1.2 = true) {a1 : Int32} {a2 : Int32} {σ τ : xS} {r : Int32} (h : fX6_sum a1 a2 σ = some (r, τ)) : xEV l w yX6_sum mX6_sum [.ref (w.2.2 5 30 0 0), .int a1, .int a2] σ (some (.int r)) τ := by
  rw [fX6_sum] at h
  refine x_enter (by decide +kernel) rfl (Nat.le_of_ble_eq_true rfl) ?_
  refine x_sub (L1 := [(0, .ref (w.2.2 5 30 0 0)), (1, .int a1), (2, .int a2)]) [0, 1, 2] rfl ?_
  refine x_aload_n dX6_sum_0 rfl 0 rfl ?_
  refine x_getR (d1 := 5) (K1 := 31) (p1 := 0) (r1 := 0) fl_X6_7 (ok_e30 hw) rfl dX6_sum_1 ?_
  refine x_iconst (x := 3) dX6_sum_4 rfl ?_
  refine x_iload_n dX6_sum_5 rfl 1 rfl ?_
  refine x_imul dX6_sum_6 ?_
  refine x_iload_n dX6_sum_7 rfl 2 rfl ?_
  obtain ⟨z1, s1, h1, h⟩ := x_b_e h
  refine x_callS (As := [.int (3 * a1), .int a2]) (st := [.ref (w.2.2 5 31 0 0)]) (eX6_queue hw  h1) cs_X6_48 (Nat.le_of_ble_eq_true rfl) rfl (Nat.le_of_ble_eq_true rfl) _ rfl dX6_sum_8 [.int z1, .ref (w.2.2 5 31 0 0)] rfl ?_
  obtain ⟨hg2, h⟩ := x_g_e h
  refine x_iald 6464 z1.toNatClampNeg rfl rfl rfl rfl (ok_e31 hw) hg2 dX6_sum_11 ?_
  refine x_aload_n dX6_sum_12 rfl 0 rfl ?_
  refine x_getR (d1 := 5) (K1 := 31) (p1 := 0) (r1 := 0) fl_X6_7 (ok_e30 hw) rfl dX6_sum_13 ?_
  refine x_iconst (x := 3) dX6_sum_16 rfl ?_
  refine x_iload_n dX6_sum_17 rfl 1 rfl ?_
  refine x_imul dX6_sum_18 ?_
  refine x_iconst (x := 1) dX6_sum_19 rfl ?_
  refine x_iadd dX6_sum_20 ?_
  refine x_iload_n dX6_sum_21 rfl 2 rfl ?_
  obtain ⟨z3, s3, h3, h⟩ := x_b_e h
  refine x_callS (As := [.int ((3 * a1) + 1), .int a2]) (st := [.ref (w.2.2 5 31 0 0), .int (s1 5 31 0 0 z1.toNatClampNeg)]) (eX6_queue hw  h3) cs_X6_48 (Nat.le_of_ble_eq_true rfl) rfl (Nat.le_of_ble_eq_true rfl) _ rfl dX6_sum_22 [.int z3, .ref (w.2.2 5 31 0 0), .int (s1 5 31 0 0 z1.toNatClampNeg)] rfl ?_
  obtain ⟨hg4, h⟩ := x_g_e h
  refine x_iald 6464 z3.toNatClampNeg rfl rfl rfl rfl (ok_e31 hw) hg4 dX6_sum_25 ?_
  refine x_iadd dX6_sum_26 ?_
  refine x_aload_n dX6_sum_27 rfl 0 rfl ?_
  refine x_getR (d1 := 5) (K1 := 31) (p1 := 0) (r1 := 0) fl_X6_7 (ok_e30 hw) rfl dX6_sum_28 ?_
  refine x_iconst (x := 3) dX6_sum_31 rfl ?_
  refine x_iload_n dX6_sum_32 rfl 1 rfl ?_
  refine x_imul dX6_sum_33 ?_
  refine x_iconst (x := 2) dX6_sum_34 rfl ?_
  refine x_iadd dX6_sum_35 ?_
  refine x_iload_n dX6_sum_36 rfl 2 rfl ?_
  obtain ⟨z5, s5, h5, h⟩ := x_b_e h
  refine x_callS (As := [.int ((3 * a1) + 2), .int a2]) (st := [.ref (w.2.2 5 31 0 0), .int ((s1 5 31 0 0 z1.toNatClampNeg) + (s3 5 31 0 0 z3.toNatClampNeg))]) (eX6_queue hw  h5) cs_X6_48 (Nat.le_of_ble_eq_true rfl) rfl (Nat.le_of_ble_eq_true rfl) _ rfl dX6_sum_37 [.int z5, .ref (w.2.2 5 31 0 0), .int ((s1 5 31 0 0 z1.toNatClampNeg) + (s3 5 31 0 0 z3.toNatClampNeg))] rfl ?_
  obtain ⟨hg6, h⟩ := x_g_e h
  refine x_iald 6464 z5.toNatClampNeg rfl rfl rfl rfl (ok_e31 hw) hg6 dX6_sum_40 ?_
  refine x_iadd dX6_sum_41 ?_
  exact x_iretH rfl dX6_sum_42 h
set_option maxRecDepth 100000 in
set_option maxHeartbeats 4000000 in
theorem eX6_guarantee {l : Launch} {w : xW} (hw : w.1.2 = true) {a1 : Int32} {σ τ : xS} {r : Int32} (h : fX6_guarantee a1 σ = some (r, τ)) : xEV l w yX6_guarantee mX6_guarantee [.ref (w.2.2 5 30 0 0), .int a1] σ (some (.int r)) τ := by
  rw [fX6_guarantee] at h
  refine x_enter (by decide +kernel) rfl (Nat.le_of_ble_eq_true rfl) ?_
  refine x_sub (L1 := [(0, .ref (w.2.2 5 30 0 0)), (1, .int a1)]) [0, 1] rfl ?_
  refine x_aload_n dX6_guarantee_0 rfl 0 rfl ?_
  refine x_getR (d1 := 5) (K1 := 31) (p1 := 0) (r1 := 0) fl_X6_7 (ok_e30 hw) rfl dX6_guarantee_1 ?_
  refine x_iload_n dX6_guarantee_4 rfl 1 rfl ?_
  refine x_iconst (x := 0) dX6_guarantee_5 rfl ?_
  obtain ⟨z1, s1, h1, h⟩ := x_b_e h
  refine x_callS (As := [.int a1, .int 0]) (st := [.ref (w.2.2 5 31 0 0)]) (eX6_port hw  h1) cs_X6_44 (Nat.le_of_ble_eq_true rfl) rfl (Nat.le_of_ble_eq_true rfl) _ rfl dX6_guarantee_6 [.int z1, .ref (w.2.2 5 31 0 0)] rfl ?_
  obtain ⟨hg2, h⟩ := x_g_e h
  refine x_iald 6464 z1.toNatClampNeg rfl rfl rfl rfl (ok_e31 hw) hg2 dX6_guarantee_9 ?_
  refine x_aload_n dX6_guarantee_10 rfl 0 rfl ?_
  refine x_getR (d1 := 5) (K1 := 31) (p1 := 0) (r1 := 0) fl_X6_7 (ok_e30 hw) rfl dX6_guarantee_11 ?_
  refine x_iload_n dX6_guarantee_14 rfl 1 rfl ?_
  refine x_iconst (x := 2) dX6_guarantee_15 rfl ?_
  obtain ⟨z3, s3, h3, h⟩ := x_b_e h
  refine x_callS (As := [.int a1, .int 2]) (st := [.ref (w.2.2 5 31 0 0), .int (s1 5 31 0 0 z1.toNatClampNeg)]) (eX6_port hw  h3) cs_X6_44 (Nat.le_of_ble_eq_true rfl) rfl (Nat.le_of_ble_eq_true rfl) _ rfl dX6_guarantee_16 [.int z3, .ref (w.2.2 5 31 0 0), .int (s1 5 31 0 0 z1.toNatClampNeg)] rfl ?_
  obtain ⟨hg4, h⟩ := x_g_e h
  refine x_iald 6464 z3.toNatClampNeg rfl rfl rfl rfl (ok_e31 hw) hg4 dX6_guarantee_19 ?_
  refine x_iadd dX6_guarantee_20 ?_
  exact x_iretH rfl dX6_guarantee_21 h
set_option maxRecDepth 100000 in
set_option maxHeartbeats 4000000 in
theorem TX6_pool_9 {l : Launch} {w : xW} (hw : w.1.2 = true) {τ : xS} {r : Int32} : ∀ (n : Nat) (a1 : Int32) (a2 : Int32) (σ : xS), BX6_pool_9 n a1 a2 σ = some (r, τ) → xAt l w mX6_pool 9 [(0, .ref (w.2.2 5 30 0 0)), (1, .int a1), (2, .int a2)] [] σ (some (.int r)) τ := by
  intro n
  induction n with
  | zero => intro a1 a2 σ h; cases h
  | succ n ih =>
    intro a1 a2 σ h
    rw [BX6_pool_9] at h
    refine x_iload_n dX6_pool_9 rfl 2 rfl ?_
    refine x_aload_n dX6_pool_10 rfl 0 rfl ?_
    refine x_getR (d1 := 5) (K1 := 31) (p1 := 0) (r1 := 0) fl_X6_7 (ok_e30 hw) rfl dX6_pool_11 ?_
    refine x_iconst (x := 1) dX6_pool_14 rfl ?_
    refine x_iald 6464 1 rfl rfl rfl rfl (ok_e31 hw) rfl dX6_pool_15 ?_
    refine x_icmp_ge (tgt := 44) dX6_pool_16 rfl (fun hc => ?_) (fun hc => ?_)
    · have h := x_t hc h
      refine x_iload_n dX6_pool_44 rfl 1 rfl ?_
      exact x_iretH rfl dX6_pool_45 h
    · have h := x_f hc h
      refine x_iload_n dX6_pool_19 rfl 1 rfl ?_
      refine x_aload_n dX6_pool_20 rfl 0 rfl ?_
      refine x_iload_n dX6_pool_21 rfl 2 rfl ?_
      obtain ⟨z2, s2, h2, h⟩ := x_b_e h
      refine x_callV (As := [.int a2]) (st := [.int a1]) (eX6_guarantee hw  h2) cv_X6_51 (Nat.le_of_ble_eq_true rfl) (ok_e30 hw) rfl (Nat.le_of_ble_eq_true rfl) _ rfl dX6_pool_22 [.int z2, .int a1] rfl ?_
      refine x_aload_n dX6_pool_25 rfl 0 rfl ?_
      refine x_getR (d1 := 5) (K1 := 31) (p1 := 0) (r1 := 0) fl_X6_7 (ok_e30 hw) rfl dX6_pool_26 ?_
      refine x_iload_n dX6_pool_29 rfl 2 rfl ?_
      refine x_iconst (x := 1) dX6_pool_30 rfl ?_
      obtain ⟨z3, s3, h3, h⟩ := x_b_e h
      refine x_callS (As := [.int a2, .int 1]) (st := [.ref (w.2.2 5 31 0 0), .int z2, .int a1]) (eX6_port hw  h3) cs_X6_44 (Nat.le_of_ble_eq_true rfl) rfl (Nat.le_of_ble_eq_true rfl) _ rfl dX6_pool_31 [.int z3, .ref (w.2.2 5 31 0 0), .int z2, .int a1] rfl ?_
      obtain ⟨hg4, h⟩ := x_g_e h
      refine x_iald 6464 z3.toNatClampNeg rfl rfl rfl rfl (ok_e31 hw) hg4 dX6_pool_34 ?_
      refine x_iadd dX6_pool_35 ?_
      refine x_isub dX6_pool_36 ?_
      obtain ⟨t5, ht5, h⟩ := x_let_e h
      refine x_istore_n t5 ht5 dX6_pool_37 rfl (Nat.le_of_ble_eq_true rfl) [(1, .int t5), (0, .ref (w.2.2 5 30 0 0)), (2, .int a2)] rfl ?_
      obtain ⟨t6, ht6, h⟩ := x_let_e h
      refine x_iinc t6 1 rfl ht6 dX6_pool_38 2 rfl (Nat.le_of_ble_eq_true rfl) [(2, .int t6), (1, .int t5), (0, .ref (w.2.2 5 30 0 0))] rfl ?_
      refine x_goto (tgt := 9) dX6_pool_41 rfl ?_
      refine x_sub (L1 := [(0, .ref (w.2.2 5 30 0 0)), (1, .int t5), (2, .int t6)]) [2, 1, 0] rfl ?_
      exact ih _ _ _ h
set_option maxRecDepth 100000 in
set_option maxHeartbeats 4000000 in
theorem eX6_pool {l : Launch} {w : xW} (hw : w.1.2 = true) {σ τ : xS} {r : Int32} (h : fX6_pool σ = some (r, τ)) : xEV l w yX6_pool mX6_pool [.ref (w.2.2 5 30 0 0)] σ (some (.int r)) τ := by
  rw [fX6_pool] at h
  refine x_enter (by decide +kernel) rfl (Nat.le_of_ble_eq_true rfl) ?_
  refine x_sub (L1 := [(0, .ref (w.2.2 5 30 0 0))]) [0] rfl ?_
  refine x_aload_n dX6_pool_0 rfl 0 rfl ?_
  refine x_getR (d1 := 5) (K1 := 31) (p1 := 0) (r1 := 0) fl_X6_7 (ok_e30 hw) rfl dX6_pool_1 ?_
  refine x_iconst (x := 0) dX6_pool_4 rfl ?_
  refine x_iald 6464 0 rfl rfl rfl rfl (ok_e31 hw) rfl dX6_pool_5 ?_
  obtain ⟨t1, ht1, h⟩ := x_let_e h
  refine x_istore_n t1 ht1 dX6_pool_6 rfl (Nat.le_of_ble_eq_true rfl) [(1, .int t1), (0, .ref (w.2.2 5 30 0 0))] rfl ?_
  refine x_iconst (x := 0) dX6_pool_7 rfl ?_
  refine x_istore_n 0 rfl dX6_pool_8 rfl (Nat.le_of_ble_eq_true rfl) [(2, .int 0), (1, .int t1), (0, .ref (w.2.2 5 30 0 0))] rfl ?_
  refine x_sub (L1 := [(0, .ref (w.2.2 5 30 0 0)), (1, .int t1), (2, .int 0)]) [2, 1, 0] rfl ?_
  exact TX6_pool_9 hw _ _ _ _ h
set_option maxRecDepth 100000 in
set_option maxHeartbeats 4000000 in
theorem TX6_free_7 {l : Launch} {w : xW} (hw : w.1.2 = true) {τ : xS} {r : Int32} : ∀ (n : Nat) (a1 : Int32) (a2 : Int32) (σ : xS), BX6_free_7 n a1 a2 σ = some (r, τ) → xAt l w mX6_free 7 [(0, .ref (w.2.2 5 30 0 0)), (1, .int a1), (2, .int a2)] [] σ (some (.int r)) τ := by
  intro n
  induction n with
  | zero => intro a1 a2 σ h; cases h
  | succ n ih =>
    intro a1 a2 σ h
    rw [BX6_free_7] at h
    refine x_iload_n dX6_free_7 rfl 2 rfl ?_
    refine x_iconst (x := 3) dX6_free_8 rfl ?_
    refine x_aload_n dX6_free_9 rfl 0 rfl ?_
    refine x_getR (d1 := 5) (K1 := 31) (p1 := 0) (r1 := 0) fl_X6_7 (ok_e30 hw) rfl dX6_free_10 ?_
    refine x_iconst (x := 1) dX6_free_13 rfl ?_
    refine x_iald 6464 1 rfl rfl rfl rfl (ok_e31 hw) rfl dX6_free_14 ?_
    refine x_imul dX6_free_15 ?_
    refine x_icmp_ge (tgt := 39) dX6_free_16 rfl (fun hc => ?_) (fun hc => ?_)
    · have h := x_t hc h
      refine x_iload_n dX6_free_39 rfl 1 rfl ?_
      exact x_iretH rfl dX6_free_40 h
    · have h := x_f hc h
      refine x_iload_n dX6_free_19 rfl 1 rfl ?_
      refine x_aload_n dX6_free_20 rfl 0 rfl ?_
      refine x_getR (d1 := 5) (K1 := 31) (p1 := 0) (r1 := 0) fl_X6_7 (ok_e30 hw) rfl dX6_free_21 ?_
      refine x_iload_n dX6_free_24 rfl 2 rfl ?_
      refine x_bipush (x := 7) dX6_free_25 rfl ?_
      obtain ⟨z2, s2, h2, h⟩ := x_b_e h
      refine x_callS (As := [.int a2, .int 7]) (st := [.ref (w.2.2 5 31 0 0), .int a1]) (eX6_queue hw  h2) cs_X6_48 (Nat.le_of_ble_eq_true rfl) rfl (Nat.le_of_ble_eq_true rfl) _ rfl dX6_free_27 [.int z2, .ref (w.2.2 5 31 0 0), .int a1] rfl ?_
      obtain ⟨hg3, h⟩ := x_g_e h
      refine x_iald 6464 z2.toNatClampNeg rfl rfl rfl rfl (ok_e31 hw) hg3 dX6_free_30 ?_
      refine x_isub dX6_free_31 ?_
      obtain ⟨t4, ht4, h⟩ := x_let_e h
      refine x_istore_n t4 ht4 dX6_free_32 rfl (Nat.le_of_ble_eq_true rfl) [(1, .int t4), (0, .ref (w.2.2 5 30 0 0)), (2, .int a2)] rfl ?_
      obtain ⟨t5, ht5, h⟩ := x_let_e h
      refine x_iinc t5 1 rfl ht5 dX6_free_33 2 rfl (Nat.le_of_ble_eq_true rfl) [(2, .int t5), (1, .int t4), (0, .ref (w.2.2 5 30 0 0))] rfl ?_
      refine x_goto (tgt := 7) dX6_free_36 rfl ?_
      refine x_sub (L1 := [(0, .ref (w.2.2 5 30 0 0)), (1, .int t4), (2, .int t5)]) [2, 1, 0] rfl ?_
      exact ih _ _ _ h
set_option maxRecDepth 100000 in
set_option maxHeartbeats 4000000 in
theorem eX6_free {l : Launch} {w : xW} (hw : w.1.2 = true) {σ τ : xS} {r : Int32} (h : fX6_free σ = some (r, τ)) : xEV l w yX6_free mX6_free [.ref (w.2.2 5 30 0 0)] σ (some (.int r)) τ := by
  rw [fX6_free] at h
  refine x_enter (by decide +kernel) rfl (Nat.le_of_ble_eq_true rfl) ?_
  refine x_sub (L1 := [(0, .ref (w.2.2 5 30 0 0))]) [0] rfl ?_
  refine x_aload_n dX6_free_0 rfl 0 rfl ?_
  obtain ⟨z1, s1, h1, h⟩ := x_b_e h
  refine x_callV (As := []) (st := []) (eX6_pool hw  h1) cv_X6_55 (Nat.le_of_ble_eq_true rfl) (ok_e30 hw) rfl (Nat.le_of_ble_eq_true rfl) _ rfl dX6_free_1 [.int z1] rfl ?_
  refine x_istore_n z1 rfl dX6_free_4 rfl (Nat.le_of_ble_eq_true rfl) [(1, .int z1), (0, .ref (w.2.2 5 30 0 0))] rfl ?_
  refine x_iconst (x := 0) dX6_free_5 rfl ?_
  refine x_istore_n 0 rfl dX6_free_6 rfl (Nat.le_of_ble_eq_true rfl) [(2, .int 0), (1, .int z1), (0, .ref (w.2.2 5 30 0 0))] rfl ?_
  refine x_sub (L1 := [(0, .ref (w.2.2 5 30 0 0)), (1, .int z1), (2, .int 0)]) [2, 1, 0] rfl ?_
  exact TX6_free_7 hw _ _ _ _ h
set_option maxRecDepth 100000 in
set_option maxHeartbeats 4000000 in
theorem eX6_freeOf {l : Launch} {w : xW} (hw : w.1.2 = true) {a1 : Int32} {σ τ : xS} {r : Int32} (h : fX6_freeOf a1 σ = some (r, τ)) : xEV l w yX6_freeOf mX6_freeOf [.ref (w.2.2 5 30 0 0), .int a1] σ (some (.int r)) τ := by
  rw [fX6_freeOf] at h
  refine x_enter (by decide +kernel) rfl (Nat.le_of_ble_eq_true rfl) ?_
  refine x_sub (L1 := [(0, .ref (w.2.2 5 30 0 0)), (1, .int a1)]) [0, 1] rfl ?_
  refine x_aload_n dX6_freeOf_0 rfl 0 rfl ?_
  refine x_iload_n dX6_freeOf_1 rfl 1 rfl ?_
  obtain ⟨z1, s1, h1, h⟩ := x_b_e h
  refine x_callV (As := [.int a1]) (st := []) (eX6_guarantee hw  h1) cv_X6_51 (Nat.le_of_ble_eq_true rfl) (ok_e30 hw) rfl (Nat.le_of_ble_eq_true rfl) _ rfl dX6_freeOf_2 [.int z1] rfl ?_
  refine x_aload_n dX6_freeOf_5 rfl 0 rfl ?_
  refine x_iload_n dX6_freeOf_6 rfl 1 rfl ?_
  refine x_bipush (x := 6) dX6_freeOf_7 rfl ?_
  obtain ⟨z2, s2, h2, h⟩ := x_b_e h
  refine x_callV (As := [.int a1, .int 6]) (st := [.int z1]) (eX6_sum hw  h2) cv_X6_59 (Nat.le_of_ble_eq_true rfl) (ok_e30 hw) rfl (Nat.le_of_ble_eq_true rfl) _ rfl dX6_freeOf_9 [.int z2, .int z1] rfl ?_
  refine x_isub dX6_freeOf_12 ?_
  exact x_iretH rfl dX6_freeOf_13 h
set_option maxRecDepth 100000 in
set_option maxHeartbeats 4000000 in
theorem eX6_limit {l : Launch} {w : xW} (hw : w.1.2 = true) {a1 : Int32} {σ τ : xS} {r : Int32} (h : fX6_limit a1 σ = some (r, τ)) : xEV l w yX6_limit mX6_limit [.ref (w.2.2 5 30 0 0), .int a1] σ (some (.int r)) τ := by
  rw [fX6_limit] at h
  refine x_enter (by decide +kernel) rfl (Nat.le_of_ble_eq_true rfl) ?_
  refine x_sub (L1 := [(0, .ref (w.2.2 5 30 0 0)), (1, .int a1)]) [0, 1] rfl ?_
  refine x_aload_n dX6_limit_0 rfl 0 rfl ?_
  refine x_getR (d1 := 5) (K1 := 31) (p1 := 0) (r1 := 0) fl_X6_7 (ok_e30 hw) rfl dX6_limit_1 ?_
  refine x_iload_n dX6_limit_4 rfl 1 rfl ?_
  refine x_iconst (x := 0) dX6_limit_5 rfl ?_
  obtain ⟨z1, s1, h1, h⟩ := x_b_e h
  refine x_callS (As := [.int a1, .int 0]) (st := [.ref (w.2.2 5 31 0 0)]) (eX6_queue hw  h1) cs_X6_48 (Nat.le_of_ble_eq_true rfl) rfl (Nat.le_of_ble_eq_true rfl) _ rfl dX6_limit_6 [.int z1, .ref (w.2.2 5 31 0 0)] rfl ?_
  obtain ⟨hg2, h⟩ := x_g_e h
  refine x_iald 6464 z1.toNatClampNeg rfl rfl rfl rfl (ok_e31 hw) hg2 dX6_limit_9 ?_
  refine x_aload_n dX6_limit_10 rfl 0 rfl ?_
  obtain ⟨z3, s3, h3, h⟩ := x_b_e h
  refine x_callV (As := []) (st := [.int (s1 5 31 0 0 z1.toNatClampNeg)]) (eX6_free hw  h3) cv_X6_62 (Nat.le_of_ble_eq_true rfl) (ok_e30 hw) rfl (Nat.le_of_ble_eq_true rfl) _ rfl dX6_limit_11 [.int z3, .int (s1 5 31 0 0 z1.toNatClampNeg)] rfl ?_
  refine x_imul dX6_limit_14 ?_
  refine x_bipush (x := 8) dX6_limit_15 rfl ?_
  refine x_idiv dX6_limit_17 (by decide) ?_
  exact x_iretH rfl dX6_limit_18 h
set_option maxRecDepth 100000 in
set_option maxHeartbeats 4000000 in
theorem TX6_converts_2 {l : Launch} {w : xW} (hw : w.1.2 = true) {a1 : Int32} {τ : xS} {r : Unit} : ∀ (n : Nat) (a2 : Int32) (σ : xS), BX6_converts_2 a1 n a2 σ = some (r, τ) → xAt l w mX6_converts 2 [(0, .ref (w.2.2 5 30 0 0)), (1, .int a1), (2, .int a2)] [] σ none τ := by
  intro n
  induction n with
  | zero => intro a2 σ h; cases h
  | succ n ih =>
    intro a2 σ h
    rw [BX6_converts_2] at h
    refine x_iload_n dX6_converts_2 rfl 2 rfl ?_
    refine x_if_lt (tgt := 83) dX6_converts_3 rfl (fun hc => ?_) (fun hc => ?_)
    · have h := x_t hc h
      exact x_vretH rfl dX6_converts_83 h
    · have h := x_f hc h
      refine x_aload_n dX6_converts_6 rfl 0 rfl ?_
      refine x_iload_n dX6_converts_7 rfl 1 rfl ?_
      obtain ⟨z1, s1, h1, h⟩ := x_b_e h
      refine x_callV (As := [.int a1]) (st := []) (eX6_freeOf hw  h1) cv_X6_65 (Nat.le_of_ble_eq_true rfl) (ok_e30 hw) rfl (Nat.le_of_ble_eq_true rfl) _ rfl dX6_converts_8 [.int z1] rfl ?_
      refine x_ineg dX6_converts_11 ?_
      obtain ⟨t2, ht2, h⟩ := x_let_e h
      refine x_istore_n t2 ht2 dX6_converts_12 rfl (Nat.le_of_ble_eq_true rfl) [(3, .int t2), (0, .ref (w.2.2 5 30 0 0)), (1, .int a1), (2, .int a2)] rfl ?_
      refine x_iconst (x := 3) dX6_converts_13 rfl ?_
      refine x_iload_n dX6_converts_14 rfl 2 rfl ?_
      refine x_imul dX6_converts_15 ?_
      refine x_iload_n dX6_converts_16 rfl 3 rfl ?_
      refine x_iadd dX6_converts_17 ?_
      obtain ⟨t3, ht3, h⟩ := x_let_e h
      refine x_istore t3 ht3 dX6_converts_18 (Nat.le_of_ble_eq_true rfl) [(4, .int t3), (3, .int t2), (0, .ref (w.2.2 5 30 0 0)), (1, .int a1), (2, .int a2)] rfl ?_
      refine x_iload_n dX6_converts_20 rfl 1 rfl ?_
      refine x_aload_n dX6_converts_21 rfl 2 rfl ?_
      refine x_getR (d1 := 5) (K1 := 31) (p1 := 0) (r1 := 0) fl_X6_7 (ok_e30 hw) rfl dX6_converts_22 ?_
      refine x_iload dX6_converts_25 0 rfl ?_
      refine x_bipush (x := 6) dX6_converts_27 rfl ?_
      obtain ⟨z4, s4, h4, h⟩ := x_b_e h
      refine x_callS (As := [.int t3, .int 6]) (st := [.ref (w.2.2 5 31 0 0), .int t2]) (eX6_queue hw  h4) cs_X6_48 (Nat.le_of_ble_eq_true rfl) rfl (Nat.le_of_ble_eq_true rfl) _ rfl dX6_converts_29 [.int z4, .ref (w.2.2 5 31 0 0), .int t2] rfl ?_
      obtain ⟨hg5, h⟩ := x_g_e h
      refine x_iald 6464 z4.toNatClampNeg rfl rfl rfl rfl (ok_e31 hw) hg5 dX6_converts_32 ?_
      obtain ⟨z6, s6, h6, h⟩ := x_b_e h
      refine x_callS (As := [.int t2, .int (s4 5 31 0 0 z4.toNatClampNeg)]) (st := []) (eX6_least hw  h6) cs_X6_68 (Nat.le_of_ble_eq_true rfl) rfl (Nat.le_of_ble_eq_true rfl) _ rfl dX6_converts_33 [.int z6] rfl ?_
      refine x_istore z6 rfl dX6_converts_36 (Nat.le_of_ble_eq_true rfl) [(5, .int z6), (4, .int t3), (3, .int t2), (0, .ref (w.2.2 5 30 0 0)), (1, .int a1), (2, .int a2)] rfl ?_
      refine x_iload dX6_converts_38 0 rfl ?_
      refine x_if_le (tgt := 77) dX6_converts_40 rfl (fun hc => ?_) (fun hc => ?_)
      · have h := x_t hc h
        obtain ⟨t7, ht7, h⟩ := x_let_e h
        refine x_iinc t7 (-1) (by decide) ht7 dX6_converts_77 5 rfl (Nat.le_of_ble_eq_true rfl) [(2, .int t7), (5, .int z6), (4, .int t3), (3, .int t2), (0, .ref (w.2.2 5 30 0 0)), (1, .int a1)] rfl ?_
        refine x_goto (tgt := 2) dX6_converts_80 rfl ?_
        refine x_sub (L1 := [(0, .ref (w.2.2 5 30 0 0)), (1, .int a1), (2, .int t7)]) [4, 5, 0] rfl ?_
        exact ih _ _ h
      · have h := x_f hc h
        refine x_aload_n dX6_converts_43 rfl 3 rfl ?_
        refine x_getR (d1 := 5) (K1 := 31) (p1 := 0) (r1 := 0) fl_X6_7 (ok_e30 hw) rfl dX6_converts_44 ?_
        refine x_iload dX6_converts_47 1 rfl ?_
        refine x_bipush (x := 6) dX6_converts_49 rfl ?_
        obtain ⟨z8, s8, h8, h⟩ := x_b_e h
        refine x_callS (As := [.int t3, .int 6]) (st := [.ref (w.2.2 5 31 0 0)]) (eX6_queue hw  h8) cs_X6_48 (Nat.le_of_ble_eq_true rfl) rfl (Nat.le_of_ble_eq_true rfl) _ rfl dX6_converts_51 [.int z8, .ref (w.2.2 5 31 0 0)] rfl ?_
        refine x_dup2 dX6_converts_54 rfl rfl ?_
        obtain ⟨hg9, h⟩ := x_g_e h
        refine x_iald 6464 z8.toNatClampNeg rfl rfl rfl rfl (ok_e31 hw) hg9 dX6_converts_55 ?_
        refine x_iload dX6_converts_56 0 rfl ?_
        refine x_isub dX6_converts_58 ?_
        obtain ⟨hg10, h⟩ := x_g_e h
        obtain ⟨s11, hs11, h⟩ := x_let_e h
        refine x_iast 6464 z8.toNatClampNeg rfl s11 hs11 rfl rfl rfl (ok_e31 hw) hg10 dX6_converts_59 ?_
        refine x_aload_n dX6_converts_60 rfl 3 rfl ?_
        refine x_getR (d1 := 5) (K1 := 31) (p1 := 0) (r1 := 0) fl_X6_7 (ok_e30 hw) rfl dX6_converts_61 ?_
        refine x_iload dX6_converts_64 1 rfl ?_
        refine x_bipush (x := 7) dX6_converts_66 rfl ?_
        obtain ⟨z12, s12, h12, h⟩ := x_b_e h
        refine x_callS (As := [.int t3, .int 7]) (st := [.ref (w.2.2 5 31 0 0)]) (eX6_queue hw  h12) cs_X6_48 (Nat.le_of_ble_eq_true rfl) rfl (Nat.le_of_ble_eq_true rfl) _ rfl dX6_converts_68 [.int z12, .ref (w.2.2 5 31 0 0)] rfl ?_
        refine x_dup2 dX6_converts_71 rfl rfl ?_
        obtain ⟨hg13, h⟩ := x_g_e h
        refine x_iald 6464 z12.toNatClampNeg rfl rfl rfl rfl (ok_e31 hw) hg13 dX6_converts_72 ?_
        refine x_iload dX6_converts_73 0 rfl ?_
        refine x_iadd dX6_converts_75 ?_
        obtain ⟨hg14, h⟩ := x_g_e h
        obtain ⟨s15, hs15, h⟩ := x_let_e h
        refine x_iast 6464 z12.toNatClampNeg rfl s15 hs15 rfl rfl rfl (ok_e31 hw) hg14 dX6_converts_76 ?_
        obtain ⟨t16, ht16, h⟩ := x_let_e h
        refine x_iinc t16 (-1) (by decide) ht16 dX6_converts_77 5 rfl (Nat.le_of_ble_eq_true rfl) [(2, .int t16), (5, .int z6), (4, .int t3), (3, .int t2), (0, .ref (w.2.2 5 30 0 0)), (1, .int a1)] rfl ?_
        refine x_goto (tgt := 2) dX6_converts_80 rfl ?_
        refine x_sub (L1 := [(0, .ref (w.2.2 5 30 0 0)), (1, .int a1), (2, .int t16)]) [4, 5, 0] rfl ?_
        exact ih _ _ h
set_option maxRecDepth 100000 in
set_option maxHeartbeats 4000000 in
theorem eX6_converts {l : Launch} {w : xW} (hw : w.1.2 = true) {a1 : Int32} {σ τ : xS} {r : Unit} (h : fX6_converts a1 σ = some (r, τ)) : xEV l w yX6_converts mX6_converts [.ref (w.2.2 5 30 0 0), .int a1] σ none τ := by
  rw [fX6_converts] at h
  refine x_enter (by decide +kernel) rfl (Nat.le_of_ble_eq_true rfl) ?_
  refine x_sub (L1 := [(0, .ref (w.2.2 5 30 0 0)), (1, .int a1)]) [0, 1] rfl ?_
  refine x_iconst (x := 2) dX6_converts_0 rfl ?_
  refine x_istore_n 2 rfl dX6_converts_1 rfl (Nat.le_of_ble_eq_true rfl) [(2, .int 2), (0, .ref (w.2.2 5 30 0 0)), (1, .int a1)] rfl ?_
  refine x_sub (L1 := [(0, .ref (w.2.2 5 30 0 0)), (1, .int a1), (2, .int 2)]) [1, 2, 0] rfl ?_
  exact TX6_converts_2 hw _ _ _ h
set_option maxRecDepth 100000 in
set_option maxHeartbeats 4000000 in
theorem eX6_reset {l : Launch} {w : xW} (hw : w.1.2 = true) {a1 : Int32} {a2 : Int32} {σ τ : xS} {r : Int32} (h : fX6_reset a1 a2 σ = some (r, τ)) : xEV l w yX6_reset mX6_reset [.ref (w.2.2 5 30 0 0), .int a1, .int a2] σ (some (.int r)) τ := by
  rw [fX6_reset] at h
  refine x_enter (by decide +kernel) rfl (Nat.le_of_ble_eq_true rfl) ?_
  refine x_sub (L1 := [(0, .ref (w.2.2 5 30 0 0)), (1, .int a1), (2, .int a2)]) [0, 1, 2] rfl ?_
  refine x_iload_n dX6_reset_0 rfl 1 rfl ?_
  refine x_bipush (x := 16) dX6_reset_1 rfl ?_
  refine x_sipush (x := 128) dX6_reset_3 rfl ?_
  obtain ⟨z1, s1, h1, h⟩ := x_b_e h
  refine x_callS (As := [.int a1, .int 16, .int 128]) (st := []) (eX6_in hw  h1) cs_X6_36 (Nat.le_of_ble_eq_true rfl) rfl (Nat.le_of_ble_eq_true rfl) _ rfl dX6_reset_6 [.int z1] rfl ?_
  refine x_if_eq (tgt := 22) dX6_reset_9 rfl (fun hc => ?_) (fun hc => ?_)
  · have h := x_t hc h
    refine x_bipush (x := (-2)) dX6_reset_22 (by decide) ?_
    exact x_iretH rfl dX6_reset_24 h
  · have h := x_f hc h
    refine x_iload_n dX6_reset_12 rfl 2 rfl ?_
    refine x_iconst (x := 1) dX6_reset_13 rfl ?_
    refine x_bipush (x := 6) dX6_reset_14 rfl ?_
    obtain ⟨z2, s2, h2, h⟩ := x_b_e h
    refine x_callS (As := [.int a2, .int 1, .int 6]) (st := []) (eX6_in hw  h2) cs_X6_36 (Nat.le_of_ble_eq_true rfl) rfl (Nat.le_of_ble_eq_true rfl) _ rfl dX6_reset_16 [.int z2] rfl ?_
    refine x_if_ne (tgt := 25) dX6_reset_19 rfl (fun hc => ?_) (fun hc => ?_)
    · have h := x_f hc h
      refine x_aload_n dX6_reset_25 rfl 0 rfl ?_
      refine x_getR (d1 := 5) (K1 := 31) (p1 := 0) (r1 := 0) fl_X6_7 (ok_e30 hw) rfl dX6_reset_26 ?_
      refine x_iconst (x := 0) dX6_reset_29 rfl ?_
      refine x_iald 6464 0 rfl rfl rfl rfl (ok_e31 hw) rfl dX6_reset_30 ?_
      obtain ⟨t3, ht3, h⟩ := x_let_e h
      refine x_istore_n t3 ht3 dX6_reset_31 rfl (Nat.le_of_ble_eq_true rfl) [(3, .int t3), (0, .ref (w.2.2 5 30 0 0)), (1, .int a1), (2, .int a2)] rfl ?_
      refine x_aload_n dX6_reset_32 rfl 1 rfl ?_
      refine x_iload_n dX6_reset_33 rfl 2 rfl ?_
      refine x_iload_n dX6_reset_34 rfl 3 rfl ?_
      obtain ⟨z4, s4, h4, h⟩ := x_b_e h
      refine x_callV (As := [.int a1, .int a2]) (st := []) (eX6_starts hw  h4) cv_X6_32 (Nat.le_of_ble_eq_true rfl) (ok_e30 hw) rfl (Nat.le_of_ble_eq_true rfl) _ rfl dX6_reset_35 [] rfl ?_
      refine x_iload_n dX6_reset_38 rfl 0 rfl ?_
      exact x_iretH rfl dX6_reset_39 h
    · have h := x_t hc h
      refine x_bipush (x := (-2)) dX6_reset_22 (by decide) ?_
      exact x_iretH rfl dX6_reset_24 h
set_option maxRecDepth 100000 in
set_option maxHeartbeats 4000000 in
theorem eX6_setReserve {l : Launch} {w : xW} (hw : w.1.2 = true) {a1 : Int32} {a2 : Int32} {σ τ : xS} {r : Int32} (h : fX6_setReserve a1 a2 σ = some (r, τ)) : xEV l w yX6_setReserve mX6_setReserve [.ref (w.2.2 5 30 0 0), .int a1, .int a2] σ (some (.int r)) τ := by
  rw [fX6_setReserve] at h
  refine x_enter (by decide +kernel) rfl (Nat.le_of_ble_eq_true rfl) ?_
  refine x_sub (L1 := [(0, .ref (w.2.2 5 30 0 0)), (1, .int a1), (2, .int a2)]) [0, 1, 2] rfl ?_
  refine x_aload_n dX6_setReserve_0 rfl 0 rfl ?_
  refine x_iload_n dX6_setReserve_1 rfl 1 rfl ?_
  obtain ⟨z1, s1, h1, h⟩ := x_b_e h
  refine x_callV (As := [.int a1]) (st := []) (eX6_isPort hw  h1) cv_X6_40 (Nat.le_of_ble_eq_true rfl) (ok_e30 hw) rfl (Nat.le_of_ble_eq_true rfl) _ rfl dX6_setReserve_2 [.int z1] rfl ?_
  refine x_if_ne (tgt := 10) dX6_setReserve_5 rfl (fun hc => ?_) (fun hc => ?_)
  · have h := x_f hc h
    refine x_iload_n dX6_setReserve_10 rfl 2 rfl ?_
    refine x_iconst (x := 0) dX6_setReserve_11 rfl ?_
    refine x_bipush (x := 64) dX6_setReserve_12 rfl ?_
    obtain ⟨z2, s2, h2, h⟩ := x_b_e h
    refine x_callS (As := [.int a2, .int 0, .int 64]) (st := []) (eX6_in hw  h2) cs_X6_36 (Nat.le_of_ble_eq_true rfl) rfl (Nat.le_of_ble_eq_true rfl) _ rfl dX6_setReserve_14 [.int z2] rfl ?_
    refine x_if_ne (tgt := 23) dX6_setReserve_17 rfl (fun hc => ?_) (fun hc => ?_)
    · have h := x_f hc h
      refine x_aload_n dX6_setReserve_23 rfl 0 rfl ?_
      refine x_getR (d1 := 5) (K1 := 31) (p1 := 0) (r1 := 0) fl_X6_7 (ok_e30 hw) rfl dX6_setReserve_24 ?_
      refine x_iload_n dX6_setReserve_27 rfl 1 rfl ?_
      refine x_iconst (x := 0) dX6_setReserve_28 rfl ?_
      obtain ⟨z3, s3, h3, h⟩ := x_b_e h
      refine x_callS (As := [.int a1, .int 0]) (st := [.ref (w.2.2 5 31 0 0)]) (eX6_port hw  h3) cs_X6_44 (Nat.le_of_ble_eq_true rfl) rfl (Nat.le_of_ble_eq_true rfl) _ rfl dX6_setReserve_29 [.int z3, .ref (w.2.2 5 31 0 0)] rfl ?_
      obtain ⟨hg4, h⟩ := x_g_e h
      refine x_iald 6464 z3.toNatClampNeg rfl rfl rfl rfl (ok_e31 hw) hg4 dX6_setReserve_32 ?_
      obtain ⟨t5, ht5, h⟩ := x_let_e h
      refine x_istore_n t5 ht5 dX6_setReserve_33 rfl (Nat.le_of_ble_eq_true rfl) [(3, .int t5), (0, .ref (w.2.2 5 30 0 0)), (1, .int a1), (2, .int a2)] rfl ?_
      refine x_iload_n dX6_setReserve_34 rfl 3 rfl ?_
      refine x_iload_n dX6_setReserve_35 rfl 0 rfl ?_
      refine x_isub dX6_setReserve_36 ?_
      refine x_aload_n dX6_setReserve_37 rfl 1 rfl ?_
      obtain ⟨z6, s6, h6, h⟩ := x_b_e h
      refine x_callV (As := []) (st := [.int (a2 - t5)]) (eX6_free hw  h6) cv_X6_62 (Nat.le_of_ble_eq_true rfl) (ok_e30 hw) rfl (Nat.le_of_ble_eq_true rfl) _ rfl dX6_setReserve_38 [.int z6, .int (a2 - t5)] rfl ?_
      refine x_icmp_le (tgt := 52) dX6_setReserve_41 rfl (fun hc => ?_) (fun hc => ?_)
      · have h := x_t hc h
        refine x_aload_n dX6_setReserve_52 rfl 1 rfl ?_
        refine x_getR (d1 := 5) (K1 := 31) (p1 := 0) (r1 := 0) fl_X6_7 (ok_e30 hw) rfl dX6_setReserve_53 ?_
        refine x_iload_n dX6_setReserve_56 rfl 2 rfl ?_
        refine x_iconst (x := 0) dX6_setReserve_57 rfl ?_
        obtain ⟨z7, s7, h7, h⟩ := x_b_e h
        refine x_callS (As := [.int a1, .int 0]) (st := [.ref (w.2.2 5 31 0 0)]) (eX6_port hw  h7) cs_X6_44 (Nat.le_of_ble_eq_true rfl) rfl (Nat.le_of_ble_eq_true rfl) _ rfl dX6_setReserve_58 [.int z7, .ref (w.2.2 5 31 0 0)] rfl ?_
        refine x_iload_n dX6_setReserve_61 rfl 3 rfl ?_
        obtain ⟨hg8, h⟩ := x_g_e h
        obtain ⟨s9, hs9, h⟩ := x_let_e h
        refine x_iast 6464 z7.toNatClampNeg rfl s9 hs9 rfl rfl rfl (ok_e31 hw) hg8 dX6_setReserve_62 ?_
        refine x_aload_n dX6_setReserve_63 rfl 1 rfl ?_
        refine x_iload_n dX6_setReserve_64 rfl 2 rfl ?_
        obtain ⟨z10, s10, h10, h⟩ := x_b_e h
        refine x_callV (As := [.int a1]) (st := []) (eX6_converts hw  h10) cv_X6_71 (Nat.le_of_ble_eq_true rfl) (ok_e30 hw) rfl (Nat.le_of_ble_eq_true rfl) _ rfl dX6_setReserve_65 [] rfl ?_
        refine x_iload_n dX6_setReserve_68 rfl 0 rfl ?_
        exact x_iretH rfl dX6_setReserve_69 h
      · have h := x_f hc h
        refine x_iload_n dX6_setReserve_44 rfl 3 rfl ?_
        refine x_iload_n dX6_setReserve_45 rfl 0 rfl ?_
        refine x_icmp_le (tgt := 52) dX6_setReserve_46 rfl (fun hc => ?_) (fun hc => ?_)
        · have h := x_t hc h
          refine x_aload_n dX6_setReserve_52 rfl 1 rfl ?_
          refine x_getR (d1 := 5) (K1 := 31) (p1 := 0) (r1 := 0) fl_X6_7 (ok_e30 hw) rfl dX6_setReserve_53 ?_
          refine x_iload_n dX6_setReserve_56 rfl 2 rfl ?_
          refine x_iconst (x := 0) dX6_setReserve_57 rfl ?_
          obtain ⟨z11, s11, h11, h⟩ := x_b_e h
          refine x_callS (As := [.int a1, .int 0]) (st := [.ref (w.2.2 5 31 0 0)]) (eX6_port hw  h11) cs_X6_44 (Nat.le_of_ble_eq_true rfl) rfl (Nat.le_of_ble_eq_true rfl) _ rfl dX6_setReserve_58 [.int z11, .ref (w.2.2 5 31 0 0)] rfl ?_
          refine x_iload_n dX6_setReserve_61 rfl 3 rfl ?_
          obtain ⟨hg12, h⟩ := x_g_e h
          obtain ⟨s13, hs13, h⟩ := x_let_e h
          refine x_iast 6464 z11.toNatClampNeg rfl s13 hs13 rfl rfl rfl (ok_e31 hw) hg12 dX6_setReserve_62 ?_
          refine x_aload_n dX6_setReserve_63 rfl 1 rfl ?_
          refine x_iload_n dX6_setReserve_64 rfl 2 rfl ?_
          obtain ⟨z14, s14, h14, h⟩ := x_b_e h
          refine x_callV (As := [.int a1]) (st := []) (eX6_converts hw  h14) cv_X6_71 (Nat.le_of_ble_eq_true rfl) (ok_e30 hw) rfl (Nat.le_of_ble_eq_true rfl) _ rfl dX6_setReserve_65 [] rfl ?_
          refine x_iload_n dX6_setReserve_68 rfl 0 rfl ?_
          exact x_iretH rfl dX6_setReserve_69 h
        · have h := x_f hc h
          refine x_bipush (x := (-3)) dX6_setReserve_49 (by decide) ?_
          exact x_iretH rfl dX6_setReserve_51 h
    · have h := x_t hc h
      refine x_bipush (x := (-2)) dX6_setReserve_20 (by decide) ?_
      exact x_iretH rfl dX6_setReserve_22 h
  · have h := x_t hc h
    refine x_iconst (x := (-1)) dX6_setReserve_8 (by decide) ?_
    exact x_iretH rfl dX6_setReserve_9 h
set_option maxRecDepth 100000 in
set_option maxHeartbeats 4000000 in
theorem eX6_setHeadroom {l : Launch} {w : xW} (hw : w.1.2 = true) {a1 : Int32} {a2 : Int32} {σ τ : xS} {r : Int32} (h : fX6_setHeadroom a1 a2 σ = some (r, τ)) : xEV l w yX6_setHeadroom mX6_setHeadroom [.ref (w.2.2 5 30 0 0), .int a1, .int a2] σ (some (.int r)) τ := by
  rw [fX6_setHeadroom] at h
  refine x_enter (by decide +kernel) rfl (Nat.le_of_ble_eq_true rfl) ?_
  refine x_sub (L1 := [(0, .ref (w.2.2 5 30 0 0)), (1, .int a1), (2, .int a2)]) [0, 1, 2] rfl ?_
  refine x_aload_n dX6_setHeadroom_0 rfl 0 rfl ?_
  refine x_iload_n dX6_setHeadroom_1 rfl 1 rfl ?_
  obtain ⟨z1, s1, h1, h⟩ := x_b_e h
  refine x_callV (As := [.int a1]) (st := []) (eX6_isPort hw  h1) cv_X6_40 (Nat.le_of_ble_eq_true rfl) (ok_e30 hw) rfl (Nat.le_of_ble_eq_true rfl) _ rfl dX6_setHeadroom_2 [.int z1] rfl ?_
  refine x_if_ne (tgt := 10) dX6_setHeadroom_5 rfl (fun hc => ?_) (fun hc => ?_)
  · have h := x_f hc h
    refine x_iload_n dX6_setHeadroom_10 rfl 2 rfl ?_
    refine x_iconst (x := 0) dX6_setHeadroom_11 rfl ?_
    refine x_bipush (x := 64) dX6_setHeadroom_12 rfl ?_
    obtain ⟨z2, s2, h2, h⟩ := x_b_e h
    refine x_callS (As := [.int a2, .int 0, .int 64]) (st := []) (eX6_in hw  h2) cs_X6_36 (Nat.le_of_ble_eq_true rfl) rfl (Nat.le_of_ble_eq_true rfl) _ rfl dX6_setHeadroom_14 [.int z2] rfl ?_
    refine x_if_ne (tgt := 23) dX6_setHeadroom_17 rfl (fun hc => ?_) (fun hc => ?_)
    · have h := x_f hc h
      refine x_aload_n dX6_setHeadroom_23 rfl 0 rfl ?_
      refine x_getR (d1 := 5) (K1 := 31) (p1 := 0) (r1 := 0) fl_X6_7 (ok_e30 hw) rfl dX6_setHeadroom_24 ?_
      refine x_iload_n dX6_setHeadroom_27 rfl 1 rfl ?_
      refine x_iconst (x := 1) dX6_setHeadroom_28 rfl ?_
      obtain ⟨z3, s3, h3, h⟩ := x_b_e h
      refine x_callS (As := [.int a1, .int 1]) (st := [.ref (w.2.2 5 31 0 0)]) (eX6_port hw  h3) cs_X6_44 (Nat.le_of_ble_eq_true rfl) rfl (Nat.le_of_ble_eq_true rfl) _ rfl dX6_setHeadroom_29 [.int z3, .ref (w.2.2 5 31 0 0)] rfl ?_
      obtain ⟨hg4, h⟩ := x_g_e h
      refine x_iald 6464 z3.toNatClampNeg rfl rfl rfl rfl (ok_e31 hw) hg4 dX6_setHeadroom_32 ?_
      obtain ⟨t5, ht5, h⟩ := x_let_e h
      refine x_istore_n t5 ht5 dX6_setHeadroom_33 rfl (Nat.le_of_ble_eq_true rfl) [(3, .int t5), (0, .ref (w.2.2 5 30 0 0)), (1, .int a1), (2, .int a2)] rfl ?_
      refine x_aload_n dX6_setHeadroom_34 rfl 1 rfl ?_
      refine x_iload_n dX6_setHeadroom_35 rfl 2 rfl ?_
      refine x_bipush (x := 8) dX6_setHeadroom_36 rfl ?_
      obtain ⟨z6, s6, h6, h⟩ := x_b_e h
      refine x_callV (As := [.int a1, .int 8]) (st := []) (eX6_sum hw  h6) cv_X6_59 (Nat.le_of_ble_eq_true rfl) (ok_e30 hw) rfl (Nat.le_of_ble_eq_true rfl) _ rfl dX6_setHeadroom_38 [.int z6] rfl ?_
      refine x_iload_n dX6_setHeadroom_41 rfl 3 rfl ?_
      refine x_icmp_le (tgt := 48) dX6_setHeadroom_42 rfl (fun hc => ?_) (fun hc => ?_)
      · have h := x_t hc h
        refine x_iload_n dX6_setHeadroom_48 rfl 3 rfl ?_
        refine x_iload_n dX6_setHeadroom_49 rfl 0 rfl ?_
        refine x_icmp_le (tgt := 66) dX6_setHeadroom_50 rfl (fun hc => ?_) (fun hc => ?_)
        · have h := x_t hc h
          refine x_aload_n dX6_setHeadroom_66 rfl 1 rfl ?_
          refine x_getR (d1 := 5) (K1 := 31) (p1 := 0) (r1 := 0) fl_X6_7 (ok_e30 hw) rfl dX6_setHeadroom_67 ?_
          refine x_iload_n dX6_setHeadroom_70 rfl 2 rfl ?_
          refine x_iconst (x := 1) dX6_setHeadroom_71 rfl ?_
          obtain ⟨z7, s7, h7, h⟩ := x_b_e h
          refine x_callS (As := [.int a1, .int 1]) (st := [.ref (w.2.2 5 31 0 0)]) (eX6_port hw  h7) cs_X6_44 (Nat.le_of_ble_eq_true rfl) rfl (Nat.le_of_ble_eq_true rfl) _ rfl dX6_setHeadroom_72 [.int z7, .ref (w.2.2 5 31 0 0)] rfl ?_
          refine x_iload_n dX6_setHeadroom_75 rfl 3 rfl ?_
          obtain ⟨hg8, h⟩ := x_g_e h
          obtain ⟨s9, hs9, h⟩ := x_let_e h
          refine x_iast 6464 z7.toNatClampNeg rfl s9 hs9 rfl rfl rfl (ok_e31 hw) hg8 dX6_setHeadroom_76 ?_
          refine x_iload_n dX6_setHeadroom_77 rfl 0 rfl ?_
          exact x_iretH rfl dX6_setHeadroom_78 h
        · have h := x_f hc h
          refine x_iload_n dX6_setHeadroom_53 rfl 3 rfl ?_
          refine x_iload_n dX6_setHeadroom_54 rfl 0 rfl ?_
          refine x_isub dX6_setHeadroom_55 ?_
          refine x_aload_n dX6_setHeadroom_56 rfl 1 rfl ?_
          obtain ⟨z10, s10, h10, h⟩ := x_b_e h
          refine x_callV (As := []) (st := [.int (a2 - t5)]) (eX6_free hw  h10) cv_X6_62 (Nat.le_of_ble_eq_true rfl) (ok_e30 hw) rfl (Nat.le_of_ble_eq_true rfl) _ rfl dX6_setHeadroom_57 [.int z10, .int (a2 - t5)] rfl ?_
          refine x_icmp_le (tgt := 66) dX6_setHeadroom_60 rfl (fun hc => ?_) (fun hc => ?_)
          · have h := x_t hc h
            refine x_aload_n dX6_setHeadroom_66 rfl 1 rfl ?_
            refine x_getR (d1 := 5) (K1 := 31) (p1 := 0) (r1 := 0) fl_X6_7 (ok_e30 hw) rfl dX6_setHeadroom_67 ?_
            refine x_iload_n dX6_setHeadroom_70 rfl 2 rfl ?_
            refine x_iconst (x := 1) dX6_setHeadroom_71 rfl ?_
            obtain ⟨z11, s11, h11, h⟩ := x_b_e h
            refine x_callS (As := [.int a1, .int 1]) (st := [.ref (w.2.2 5 31 0 0)]) (eX6_port hw  h11) cs_X6_44 (Nat.le_of_ble_eq_true rfl) rfl (Nat.le_of_ble_eq_true rfl) _ rfl dX6_setHeadroom_72 [.int z11, .ref (w.2.2 5 31 0 0)] rfl ?_
            refine x_iload_n dX6_setHeadroom_75 rfl 3 rfl ?_
            obtain ⟨hg12, h⟩ := x_g_e h
            obtain ⟨s13, hs13, h⟩ := x_let_e h
            refine x_iast 6464 z11.toNatClampNeg rfl s13 hs13 rfl rfl rfl (ok_e31 hw) hg12 dX6_setHeadroom_76 ?_
            refine x_iload_n dX6_setHeadroom_77 rfl 0 rfl ?_
            exact x_iretH rfl dX6_setHeadroom_78 h
          · have h := x_f hc h
            refine x_bipush (x := (-3)) dX6_setHeadroom_63 (by decide) ?_
            exact x_iretH rfl dX6_setHeadroom_65 h
      · have h := x_f hc h
        refine x_bipush (x := (-4)) dX6_setHeadroom_45 (by decide) ?_
        exact x_iretH rfl dX6_setHeadroom_47 h
    · have h := x_t hc h
      refine x_bipush (x := (-2)) dX6_setHeadroom_20 (by decide) ?_
      exact x_iretH rfl dX6_setHeadroom_22 h
  · have h := x_t hc h
    refine x_iconst (x := (-1)) dX6_setHeadroom_8 (by decide) ?_
    exact x_iretH rfl dX6_setHeadroom_9 h
set_option maxRecDepth 100000 in
set_option maxHeartbeats 4000000 in
theorem eX6_set {l : Launch} {w : xW} (hw : w.1.2 = true) {a1 : Int32} {a2 : Int32} {a3 : Int32} {a4 : Int32} {a5 : Int32} {a6 : Int32} {σ τ : xS} {r : Int32} (h : fX6_set a1 a2 a3 a4 a5 a6 σ = some (r, τ)) : xEV l w yX6_set mX6_set [.ref (w.2.2 5 30 0 0), .int a1, .int a2, .int a3, .int a4, .int a5, .int a6] σ (some (.int r)) τ := by
  rw [fX6_set] at h
  refine x_enter (by decide +kernel) rfl (Nat.le_of_ble_eq_true rfl) ?_
  refine x_sub (L1 := [(0, .ref (w.2.2 5 30 0 0)), (1, .int a1), (2, .int a2), (3, .int a3), (4, .int a4), (5, .int a5), (6, .int a6)]) [0, 1, 2, 3, 4, 5, 6] rfl ?_
  refine x_aload_n dX6_set_0 rfl 0 rfl ?_
  refine x_iload_n dX6_set_1 rfl 1 rfl ?_
  refine x_iload_n dX6_set_2 rfl 2 rfl ?_
  obtain ⟨z1, s1, h1, h⟩ := x_b_e h
  refine x_callV (As := [.int a1, .int a2]) (st := []) (eX6_isQueue hw  h1) cv_X6_75 (Nat.le_of_ble_eq_true rfl) (ok_e30 hw) rfl (Nat.le_of_ble_eq_true rfl) _ rfl dX6_set_3 [.int z1] rfl ?_
  refine x_if_ne (tgt := 11) dX6_set_6 rfl (fun hc => ?_) (fun hc => ?_)
  · have h := x_f hc h
    refine x_iload dX6_set_11 4 rfl ?_
    refine x_iload dX6_set_13 5 rfl ?_
    refine x_iload dX6_set_15 6 rfl ?_
    obtain ⟨z2, s2, h2, h⟩ := x_b_e h
    refine x_callS (As := [.int a4, .int a5, .int a6]) (st := []) (eX6_in hw  h2) cs_X6_36 (Nat.le_of_ble_eq_true rfl) rfl (Nat.le_of_ble_eq_true rfl) _ rfl dX6_set_17 [.int z2] rfl ?_
    refine x_if_ne (tgt := 26) dX6_set_20 rfl (fun hc => ?_) (fun hc => ?_)
    · have h := x_f hc h
      refine x_iconst (x := 3) dX6_set_26 rfl ?_
      refine x_iload_n dX6_set_27 rfl 1 rfl ?_
      refine x_imul dX6_set_28 ?_
      refine x_iload_n dX6_set_29 rfl 2 rfl ?_
      refine x_iadd dX6_set_30 ?_
      refine x_iload_n dX6_set_31 rfl 3 rfl ?_
      obtain ⟨z3, s3, h3, h⟩ := x_b_e h
      refine x_callS (As := [.int ((3 * a1) + a2), .int a3]) (st := []) (eX6_queue hw  h3) cs_X6_48 (Nat.le_of_ble_eq_true rfl) rfl (Nat.le_of_ble_eq_true rfl) _ rfl dX6_set_32 [.int z3] rfl ?_
      refine x_istore z3 rfl dX6_set_35 (Nat.le_of_ble_eq_true rfl) [(7, .int z3), (0, .ref (w.2.2 5 30 0 0)), (1, .int a1), (2, .int a2), (3, .int a3), (4, .int a4), (5, .int a5), (6, .int a6)] rfl ?_
      refine x_aload_n dX6_set_37 rfl 1 rfl ?_
      refine x_getR (d1 := 5) (K1 := 31) (p1 := 0) (r1 := 0) fl_X6_7 (ok_e30 hw) rfl dX6_set_38 ?_
      refine x_iload dX6_set_41 0 rfl ?_
      obtain ⟨hg4, h⟩ := x_g_e h
      refine x_iald 6464 z3.toNatClampNeg rfl rfl rfl rfl (ok_e31 hw) hg4 dX6_set_43 ?_
      obtain ⟨t5, ht5, h⟩ := x_let_e h
      refine x_istore t5 ht5 dX6_set_44 (Nat.le_of_ble_eq_true rfl) [(8, .int t5), (7, .int z3), (0, .ref (w.2.2 5 30 0 0)), (1, .int a1), (2, .int a2), (3, .int a3), (4, .int a4), (5, .int a5), (6, .int a6)] rfl ?_
      refine x_aload_n dX6_set_46 rfl 2 rfl ?_
      refine x_getR (d1 := 5) (K1 := 31) (p1 := 0) (r1 := 0) fl_X6_7 (ok_e30 hw) rfl dX6_set_47 ?_
      refine x_iload dX6_set_50 1 rfl ?_
      refine x_iload dX6_set_52 6 rfl ?_
      obtain ⟨hg6, h⟩ := x_g_e h
      obtain ⟨s7, hs7, h⟩ := x_let_e h
      refine x_iast 6464 z3.toNatClampNeg rfl s7 hs7 rfl rfl rfl (ok_e31 hw) hg6 dX6_set_54 ?_
      refine x_iload dX6_set_55 0 rfl ?_
      exact x_iretH rfl dX6_set_57 h
    · have h := x_t hc h
      refine x_bipush (x := (-2)) dX6_set_23 (by decide) ?_
      exact x_iretH rfl dX6_set_25 h
  · have h := x_t hc h
    refine x_iconst (x := (-1)) dX6_set_9 (by decide) ?_
    exact x_iretH rfl dX6_set_10 h
set_option maxRecDepth 100000 in
set_option maxHeartbeats 4000000 in
theorem eX6_setAlpha {l : Launch} {w : xW} (hw : w.1.2 = true) {a1 : Int32} {a2 : Int32} {a3 : Int32} {σ τ : xS} {r : Int32} (h : fX6_setAlpha a1 a2 a3 σ = some (r, τ)) : xEV l w yX6_setAlpha mX6_setAlpha [.ref (w.2.2 5 30 0 0), .int a1, .int a2, .int a3] σ (some (.int r)) τ := by
  rw [fX6_setAlpha] at h
  refine x_enter (by decide +kernel) rfl (Nat.le_of_ble_eq_true rfl) ?_
  refine x_sub (L1 := [(0, .ref (w.2.2 5 30 0 0)), (1, .int a1), (2, .int a2), (3, .int a3)]) [0, 1, 2, 3] rfl ?_
  refine x_aload_n dX6_setAlpha_0 rfl 0 rfl ?_
  refine x_iload_n dX6_setAlpha_1 rfl 1 rfl ?_
  refine x_iload_n dX6_setAlpha_2 rfl 2 rfl ?_
  refine x_iconst (x := 0) dX6_setAlpha_3 rfl ?_
  refine x_iload_n dX6_setAlpha_4 rfl 3 rfl ?_
  refine x_iconst (x := 0) dX6_setAlpha_5 rfl ?_
  refine x_bipush (x := 64) dX6_setAlpha_6 rfl ?_
  obtain ⟨z1, s1, h1, h⟩ := x_b_e h
  refine x_callV (As := [.int a1, .int a2, .int 0, .int a3, .int 0, .int 64]) (st := []) (eX6_set hw  h1) cv_X6_79 (Nat.le_of_ble_eq_true rfl) (ok_e30 hw) rfl (Nat.le_of_ble_eq_true rfl) _ rfl dX6_setAlpha_8 [.int z1] rfl ?_
  exact x_iretH rfl dX6_setAlpha_11 h
set_option maxRecDepth 100000 in
set_option maxHeartbeats 4000000 in
theorem eX6_setBurst {l : Launch} {w : xW} (hw : w.1.2 = true) {a1 : Int32} {a2 : Int32} {a3 : Int32} {a4 : Int32} {σ τ : xS} {r : Int32} (h : fX6_setBurst a1 a2 a3 a4 σ = some (r, τ)) : xEV l w yX6_setBurst mX6_setBurst [.ref (w.2.2 5 30 0 0), .int a1, .int a2, .int a3, .int a4] σ (some (.int r)) τ := by
  rw [fX6_setBurst] at h
  refine x_enter (by decide +kernel) rfl (Nat.le_of_ble_eq_true rfl) ?_
  refine x_sub (L1 := [(0, .ref (w.2.2 5 30 0 0)), (1, .int a1), (2, .int a2), (3, .int a3), (4, .int a4)]) [0, 1, 2, 3, 4] rfl ?_
  refine x_aload_n dX6_setBurst_0 rfl 0 rfl ?_
  refine x_iload_n dX6_setBurst_1 rfl 1 rfl ?_
  refine x_iload_n dX6_setBurst_2 rfl 2 rfl ?_
  obtain ⟨z1, s1, h1, h⟩ := x_b_e h
  refine x_callV (As := [.int a1, .int a2]) (st := []) (eX6_isQueue hw  h1) cv_X6_75 (Nat.le_of_ble_eq_true rfl) (ok_e30 hw) rfl (Nat.le_of_ble_eq_true rfl) _ rfl dX6_setBurst_3 [.int z1] rfl ?_
  refine x_if_ne (tgt := 11) dX6_setBurst_6 rfl (fun hc => ?_) (fun hc => ?_)
  · have h := x_f hc h
    refine x_iload_n dX6_setBurst_11 rfl 3 rfl ?_
    refine x_iconst (x := 0) dX6_setBurst_12 rfl ?_
    refine x_bipush (x := 32) dX6_setBurst_13 rfl ?_
    obtain ⟨z2, s2, h2, h⟩ := x_b_e h
    refine x_callS (As := [.int a3, .int 0, .int 32]) (st := []) (eX6_in hw  h2) cs_X6_36 (Nat.le_of_ble_eq_true rfl) rfl (Nat.le_of_ble_eq_true rfl) _ rfl dX6_setBurst_15 [.int z2] rfl ?_
    refine x_if_eq (tgt := 32) dX6_setBurst_18 rfl (fun hc => ?_) (fun hc => ?_)
    · have h := x_t hc h
      refine x_bipush (x := (-2)) dX6_setBurst_32 (by decide) ?_
      exact x_iretH rfl dX6_setBurst_34 h
    · have h := x_f hc h
      refine x_iload dX6_setBurst_21 4 rfl ?_
      refine x_iconst (x := 0) dX6_setBurst_23 rfl ?_
      refine x_bipush (x := 8) dX6_setBurst_24 rfl ?_
      obtain ⟨z3, s3, h3, h⟩ := x_b_e h
      refine x_callS (As := [.int a4, .int 0, .int 8]) (st := []) (eX6_in hw  h3) cs_X6_36 (Nat.le_of_ble_eq_true rfl) rfl (Nat.le_of_ble_eq_true rfl) _ rfl dX6_setBurst_26 [.int z3] rfl ?_
      refine x_if_ne (tgt := 35) dX6_setBurst_29 rfl (fun hc => ?_) (fun hc => ?_)
      · have h := x_f hc h
        refine x_iconst (x := 3) dX6_setBurst_35 rfl ?_
        refine x_iload_n dX6_setBurst_36 rfl 1 rfl ?_
        refine x_imul dX6_setBurst_37 ?_
        refine x_iload_n dX6_setBurst_38 rfl 2 rfl ?_
        refine x_iadd dX6_setBurst_39 ?_
        obtain ⟨t4, ht4, h⟩ := x_let_e h
        refine x_istore t4 ht4 dX6_setBurst_40 (Nat.le_of_ble_eq_true rfl) [(5, .int t4), (0, .ref (w.2.2 5 30 0 0)), (1, .int a1), (2, .int a2), (3, .int a3), (4, .int a4)] rfl ?_
        refine x_aload_n dX6_setBurst_42 rfl 1 rfl ?_
        refine x_getR (d1 := 5) (K1 := 31) (p1 := 0) (r1 := 0) fl_X6_7 (ok_e30 hw) rfl dX6_setBurst_43 ?_
        refine x_iload dX6_setBurst_46 0 rfl ?_
        refine x_iconst (x := 3) dX6_setBurst_48 rfl ?_
        obtain ⟨z5, s5, h5, h⟩ := x_b_e h
        refine x_callS (As := [.int t4, .int 3]) (st := [.ref (w.2.2 5 31 0 0)]) (eX6_queue hw  h5) cs_X6_48 (Nat.le_of_ble_eq_true rfl) rfl (Nat.le_of_ble_eq_true rfl) _ rfl dX6_setBurst_49 [.int z5, .ref (w.2.2 5 31 0 0)] rfl ?_
        obtain ⟨hg6, h⟩ := x_g_e h
        refine x_iald 6464 z5.toNatClampNeg rfl rfl rfl rfl (ok_e31 hw) hg6 dX6_setBurst_52 ?_
        obtain ⟨t7, ht7, h⟩ := x_let_e h
        refine x_istore t7 ht7 dX6_setBurst_53 (Nat.le_of_ble_eq_true rfl) [(6, .int t7), (5, .int t4), (0, .ref (w.2.2 5 30 0 0)), (1, .int a1), (2, .int a2), (3, .int a3), (4, .int a4)] rfl ?_
        refine x_aload_n dX6_setBurst_55 rfl 2 rfl ?_
        refine x_getR (d1 := 5) (K1 := 31) (p1 := 0) (r1 := 0) fl_X6_7 (ok_e30 hw) rfl dX6_setBurst_56 ?_
        refine x_iload dX6_setBurst_59 1 rfl ?_
        refine x_iconst (x := 1) dX6_setBurst_61 rfl ?_
        obtain ⟨z8, s8, h8, h⟩ := x_b_e h
        refine x_callS (As := [.int t4, .int 1]) (st := [.ref (w.2.2 5 31 0 0)]) (eX6_queue hw  h8) cs_X6_48 (Nat.le_of_ble_eq_true rfl) rfl (Nat.le_of_ble_eq_true rfl) _ rfl dX6_setBurst_62 [.int z8, .ref (w.2.2 5 31 0 0)] rfl ?_
        refine x_iload_n dX6_setBurst_65 rfl 5 rfl ?_
        obtain ⟨hg9, h⟩ := x_g_e h
        obtain ⟨s10, hs10, h⟩ := x_let_e h
        refine x_iast 6464 z8.toNatClampNeg rfl s10 hs10 rfl rfl rfl (ok_e31 hw) hg9 dX6_setBurst_66 ?_
        refine x_aload_n dX6_setBurst_67 rfl 2 rfl ?_
        refine x_getR (d1 := 5) (K1 := 31) (p1 := 0) (r1 := 0) fl_X6_7 (ok_e30 hw) rfl dX6_setBurst_68 ?_
        refine x_iload dX6_setBurst_71 1 rfl ?_
        refine x_iconst (x := 2) dX6_setBurst_73 rfl ?_
        obtain ⟨z11, s11, h11, h⟩ := x_b_e h
        refine x_callS (As := [.int t4, .int 2]) (st := [.ref (w.2.2 5 31 0 0)]) (eX6_queue hw  h11) cs_X6_48 (Nat.le_of_ble_eq_true rfl) rfl (Nat.le_of_ble_eq_true rfl) _ rfl dX6_setBurst_74 [.int z11, .ref (w.2.2 5 31 0 0)] rfl ?_
        refine x_iload dX6_setBurst_77 6 rfl ?_
        obtain ⟨hg12, h⟩ := x_g_e h
        obtain ⟨s13, hs13, h⟩ := x_let_e h
        refine x_iast 6464 z11.toNatClampNeg rfl s13 hs13 rfl rfl rfl (ok_e31 hw) hg12 dX6_setBurst_79 ?_
        refine x_aload_n dX6_setBurst_80 rfl 2 rfl ?_
        refine x_getR (d1 := 5) (K1 := 31) (p1 := 0) (r1 := 0) fl_X6_7 (ok_e30 hw) rfl dX6_setBurst_81 ?_
        refine x_iload dX6_setBurst_84 1 rfl ?_
        refine x_iconst (x := 3) dX6_setBurst_86 rfl ?_
        obtain ⟨z14, s14, h14, h⟩ := x_b_e h
        refine x_callS (As := [.int t4, .int 3]) (st := [.ref (w.2.2 5 31 0 0)]) (eX6_queue hw  h14) cs_X6_48 (Nat.le_of_ble_eq_true rfl) rfl (Nat.le_of_ble_eq_true rfl) _ rfl dX6_setBurst_87 [.int z14, .ref (w.2.2 5 31 0 0)] rfl ?_
        refine x_iload_n dX6_setBurst_90 rfl 5 rfl ?_
        obtain ⟨hg15, h⟩ := x_g_e h
        obtain ⟨s16, hs16, h⟩ := x_let_e h
        refine x_iast 6464 z14.toNatClampNeg rfl s16 hs16 rfl rfl rfl (ok_e31 hw) hg15 dX6_setBurst_91 ?_
        refine x_iload dX6_setBurst_92 0 rfl ?_
        exact x_iretH rfl dX6_setBurst_94 h
      · have h := x_t hc h
        refine x_bipush (x := (-2)) dX6_setBurst_32 (by decide) ?_
        exact x_iretH rfl dX6_setBurst_34 h
  · have h := x_t hc h
    refine x_iconst (x := (-1)) dX6_setBurst_9 (by decide) ?_
    exact x_iretH rfl dX6_setBurst_10 h
set_option maxRecDepth 100000 in
set_option maxHeartbeats 4000000 in
theorem TX6_setLossless_74 {l : Launch} {w : xW} (hw : w.1.2 = true) {a3 : Int32} {a4 : Int32} {a5 : Int32} {as0 : Int32} {as1 : Int32} {σ τ : xS} {r : Int32} (h : BX6_setLossless_74 a3 a4 a5 as0 as1 σ = some (r, τ)) : xAt l w mX6_setLossless 74 [(0, .ref (w.2.2 5 30 0 0)), (3, .int a3), (4, .int a4), (5, .int a5)] [.int as0, .int as1, .ref (w.2.2 5 31 0 0)] σ (some (.int r)) τ := by
  rw [BX6_setLossless_74] at h
  obtain ⟨hg7, h⟩ := x_g_e h
  obtain ⟨s8, hs8, h⟩ := x_let_e h
  refine x_iast 6464 as1.toNatClampNeg rfl s8 hs8 rfl rfl rfl (ok_e31 hw) hg7 dX6_setLossless_74 ?_
  refine x_iload_n dX6_setLossless_75 rfl 1 rfl ?_
  refine x_if_ne (tgt := 92) dX6_setLossless_76 rfl (fun hc => ?_) (fun hc => ?_)
  · have h := x_f hc h
    refine x_iload dX6_setLossless_92 3 rfl ?_
    exact x_iretH rfl dX6_setLossless_94 h
  · have h := x_t hc h
    refine x_aload_n dX6_setLossless_79 rfl 0 rfl ?_
    refine x_getR (d1 := 5) (K1 := 31) (p1 := 0) (r1 := 0) fl_X6_7 (ok_e30 hw) rfl dX6_setLossless_80 ?_
    refine x_iload dX6_setLossless_83 2 rfl ?_
    refine x_bipush (x := 10) dX6_setLossless_85 rfl ?_
    obtain ⟨z9, s9, h9, h⟩ := x_b_e h
    refine x_callS (As := [.int a4, .int 10]) (st := [.ref (w.2.2 5 31 0 0)]) (eX6_queue hw  h9) cs_X6_48 (Nat.le_of_ble_eq_true rfl) rfl (Nat.le_of_ble_eq_true rfl) _ rfl dX6_setLossless_87 [.int z9, .ref (w.2.2 5 31 0 0)] rfl ?_
    refine x_iconst (x := 0) dX6_setLossless_90 rfl ?_
    obtain ⟨hg10, h⟩ := x_g_e h
    obtain ⟨s11, hs11, h⟩ := x_let_e h
    refine x_iast 6464 z9.toNatClampNeg rfl s11 hs11 rfl rfl rfl (ok_e31 hw) hg10 dX6_setLossless_91 ?_
    refine x_iload dX6_setLossless_92 3 rfl ?_
    exact x_iretH rfl dX6_setLossless_94 h
set_option maxRecDepth 100000 in
set_option maxHeartbeats 4000000 in
theorem TX6_setLossless_40 {l : Launch} {w : xW} (hw : w.1.2 = true) {a3 : Int32} {a4 : Int32} {σ τ : xS} {r : Int32} (h : BX6_setLossless_40 a3 a4 σ = some (r, τ)) : xAt l w mX6_setLossless 40 [(0, .ref (w.2.2 5 30 0 0)), (3, .int a3), (4, .int a4)] [] σ (some (.int r)) τ := by
  rw [BX6_setLossless_40] at h
  refine x_aload_n dX6_setLossless_40 rfl 0 rfl ?_
  refine x_getR (d1 := 5) (K1 := 31) (p1 := 0) (r1 := 0) fl_X6_7 (ok_e30 hw) rfl dX6_setLossless_41 ?_
  refine x_iload dX6_setLossless_44 2 rfl ?_
  refine x_bipush (x := 9) dX6_setLossless_46 rfl ?_
  obtain ⟨z3, s3, h3, h⟩ := x_b_e h
  refine x_callS (As := [.int a4, .int 9]) (st := [.ref (w.2.2 5 31 0 0)]) (eX6_queue hw  h3) cs_X6_48 (Nat.le_of_ble_eq_true rfl) rfl (Nat.le_of_ble_eq_true rfl) _ rfl dX6_setLossless_48 [.int z3, .ref (w.2.2 5 31 0 0)] rfl ?_
  obtain ⟨hg4, h⟩ := x_g_e h
  refine x_iald 6464 z3.toNatClampNeg rfl rfl rfl rfl (ok_e31 hw) hg4 dX6_setLossless_51 ?_
  obtain ⟨t5, ht5, h⟩ := x_let_e h
  refine x_istore t5 ht5 dX6_setLossless_52 (Nat.le_of_ble_eq_true rfl) [(5, .int t5), (0, .ref (w.2.2 5 30 0 0)), (3, .int a3), (4, .int a4)] rfl ?_
  refine x_aload_n dX6_setLossless_54 rfl 1 rfl ?_
  refine x_getR (d1 := 5) (K1 := 31) (p1 := 0) (r1 := 0) fl_X6_7 (ok_e30 hw) rfl dX6_setLossless_55 ?_
  refine x_iload dX6_setLossless_58 3 rfl ?_
  refine x_bipush (x := 9) dX6_setLossless_60 rfl ?_
  obtain ⟨z6, s6, h6, h⟩ := x_b_e h
  refine x_callS (As := [.int a4, .int 9]) (st := [.ref (w.2.2 5 31 0 0)]) (eX6_queue hw  h6) cs_X6_48 (Nat.le_of_ble_eq_true rfl) rfl (Nat.le_of_ble_eq_true rfl) _ rfl dX6_setLossless_62 [.int z6, .ref (w.2.2 5 31 0 0)] rfl ?_
  refine x_iload_n dX6_setLossless_65 rfl 2 rfl ?_
  refine x_if_eq (tgt := 73) dX6_setLossless_66 rfl (fun hc => ?_) (fun hc => ?_)
  · have h := x_t hc h
    refine x_iconst (x := 0) dX6_setLossless_73 rfl ?_
    refine x_sub (L1 := [(0, .ref (w.2.2 5 30 0 0)), (3, .int a3), (4, .int a4), (5, .int t5)]) [1, 2, 3, 0] rfl ?_
    exact TX6_setLossless_74 hw  h
  · have h := x_f hc h
    refine x_iconst (x := 1) dX6_setLossless_69 rfl ?_
    refine x_goto (tgt := 74) dX6_setLossless_70 rfl ?_
    refine x_sub (L1 := [(0, .ref (w.2.2 5 30 0 0)), (3, .int a3), (4, .int a4), (5, .int t5)]) [1, 2, 3, 0] rfl ?_
    exact TX6_setLossless_74 hw  h
set_option maxRecDepth 100000 in
set_option maxHeartbeats 4000000 in
theorem eX6_setLossless {l : Launch} {w : xW} (hw : w.1.2 = true) {a1 : Int32} {a2 : Int32} {a3 : Int32} {σ τ : xS} {r : Int32} (h : fX6_setLossless a1 a2 a3 σ = some (r, τ)) : xEV l w yX6_setLossless mX6_setLossless [.ref (w.2.2 5 30 0 0), .int a1, .int a2, .int a3] σ (some (.int r)) τ := by
  rw [fX6_setLossless] at h
  refine x_enter (by decide +kernel) rfl (Nat.le_of_ble_eq_true rfl) ?_
  refine x_sub (L1 := [(0, .ref (w.2.2 5 30 0 0)), (1, .int a1), (2, .int a2), (3, .int a3)]) [0, 1, 2, 3] rfl ?_
  refine x_aload_n dX6_setLossless_0 rfl 0 rfl ?_
  refine x_iload_n dX6_setLossless_1 rfl 1 rfl ?_
  refine x_iload_n dX6_setLossless_2 rfl 2 rfl ?_
  obtain ⟨z1, s1, h1, h⟩ := x_b_e h
  refine x_callV (As := [.int a1, .int a2]) (st := []) (eX6_isQueue hw  h1) cv_X6_75 (Nat.le_of_ble_eq_true rfl) (ok_e30 hw) rfl (Nat.le_of_ble_eq_true rfl) _ rfl dX6_setLossless_3 [.int z1] rfl ?_
  refine x_if_ne (tgt := 11) dX6_setLossless_6 rfl (fun hc => ?_) (fun hc => ?_)
  · have h := x_f hc h
    refine x_iconst (x := 3) dX6_setLossless_11 rfl ?_
    refine x_iload_n dX6_setLossless_12 rfl 1 rfl ?_
    refine x_imul dX6_setLossless_13 ?_
    refine x_iload_n dX6_setLossless_14 rfl 2 rfl ?_
    refine x_iadd dX6_setLossless_15 ?_
    obtain ⟨t2, ht2, h⟩ := x_let_e h
    refine x_istore t2 ht2 dX6_setLossless_16 (Nat.le_of_ble_eq_true rfl) [(4, .int t2), (0, .ref (w.2.2 5 30 0 0)), (1, .int a1), (2, .int a2), (3, .int a3)] rfl ?_
    refine x_iload_n dX6_setLossless_18 rfl 4 rfl ?_
    refine x_if_ne (tgt := 40) dX6_setLossless_19 rfl (fun hc => ?_) (fun hc => ?_)
    · have h := x_f hc h
      refine x_sub (L1 := [(0, .ref (w.2.2 5 30 0 0)), (3, .int a3), (4, .int t2)]) [1, 4, 0] rfl ?_
      exact TX6_setLossless_40 hw  h
    · have h := x_t hc h
      refine x_aload_n dX6_setLossless_22 rfl 1 rfl ?_
      refine x_getR (d1 := 5) (K1 := 31) (p1 := 0) (r1 := 0) fl_X6_7 (ok_e30 hw) rfl dX6_setLossless_23 ?_
      refine x_iload dX6_setLossless_26 0 rfl ?_
      refine x_bipush (x := 8) dX6_setLossless_28 rfl ?_
      obtain ⟨z12, s12, h12, h⟩ := x_b_e h
      refine x_callS (As := [.int t2, .int 8]) (st := [.ref (w.2.2 5 31 0 0)]) (eX6_queue hw  h12) cs_X6_48 (Nat.le_of_ble_eq_true rfl) rfl (Nat.le_of_ble_eq_true rfl) _ rfl dX6_setLossless_30 [.int z12, .ref (w.2.2 5 31 0 0)] rfl ?_
      obtain ⟨hg13, h⟩ := x_g_e h
      refine x_iald 6464 z12.toNatClampNeg rfl rfl rfl rfl (ok_e31 hw) hg13 dX6_setLossless_33 ?_
      refine x_if_le (tgt := 40) dX6_setLossless_34 rfl (fun hc => ?_) (fun hc => ?_)
      · have h := x_t hc h
        refine x_sub (L1 := [(0, .ref (w.2.2 5 30 0 0)), (3, .int a3), (4, .int t2)]) [1, 4, 0] rfl ?_
        exact TX6_setLossless_40 hw  h
      · have h := x_f hc h
        refine x_bipush (x := (-4)) dX6_setLossless_37 (by decide) ?_
        exact x_iretH rfl dX6_setLossless_39 h
  · have h := x_t hc h
    refine x_iconst (x := (-1)) dX6_setLossless_9 (by decide) ?_
    exact x_iretH rfl dX6_setLossless_10 h
set_option maxRecDepth 100000 in
set_option maxHeartbeats 4000000 in
theorem eX6_setScheduler {l : Launch} {w : xW} (hw : w.1.2 = true) {a1 : Int32} {a2 : Int32} {a3 : Int32} {σ τ : xS} {r : Int32} (h : fX6_setScheduler a1 a2 a3 σ = some (r, τ)) : xEV l w yX6_setScheduler mX6_setScheduler [.ref (w.2.2 5 30 0 0), .int a1, .int a2, .int a3] σ (some (.int r)) τ := by
  rw [fX6_setScheduler] at h
  refine x_enter (by decide +kernel) rfl (Nat.le_of_ble_eq_true rfl) ?_
  refine x_sub (L1 := [(0, .ref (w.2.2 5 30 0 0)), (1, .int a1), (2, .int a2), (3, .int a3)]) [0, 1, 2, 3] rfl ?_
  refine x_aload_n dX6_setScheduler_0 rfl 0 rfl ?_
  refine x_iload_n dX6_setScheduler_1 rfl 1 rfl ?_
  obtain ⟨z1, s1, h1, h⟩ := x_b_e h
  refine x_callV (As := [.int a1]) (st := []) (eX6_isPort hw  h1) cv_X6_40 (Nat.le_of_ble_eq_true rfl) (ok_e30 hw) rfl (Nat.le_of_ble_eq_true rfl) _ rfl dX6_setScheduler_2 [.int z1] rfl ?_
  refine x_if_ne (tgt := 10) dX6_setScheduler_5 rfl (fun hc => ?_) (fun hc => ?_)
  · have h := x_f hc h
    refine x_iload_n dX6_setScheduler_10 rfl 3 rfl ?_
    refine x_iconst (x := 0) dX6_setScheduler_11 rfl ?_
    refine x_bipush (x := 16) dX6_setScheduler_12 rfl ?_
    obtain ⟨z2, s2, h2, h⟩ := x_b_e h
    refine x_callS (As := [.int a3, .int 0, .int 16]) (st := []) (eX6_in hw  h2) cs_X6_36 (Nat.le_of_ble_eq_true rfl) rfl (Nat.le_of_ble_eq_true rfl) _ rfl dX6_setScheduler_14 [.int z2] rfl ?_
    refine x_if_ne (tgt := 23) dX6_setScheduler_17 rfl (fun hc => ?_) (fun hc => ?_)
    · have h := x_f hc h
      refine x_aload_n dX6_setScheduler_23 rfl 0 rfl ?_
      refine x_getR (d1 := 5) (K1 := 31) (p1 := 0) (r1 := 0) fl_X6_7 (ok_e30 hw) rfl dX6_setScheduler_24 ?_
      refine x_iload_n dX6_setScheduler_27 rfl 1 rfl ?_
      refine x_iconst (x := 5) dX6_setScheduler_28 rfl ?_
      obtain ⟨z3, s3, h3, h⟩ := x_b_e h
      refine x_callS (As := [.int a1, .int 5]) (st := [.ref (w.2.2 5 31 0 0)]) (eX6_port hw  h3) cs_X6_44 (Nat.le_of_ble_eq_true rfl) rfl (Nat.le_of_ble_eq_true rfl) _ rfl dX6_setScheduler_29 [.int z3, .ref (w.2.2 5 31 0 0)] rfl ?_
      obtain ⟨hg4, h⟩ := x_g_e h
      refine x_iald 6464 z3.toNatClampNeg rfl rfl rfl rfl (ok_e31 hw) hg4 dX6_setScheduler_32 ?_
      obtain ⟨t5, ht5, h⟩ := x_let_e h
      refine x_istore t5 ht5 dX6_setScheduler_33 (Nat.le_of_ble_eq_true rfl) [(4, .int t5), (0, .ref (w.2.2 5 30 0 0)), (1, .int a1), (2, .int a2), (3, .int a3)] rfl ?_
      refine x_aload_n dX6_setScheduler_35 rfl 1 rfl ?_
      refine x_getR (d1 := 5) (K1 := 31) (p1 := 0) (r1 := 0) fl_X6_7 (ok_e30 hw) rfl dX6_setScheduler_36 ?_
      refine x_iload_n dX6_setScheduler_39 rfl 2 rfl ?_
      refine x_iconst (x := 5) dX6_setScheduler_40 rfl ?_
      obtain ⟨z6, s6, h6, h⟩ := x_b_e h
      refine x_callS (As := [.int a1, .int 5]) (st := [.ref (w.2.2 5 31 0 0)]) (eX6_port hw  h6) cs_X6_44 (Nat.le_of_ble_eq_true rfl) rfl (Nat.le_of_ble_eq_true rfl) _ rfl dX6_setScheduler_41 [.int z6, .ref (w.2.2 5 31 0 0)] rfl ?_
      refine x_iload_n dX6_setScheduler_44 rfl 4 rfl ?_
      obtain ⟨hg7, h⟩ := x_g_e h
      obtain ⟨s8, hs8, h⟩ := x_let_e h
      refine x_iast 6464 z6.toNatClampNeg rfl s8 hs8 rfl rfl rfl (ok_e31 hw) hg7 dX6_setScheduler_45 ?_
      refine x_aload_n dX6_setScheduler_46 rfl 1 rfl ?_
      refine x_getR (d1 := 5) (K1 := 31) (p1 := 0) (r1 := 0) fl_X6_7 (ok_e30 hw) rfl dX6_setScheduler_47 ?_
      refine x_iload_n dX6_setScheduler_50 rfl 2 rfl ?_
      refine x_bipush (x := 8) dX6_setScheduler_51 rfl ?_
      obtain ⟨z9, s9, h9, h⟩ := x_b_e h
      refine x_callS (As := [.int a1, .int 8]) (st := [.ref (w.2.2 5 31 0 0)]) (eX6_port hw  h9) cs_X6_44 (Nat.le_of_ble_eq_true rfl) rfl (Nat.le_of_ble_eq_true rfl) _ rfl dX6_setScheduler_53 [.int z9, .ref (w.2.2 5 31 0 0)] rfl ?_
      refine x_iload_n dX6_setScheduler_56 rfl 3 rfl ?_
      refine x_if_eq (tgt := 64) dX6_setScheduler_57 rfl (fun hc => ?_) (fun hc => ?_)
      · have h := x_t hc h
        refine x_iconst (x := 0) dX6_setScheduler_64 rfl ?_
        obtain ⟨hg10, h⟩ := x_g_e h
        obtain ⟨s11, hs11, h⟩ := x_let_e h
        refine x_iast 6464 z9.toNatClampNeg rfl s11 hs11 rfl rfl rfl (ok_e31 hw) hg10 dX6_setScheduler_65 ?_
        refine x_iload dX6_setScheduler_66 0 rfl ?_
        exact x_iretH rfl dX6_setScheduler_68 h
      · have h := x_f hc h
        refine x_iconst (x := 1) dX6_setScheduler_60 rfl ?_
        refine x_goto (tgt := 65) dX6_setScheduler_61 rfl ?_
        obtain ⟨hg12, h⟩ := x_g_e h
        obtain ⟨s13, hs13, h⟩ := x_let_e h
        refine x_iast 6464 z9.toNatClampNeg rfl s13 hs13 rfl rfl rfl (ok_e31 hw) hg12 dX6_setScheduler_65 ?_
        refine x_iload dX6_setScheduler_66 0 rfl ?_
        exact x_iretH rfl dX6_setScheduler_68 h
    · have h := x_t hc h
      refine x_bipush (x := (-2)) dX6_setScheduler_20 (by decide) ?_
      exact x_iretH rfl dX6_setScheduler_22 h
  · have h := x_t hc h
    refine x_iconst (x := (-1)) dX6_setScheduler_8 (by decide) ?_
    exact x_iretH rfl dX6_setScheduler_9 h
set_option maxRecDepth 100000 in
set_option maxHeartbeats 4000000 in
theorem eX6_setQuantum {l : Launch} {w : xW} (hw : w.1.2 = true) {a1 : Int32} {a2 : Int32} {a3 : Int32} {σ τ : xS} {r : Int32} (h : fX6_setQuantum a1 a2 a3 σ = some (r, τ)) : xEV l w yX6_setQuantum mX6_setQuantum [.ref (w.2.2 5 30 0 0), .int a1, .int a2, .int a3] σ (some (.int r)) τ := by
  rw [fX6_setQuantum] at h
  refine x_enter (by decide +kernel) rfl (Nat.le_of_ble_eq_true rfl) ?_
  refine x_sub (L1 := [(0, .ref (w.2.2 5 30 0 0)), (1, .int a1), (2, .int a2), (3, .int a3)]) [0, 1, 2, 3] rfl ?_
  refine x_aload_n dX6_setQuantum_0 rfl 0 rfl ?_
  refine x_iload_n dX6_setQuantum_1 rfl 1 rfl ?_
  refine x_iload_n dX6_setQuantum_2 rfl 2 rfl ?_
  refine x_iconst (x := 4) dX6_setQuantum_3 rfl ?_
  refine x_iload_n dX6_setQuantum_4 rfl 3 rfl ?_
  refine x_iconst (x := 1) dX6_setQuantum_5 rfl ?_
  refine x_bipush (x := 16) dX6_setQuantum_6 rfl ?_
  obtain ⟨z1, s1, h1, h⟩ := x_b_e h
  refine x_callV (As := [.int a1, .int a2, .int 4, .int a3, .int 1, .int 16]) (st := []) (eX6_set hw  h1) cv_X6_79 (Nat.le_of_ble_eq_true rfl) (ok_e30 hw) rfl (Nat.le_of_ble_eq_true rfl) _ rfl dX6_setQuantum_8 [.int z1] rfl ?_
  exact x_iretH rfl dX6_setQuantum_11 h
set_option maxRecDepth 100000 in
set_option maxHeartbeats 4000000 in
theorem eX6_setPushOut {l : Launch} {w : xW} (hw : w.1.2 = true) {a1 : Int32} {σ τ : xS} {r : Int32} (h : fX6_setPushOut a1 σ = some (r, τ)) : xEV l w yX6_setPushOut mX6_setPushOut [.ref (w.2.2 5 30 0 0), .int a1] σ (some (.int r)) τ := by
  rw [fX6_setPushOut] at h
  refine x_enter (by decide +kernel) rfl (Nat.le_of_ble_eq_true rfl) ?_
  refine x_sub (L1 := [(0, .ref (w.2.2 5 30 0 0)), (1, .int a1)]) [0, 1] rfl ?_
  refine x_aload_n dX6_setPushOut_0 rfl 0 rfl ?_
  refine x_getR (d1 := 5) (K1 := 31) (p1 := 0) (r1 := 0) fl_X6_7 (ok_e30 hw) rfl dX6_setPushOut_1 ?_
  refine x_iconst (x := 2) dX6_setPushOut_4 rfl ?_
  refine x_iald 6464 2 rfl rfl rfl rfl (ok_e31 hw) rfl dX6_setPushOut_5 ?_
  obtain ⟨t1, ht1, h⟩ := x_let_e h
  refine x_istore_n t1 ht1 dX6_setPushOut_6 rfl (Nat.le_of_ble_eq_true rfl) [(2, .int t1), (0, .ref (w.2.2 5 30 0 0)), (1, .int a1)] rfl ?_
  refine x_aload_n dX6_setPushOut_7 rfl 1 rfl ?_
  refine x_getR (d1 := 5) (K1 := 31) (p1 := 0) (r1 := 0) fl_X6_7 (ok_e30 hw) rfl dX6_setPushOut_8 ?_
  refine x_iconst (x := 2) dX6_setPushOut_11 rfl ?_
  refine x_iload_n dX6_setPushOut_12 rfl 2 rfl ?_
  refine x_if_eq (tgt := 20) dX6_setPushOut_13 rfl (fun hc => ?_) (fun hc => ?_)
  · have h := x_t hc h
    refine x_iconst (x := 0) dX6_setPushOut_20 rfl ?_
    obtain ⟨s2, hs2, h⟩ := x_let_e h
    refine x_iast 6464 2 rfl s2 hs2 rfl rfl rfl (ok_e31 hw) rfl dX6_setPushOut_21 ?_
    refine x_iload_n dX6_setPushOut_22 rfl 0 rfl ?_
    exact x_iretH rfl dX6_setPushOut_23 h
  · have h := x_f hc h
    refine x_iconst (x := 1) dX6_setPushOut_16 rfl ?_
    refine x_goto (tgt := 21) dX6_setPushOut_17 rfl ?_
    obtain ⟨s3, hs3, h⟩ := x_let_e h
    refine x_iast 6464 2 rfl s3 hs3 rfl rfl rfl (ok_e31 hw) rfl dX6_setPushOut_21 ?_
    refine x_iload_n dX6_setPushOut_22 rfl 0 rfl ?_
    exact x_iretH rfl dX6_setPushOut_23 h
set_option maxRecDepth 100000 in
set_option maxHeartbeats 4000000 in
theorem eX6_drops {l : Launch} {w : xW} (hw : w.1.2 = true) {a1 : Int32} {σ τ : xS} {r : Unit} (h : fX6_drops a1 σ = some (r, τ)) : xEV l w yX6_drops mX6_drops [.ref (w.2.2 5 30 0 0), .int a1] σ none τ := by
  rw [fX6_drops] at h
  refine x_enter (by decide +kernel) rfl (Nat.le_of_ble_eq_true rfl) ?_
  refine x_sub (L1 := [(0, .ref (w.2.2 5 30 0 0)), (1, .int a1)]) [0, 1] rfl ?_
  refine x_aload_n dX6_drops_0 rfl 0 rfl ?_
  refine x_getR (d1 := 5) (K1 := 31) (p1 := 0) (r1 := 0) fl_X6_7 (ok_e30 hw) rfl dX6_drops_1 ?_
  refine x_iload_n dX6_drops_4 rfl 1 rfl ?_
  refine x_iconst (x := 2) dX6_drops_5 rfl ?_
  obtain ⟨z1, s1, h1, h⟩ := x_b_e h
  refine x_callS (As := [.int a1, .int 2]) (st := [.ref (w.2.2 5 31 0 0)]) (eX6_port hw  h1) cs_X6_44 (Nat.le_of_ble_eq_true rfl) rfl (Nat.le_of_ble_eq_true rfl) _ rfl dX6_drops_6 [.int z1, .ref (w.2.2 5 31 0 0)] rfl ?_
  refine x_iconst (x := 0) dX6_drops_9 rfl ?_
  obtain ⟨hg2, h⟩ := x_g_e h
  obtain ⟨s3, hs3, h⟩ := x_let_e h
  refine x_iast 6464 z1.toNatClampNeg rfl s3 hs3 rfl rfl rfl (ok_e31 hw) hg2 dX6_drops_10 ?_
  refine x_aload_n dX6_drops_11 rfl 0 rfl ?_
  refine x_getR (d1 := 5) (K1 := 31) (p1 := 0) (r1 := 0) fl_X6_7 (ok_e30 hw) rfl dX6_drops_12 ?_
  refine x_iload_n dX6_drops_15 rfl 1 rfl ?_
  refine x_iconst (x := 3) dX6_drops_16 rfl ?_
  obtain ⟨z4, s4, h4, h⟩ := x_b_e h
  refine x_callS (As := [.int a1, .int 3]) (st := [.ref (w.2.2 5 31 0 0)]) (eX6_port hw  h4) cs_X6_44 (Nat.le_of_ble_eq_true rfl) rfl (Nat.le_of_ble_eq_true rfl) _ rfl dX6_drops_17 [.int z4, .ref (w.2.2 5 31 0 0)] rfl ?_
  refine x_iconst (x := 0) dX6_drops_20 rfl ?_
  obtain ⟨hg5, h⟩ := x_g_e h
  obtain ⟨s6, hs6, h⟩ := x_let_e h
  refine x_iast 6464 z4.toNatClampNeg rfl s6 hs6 rfl rfl rfl (ok_e31 hw) hg5 dX6_drops_21 ?_
  refine x_aload_n dX6_drops_22 rfl 0 rfl ?_
  refine x_iload_n dX6_drops_23 rfl 1 rfl ?_
  obtain ⟨z7, s7, h7, h⟩ := x_b_e h
  refine x_callV (As := [.int a1]) (st := []) (eX6_converts hw  h7) cv_X6_71 (Nat.le_of_ble_eq_true rfl) (ok_e30 hw) rfl (Nat.le_of_ble_eq_true rfl) _ rfl dX6_drops_24 [] rfl ?_
  exact x_vretH rfl dX6_drops_27 h
set_option maxRecDepth 100000 in
set_option maxHeartbeats 4000000 in
theorem TX6_keeps_2 {l : Launch} {w : xW} (hw : w.1.2 = true) {τ : xS} {r : Unit} : ∀ (n : Nat) (a1 : Int32) (σ : xS), BX6_keeps_2 n a1 σ = some (r, τ) → xAt l w mX6_keeps 2 [(0, .ref (w.2.2 5 30 0 0)), (1, .int a1)] [] σ none τ := by
  intro n
  induction n with
  | zero => intro a1 σ h; cases h
  | succ n ih =>
    intro a1 σ h
    rw [BX6_keeps_2] at h
    refine x_iload_n dX6_keeps_2 rfl 1 rfl ?_
    refine x_sipush (x := 6464) dX6_keeps_3 rfl ?_
    refine x_icmp_ge (tgt := 27) dX6_keeps_6 rfl (fun hc => ?_) (fun hc => ?_)
    · have h := x_t hc h
      exact x_vretH rfl dX6_keeps_27 h
    · have h := x_f hc h
      refine x_aload_n dX6_keeps_9 rfl 0 rfl ?_
      refine x_getR (d1 := 5) (K1 := 32) (p1 := 0) (r1 := 0) fl_X6_13 (ok_e30 hw) rfl dX6_keeps_10 ?_
      refine x_iload_n dX6_keeps_13 rfl 1 rfl ?_
      refine x_aload_n dX6_keeps_14 rfl 0 rfl ?_
      refine x_getR (d1 := 5) (K1 := 31) (p1 := 0) (r1 := 0) fl_X6_7 (ok_e30 hw) rfl dX6_keeps_15 ?_
      refine x_iload_n dX6_keeps_18 rfl 1 rfl ?_
      obtain ⟨hg1, h⟩ := x_g_e h
      refine x_iald 6464 a1.toNatClampNeg rfl rfl rfl rfl (ok_e31 hw) hg1 dX6_keeps_19 ?_
      obtain ⟨hg2, h⟩ := x_g_e h
      obtain ⟨s3, hs3, h⟩ := x_let_e h
      refine x_iast 6464 a1.toNatClampNeg rfl s3 hs3 rfl rfl rfl (ok_e32 hw) hg2 dX6_keeps_20 ?_
      obtain ⟨t4, ht4, h⟩ := x_let_e h
      refine x_iinc t4 1 rfl ht4 dX6_keeps_21 1 rfl (Nat.le_of_ble_eq_true rfl) [(1, .int t4), (0, .ref (w.2.2 5 30 0 0))] rfl ?_
      refine x_goto (tgt := 2) dX6_keeps_24 rfl ?_
      refine x_sub (L1 := [(0, .ref (w.2.2 5 30 0 0)), (1, .int t4)]) [1, 0] rfl ?_
      exact ih _ _ h
set_option maxRecDepth 100000 in
set_option maxHeartbeats 4000000 in
theorem eX6_keeps {l : Launch} {w : xW} (hw : w.1.2 = true) {σ τ : xS} {r : Unit} (h : fX6_keeps σ = some (r, τ)) : xEV l w yX6_keeps mX6_keeps [.ref (w.2.2 5 30 0 0)] σ none τ := by
  rw [fX6_keeps] at h
  refine x_enter (by decide +kernel) rfl (Nat.le_of_ble_eq_true rfl) ?_
  refine x_sub (L1 := [(0, .ref (w.2.2 5 30 0 0))]) [0] rfl ?_
  refine x_iconst (x := 0) dX6_keeps_0 rfl ?_
  refine x_istore_n 0 rfl dX6_keeps_1 rfl (Nat.le_of_ble_eq_true rfl) [(1, .int 0), (0, .ref (w.2.2 5 30 0 0))] rfl ?_
  refine x_sub (L1 := [(0, .ref (w.2.2 5 30 0 0)), (1, .int 0)]) [1, 0] rfl ?_
  exact TX6_keeps_2 hw _ _ _ h
set_option maxRecDepth 100000 in
set_option maxHeartbeats 4000000 in
theorem TX6_brings_2 {l : Launch} {w : xW} (hw : w.1.2 = true) {τ : xS} {r : Unit} : ∀ (n : Nat) (a1 : Int32) (σ : xS), BX6_brings_2 n a1 σ = some (r, τ) → xAt l w mX6_brings 2 [(0, .ref (w.2.2 5 30 0 0)), (1, .int a1)] [] σ none τ := by
  intro n
  induction n with
  | zero => intro a1 σ h; cases h
  | succ n ih =>
    intro a1 σ h
    rw [BX6_brings_2] at h
    refine x_iload_n dX6_brings_2 rfl 1 rfl ?_
    refine x_sipush (x := 6464) dX6_brings_3 rfl ?_
    refine x_icmp_ge (tgt := 27) dX6_brings_6 rfl (fun hc => ?_) (fun hc => ?_)
    · have h := x_t hc h
      exact x_vretH rfl dX6_brings_27 h
    · have h := x_f hc h
      refine x_aload_n dX6_brings_9 rfl 0 rfl ?_
      refine x_getR (d1 := 5) (K1 := 31) (p1 := 0) (r1 := 0) fl_X6_7 (ok_e30 hw) rfl dX6_brings_10 ?_
      refine x_iload_n dX6_brings_13 rfl 1 rfl ?_
      refine x_aload_n dX6_brings_14 rfl 0 rfl ?_
      refine x_getR (d1 := 5) (K1 := 32) (p1 := 0) (r1 := 0) fl_X6_13 (ok_e30 hw) rfl dX6_brings_15 ?_
      refine x_iload_n dX6_brings_18 rfl 1 rfl ?_
      obtain ⟨hg1, h⟩ := x_g_e h
      refine x_iald 6464 a1.toNatClampNeg rfl rfl rfl rfl (ok_e32 hw) hg1 dX6_brings_19 ?_
      obtain ⟨hg2, h⟩ := x_g_e h
      obtain ⟨s3, hs3, h⟩ := x_let_e h
      refine x_iast 6464 a1.toNatClampNeg rfl s3 hs3 rfl rfl rfl (ok_e31 hw) hg2 dX6_brings_20 ?_
      obtain ⟨t4, ht4, h⟩ := x_let_e h
      refine x_iinc t4 1 rfl ht4 dX6_brings_21 1 rfl (Nat.le_of_ble_eq_true rfl) [(1, .int t4), (0, .ref (w.2.2 5 30 0 0))] rfl ?_
      refine x_goto (tgt := 2) dX6_brings_24 rfl ?_
      refine x_sub (L1 := [(0, .ref (w.2.2 5 30 0 0)), (1, .int t4)]) [1, 0] rfl ?_
      exact ih _ _ h
set_option maxRecDepth 100000 in
set_option maxHeartbeats 4000000 in
theorem eX6_brings {l : Launch} {w : xW} (hw : w.1.2 = true) {σ τ : xS} {r : Unit} (h : fX6_brings σ = some (r, τ)) : xEV l w yX6_brings mX6_brings [.ref (w.2.2 5 30 0 0)] σ none τ := by
  rw [fX6_brings] at h
  refine x_enter (by decide +kernel) rfl (Nat.le_of_ble_eq_true rfl) ?_
  refine x_sub (L1 := [(0, .ref (w.2.2 5 30 0 0))]) [0] rfl ?_
  refine x_iconst (x := 0) dX6_brings_0 rfl ?_
  refine x_istore_n 0 rfl dX6_brings_1 rfl (Nat.le_of_ble_eq_true rfl) [(1, .int 0), (0, .ref (w.2.2 5 30 0 0))] rfl ?_
  refine x_sub (L1 := [(0, .ref (w.2.2 5 30 0 0)), (1, .int 0)]) [1, 0] rfl ?_
  exact TX6_brings_2 hw _ _ _ h
