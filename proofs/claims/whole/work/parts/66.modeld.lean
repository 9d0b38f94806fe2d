set_option maxRecDepth 100000 in
set_option maxHeartbeats 4000000 in
theorem TX6_sends_337 {l : Launch} {w : xW} (hw : w.1.2 = true) {a1 : Int32} {a2 : Int32} {a4 : Int32} {as0 : Int32} {k37 : Int32 → Int32 → xS → Option (Int32 × xS)} {σ τ : xS} {r : Int32} (hk37 : ∀ (a2 : Int32) (a3 : Int32) (σ1 : xS), k37 a2 a3 σ1 = some (r, τ) → xAt l w mX6_sends 37 [(0, .ref (w.2.2 5 30 0 0)), (1, .int a1), (2, .int a2), (3, .int a3)] [] σ1 (some (.int r)) τ) (h : BX6_sends_337 a1 a2 a4 as0 k37 σ = some (r, τ)) : xAt l w mX6_sends 337 [(0, .ref (w.2.2 5 30 0 0)), (1, .int a1), (2, .int a2), (4, .int a4)] [.int as0] σ (some (.int r)) τ := by
  rw [BX6_sends_337] at h
  refine x_istore_n as0 rfl dX6_sends_337 rfl (Nat.le_of_ble_eq_true rfl) [(3, .int as0), (0, .ref (w.2.2 5 30 0 0)), (1, .int a1), (2, .int a2), (4, .int a4)] rfl ?_
  refine x_iload_n dX6_sends_338 rfl 0 rfl ?_
  refine x_if_eq (tgt := 358) dX6_sends_339 rfl (fun hc => ?_) (fun hc => ?_)
  · have h := x_t hc h
    refine x_goto (tgt := 37) dX6_sends_358 rfl ?_
    refine x_sub (L1 := [(0, .ref (w.2.2 5 30 0 0)), (1, .int a1), (2, .int a2), (3, .int as0)]) [1, 2, 3, 0] rfl ?_
    exact hk37 _ _ _ h
  · have h := x_f hc h
    refine x_aload_n dX6_sends_342 rfl 1 rfl ?_
    refine x_iload_n dX6_sends_343 rfl 2 rfl ?_
    refine x_iload dX6_sends_344 4 rfl ?_
    obtain ⟨z17, s17, h17, h⟩ := x_b_e h
    refine x_callV (As := [.int a1, .int a4]) (st := []) (eX6_departs hw  h17) cv_X6_160 (Nat.le_of_ble_eq_true rfl) (ok_e30 hw) rfl (Nat.le_of_ble_eq_true rfl) _ rfl dX6_sends_346 [] rfl ?_
    refine x_aload_n dX6_sends_349 rfl 1 rfl ?_
    refine x_iload dX6_sends_350 4 rfl ?_
    obtain ⟨z18, s18, h18, h⟩ := x_b_e h
    refine x_callV (As := [.int a4]) (st := []) (eX6_settles hw  h18) cv_X6_135 (Nat.le_of_ble_eq_true rfl) (ok_e30 hw) rfl (Nat.le_of_ble_eq_true rfl) _ rfl dX6_sends_352 [] rfl ?_
    obtain ⟨t19, ht19, h⟩ := x_let_e h
    refine x_iinc t19 1 rfl ht19 dX6_sends_355 3 rfl (Nat.le_of_ble_eq_true rfl) [(2, .int t19), (3, .int as0), (0, .ref (w.2.2 5 30 0 0)), (1, .int a1), (4, .int a4)] rfl ?_
    refine x_goto (tgt := 37) dX6_sends_358 rfl ?_
    refine x_sub (L1 := [(0, .ref (w.2.2 5 30 0 0)), (1, .int a1), (2, .int t19), (3, .int as0)]) [2, 3, 0, 1] rfl ?_
    exact hk37 _ _ _ h
set_option maxRecDepth 100000 in
set_option maxHeartbeats 4000000 in
theorem TX6_sends_292 {l : Launch} {w : xW} (hw : w.1.2 = true) {a1 : Int32} {a2 : Int32} {k37 : Int32 → Int32 → xS → Option (Int32 × xS)} {τ : xS} {r : Int32} (hk37 : ∀ (a2 : Int32) (a3 : Int32) (σ1 : xS), k37 a2 a3 σ1 = some (r, τ) → xAt l w mX6_sends 37 [(0, .ref (w.2.2 5 30 0 0)), (1, .int a1), (2, .int a2), (3, .int a3)] [] σ1 (some (.int r)) τ) : ∀ (n : Nat) (a4 : Int32) (σ : xS), BX6_sends_292 a1 a2 k37 n a4 σ = some (r, τ) → xAt l w mX6_sends 292 [(0, .ref (w.2.2 5 30 0 0)), (1, .int a1), (2, .int a2), (4, .int a4)] [] σ (some (.int r)) τ := by
  intro n
  induction n with
  | zero => intro a4 σ h; cases h
  | succ n ih =>
    intro a4 σ h
    rw [BX6_sends_292] at h
    refine x_aload_n dX6_sends_292 rfl 0 rfl ?_
    refine x_getR (d1 := 5) (K1 := 31) (p1 := 0) (r1 := 0) fl_X6_7 (ok_e30 hw) rfl dX6_sends_293 ?_
    refine x_iload dX6_sends_296 3 rfl ?_
    refine x_bipush (x := 12) dX6_sends_298 rfl ?_
    obtain ⟨z12, s12, h12, h⟩ := x_b_e h
    refine x_callS (As := [.int a4, .int 12]) (st := [.ref (w.2.2 5 31 0 0)]) (eX6_queue hw  h12) cs_X6_48 (Nat.le_of_ble_eq_true rfl) rfl (Nat.le_of_ble_eq_true rfl) _ rfl dX6_sends_300 [.int z12, .ref (w.2.2 5 31 0 0)] rfl ?_
    obtain ⟨hg13, h⟩ := x_g_e h
    refine x_iald 6464 z12.toNatClampNeg rfl rfl rfl rfl (ok_e31 hw) hg13 dX6_sends_303 ?_
    refine x_if_ne (tgt := 313) dX6_sends_304 rfl (fun hc => ?_) (fun hc => ?_)
    · have h := x_f hc h
      refine x_aload_n dX6_sends_313 rfl 0 rfl ?_
      refine x_iload dX6_sends_314 3 rfl ?_
      obtain ⟨z14, s14, h14, h⟩ := x_b_e h
      refine x_callV (As := [.int a4]) (st := []) (eX6_firstSize hw  h14) cv_X6_157 (Nat.le_of_ble_eq_true rfl) (ok_e30 hw) rfl (Nat.le_of_ble_eq_true rfl) _ rfl dX6_sends_316 [.int z14] rfl ?_
      refine x_aload_n dX6_sends_319 rfl 0 rfl ?_
      refine x_getR (d1 := 5) (K1 := 31) (p1 := 0) (r1 := 0) fl_X6_7 (ok_e30 hw) rfl dX6_sends_320 ?_
      refine x_iload_n dX6_sends_323 rfl 1 rfl ?_
      refine x_iconst (x := 4) dX6_sends_324 rfl ?_
      obtain ⟨z15, s15, h15, h⟩ := x_b_e h
      refine x_callS (As := [.int a1, .int 4]) (st := [.ref (w.2.2 5 31 0 0), .int z14]) (eX6_port hw  h15) cs_X6_44 (Nat.le_of_ble_eq_true rfl) rfl (Nat.le_of_ble_eq_true rfl) _ rfl dX6_sends_325 [.int z15, .ref (w.2.2 5 31 0 0), .int z14] rfl ?_
      obtain ⟨hg16, h⟩ := x_g_e h
      refine x_iald 6464 z15.toNatClampNeg rfl rfl rfl rfl (ok_e31 hw) hg16 dX6_sends_328 ?_
      refine x_icmp_gt (tgt := 336) dX6_sends_329 rfl (fun hc => ?_) (fun hc => ?_)
      · have h := x_t hc h
        refine x_iconst (x := 0) dX6_sends_336 rfl ?_
        refine x_sub (L1 := [(0, .ref (w.2.2 5 30 0 0)), (1, .int a1), (2, .int a2), (4, .int a4)]) [0, 1, 2, 3] rfl ?_
        exact TX6_sends_337 hw hk37 h
      · have h := x_f hc h
        refine x_iconst (x := 1) dX6_sends_332 rfl ?_
        refine x_goto (tgt := 337) dX6_sends_333 rfl ?_
        refine x_sub (L1 := [(0, .ref (w.2.2 5 30 0 0)), (1, .int a1), (2, .int a2), (4, .int a4)]) [0, 1, 2, 3] rfl ?_
        exact TX6_sends_337 hw hk37 h
    · have h := x_t hc h
      obtain ⟨t20, ht20, h⟩ := x_let_e h
      refine x_iinc t20 1 rfl ht20 dX6_sends_307 3 rfl (Nat.le_of_ble_eq_true rfl) [(4, .int t20), (0, .ref (w.2.2 5 30 0 0)), (1, .int a1), (2, .int a2)] rfl ?_
      refine x_goto (tgt := 292) dX6_sends_310 rfl ?_
      refine x_sub (L1 := [(0, .ref (w.2.2 5 30 0 0)), (1, .int a1), (2, .int a2), (4, .int t20)]) [1, 2, 3, 0] rfl ?_
      exact ih _ _ h
set_option maxRecDepth 100000 in
set_option maxHeartbeats 4000000 in
theorem TX6_sends_183 {l : Launch} {w : xW} (hw : w.1.2 = true) {a1 : Int32} {a2 : Int32} {a3 : Int32} {k37 : Int32 → Int32 → xS → Option (Int32 × xS)} {σ τ : xS} {r : Int32} (hk37 : ∀ (a2 : Int32) (a3 : Int32) (σ1 : xS), k37 a2 a3 σ1 = some (r, τ) → xAt l w mX6_sends 37 [(0, .ref (w.2.2 5 30 0 0)), (1, .int a1), (2, .int a2), (3, .int a3)] [] σ1 (some (.int r)) τ) (h : BX6_sends_183 a1 a2 a3 k37 σ = some (r, τ)) : xAt l w mX6_sends 183 [(0, .ref (w.2.2 5 30 0 0)), (1, .int a1), (2, .int a2), (3, .int a3)] [] σ (some (.int r)) τ := by
  rw [BX6_sends_183] at h
  refine x_aload_n dX6_sends_183 rfl 0 rfl ?_
  refine x_getR (d1 := 5) (K1 := 31) (p1 := 0) (r1 := 0) fl_X6_7 (ok_e30 hw) rfl dX6_sends_184 ?_
  refine x_iload_n dX6_sends_187 rfl 1 rfl ?_
  refine x_bipush (x := 6) dX6_sends_188 rfl ?_
  obtain ⟨z28, s28, h28, h⟩ := x_b_e h
  refine x_callS (As := [.int a1, .int 6]) (st := [.ref (w.2.2 5 31 0 0)]) (eX6_port hw  h28) cs_X6_44 (Nat.le_of_ble_eq_true rfl) rfl (Nat.le_of_ble_eq_true rfl) _ rfl dX6_sends_190 [.int z28, .ref (w.2.2 5 31 0 0)] rfl ?_
  refine x_aload_n dX6_sends_193 rfl 0 rfl ?_
  refine x_getR (d1 := 5) (K1 := 31) (p1 := 0) (r1 := 0) fl_X6_7 (ok_e30 hw) rfl dX6_sends_194 ?_
  refine x_iload_n dX6_sends_197 rfl 1 rfl ?_
  refine x_bipush (x := 6) dX6_sends_198 rfl ?_
  obtain ⟨z29, s29, h29, h⟩ := x_b_e h
  refine x_callS (As := [.int a1, .int 6]) (st := [.ref (w.2.2 5 31 0 0), .int z28, .ref (w.2.2 5 31 0 0)]) (eX6_port hw  h29) cs_X6_44 (Nat.le_of_ble_eq_true rfl) rfl (Nat.le_of_ble_eq_true rfl) _ rfl dX6_sends_200 [.int z29, .ref (w.2.2 5 31 0 0), .int z28, .ref (w.2.2 5 31 0 0)] rfl ?_
  obtain ⟨hg30, h⟩ := x_g_e h
  refine x_iald 6464 z29.toNatClampNeg rfl rfl rfl rfl (ok_e31 hw) hg30 dX6_sends_203 ?_
  refine x_iconst (x := 1) dX6_sends_204 rfl ?_
  refine x_iadd dX6_sends_205 ?_
  refine x_iconst (x := 3) dX6_sends_206 rfl ?_
  refine x_irem dX6_sends_207 (by decide) ?_
  obtain ⟨hg31, h⟩ := x_g_e h
  obtain ⟨s32, hs32, h⟩ := x_let_e h
  refine x_iast 6464 z28.toNatClampNeg rfl s32 hs32 rfl rfl rfl (ok_e31 hw) hg31 dX6_sends_208 ?_
  refine x_aload_n dX6_sends_209 rfl 0 rfl ?_
  refine x_getR (d1 := 5) (K1 := 31) (p1 := 0) (r1 := 0) fl_X6_7 (ok_e30 hw) rfl dX6_sends_210 ?_
  refine x_iload_n dX6_sends_213 rfl 1 rfl ?_
  refine x_bipush (x := 7) dX6_sends_214 rfl ?_
  obtain ⟨z33, s33, h33, h⟩ := x_b_e h
  refine x_callS (As := [.int a1, .int 7]) (st := [.ref (w.2.2 5 31 0 0)]) (eX6_port hw  h33) cs_X6_44 (Nat.le_of_ble_eq_true rfl) rfl (Nat.le_of_ble_eq_true rfl) _ rfl dX6_sends_216 [.int z33, .ref (w.2.2 5 31 0 0)] rfl ?_
  refine x_iconst (x := 1) dX6_sends_219 rfl ?_
  obtain ⟨hg34, h⟩ := x_g_e h
  obtain ⟨s35, hs35, h⟩ := x_let_e h
  refine x_iast 6464 z33.toNatClampNeg rfl s35 hs35 rfl rfl rfl (ok_e31 hw) hg34 dX6_sends_220 ?_
  refine x_goto (tgt := 284) dX6_sends_221 rfl ?_
  refine x_goto (tgt := 37) dX6_sends_284 rfl ?_
  refine x_sub (L1 := [(0, .ref (w.2.2 5 30 0 0)), (1, .int a1), (2, .int a2), (3, .int a3)]) [0, 1, 2, 3] rfl ?_
  exact hk37 _ _ _ h
set_option maxRecDepth 100000 in
set_option maxHeartbeats 4000000 in
theorem TX6_sends_148 {l : Launch} {w : xW} (hw : w.1.2 = true) {a1 : Int32} {a2 : Int32} {a3 : Int32} {a4 : Int32} {k37 : Int32 → Int32 → xS → Option (Int32 × xS)} {σ τ : xS} {r : Int32} (hk37 : ∀ (a2 : Int32) (a3 : Int32) (σ1 : xS), k37 a2 a3 σ1 = some (r, τ) → xAt l w mX6_sends 37 [(0, .ref (w.2.2 5 30 0 0)), (1, .int a1), (2, .int a2), (3, .int a3)] [] σ1 (some (.int r)) τ) (h : BX6_sends_148 a1 a2 a3 a4 k37 σ = some (r, τ)) : xAt l w mX6_sends 148 [(0, .ref (w.2.2 5 30 0 0)), (1, .int a1), (2, .int a2), (3, .int a3), (4, .int a4)] [] σ (some (.int r)) τ := by
  rw [BX6_sends_148] at h
  refine x_aload_n dX6_sends_148 rfl 0 rfl ?_
  refine x_getR (d1 := 5) (K1 := 31) (p1 := 0) (r1 := 0) fl_X6_7 (ok_e30 hw) rfl dX6_sends_149 ?_
  refine x_iload dX6_sends_152 4 rfl ?_
  refine x_bipush (x := 12) dX6_sends_154 rfl ?_
  obtain ⟨z26, s26, h26, h⟩ := x_b_e h
  refine x_callS (As := [.int a4, .int 12]) (st := [.ref (w.2.2 5 31 0 0)]) (eX6_queue hw  h26) cs_X6_48 (Nat.le_of_ble_eq_true rfl) rfl (Nat.le_of_ble_eq_true rfl) _ rfl dX6_sends_156 [.int z26, .ref (w.2.2 5 31 0 0)] rfl ?_
  obtain ⟨hg27, h⟩ := x_g_e h
  refine x_iald 6464 z26.toNatClampNeg rfl rfl rfl rfl (ok_e31 hw) hg27 dX6_sends_159 ?_
  refine x_if_eq (tgt := 183) dX6_sends_160 rfl (fun hc => ?_) (fun hc => ?_)
  · have h := x_t hc h
    refine x_sub (L1 := [(0, .ref (w.2.2 5 30 0 0)), (1, .int a1), (2, .int a2), (3, .int a3)]) [0, 1, 2, 3] rfl ?_
    exact TX6_sends_183 hw hk37 h
  · have h := x_f hc h
    refine x_aload_n dX6_sends_163 rfl 0 rfl ?_
    refine x_iload dX6_sends_164 4 rfl ?_
    obtain ⟨z36, s36, h36, h⟩ := x_b_e h
    refine x_callV (As := [.int a4]) (st := []) (eX6_firstSize hw  h36) cv_X6_157 (Nat.le_of_ble_eq_true rfl) (ok_e30 hw) rfl (Nat.le_of_ble_eq_true rfl) _ rfl dX6_sends_166 [.int z36] rfl ?_
    refine x_aload_n dX6_sends_169 rfl 0 rfl ?_
    refine x_getR (d1 := 5) (K1 := 31) (p1 := 0) (r1 := 0) fl_X6_7 (ok_e30 hw) rfl dX6_sends_170 ?_
    refine x_iload dX6_sends_173 4 rfl ?_
    refine x_iconst (x := 5) dX6_sends_175 rfl ?_
    obtain ⟨z37, s37, h37, h⟩ := x_b_e h
    refine x_callS (As := [.int a4, .int 5]) (st := [.ref (w.2.2 5 31 0 0), .int z36]) (eX6_queue hw  h37) cs_X6_48 (Nat.le_of_ble_eq_true rfl) rfl (Nat.le_of_ble_eq_true rfl) _ rfl dX6_sends_176 [.int z37, .ref (w.2.2 5 31 0 0), .int z36] rfl ?_
    obtain ⟨hg38, h⟩ := x_g_e h
    refine x_iald 6464 z37.toNatClampNeg rfl rfl rfl rfl (ok_e31 hw) hg38 dX6_sends_179 ?_
    refine x_icmp_le (tgt := 224) dX6_sends_180 rfl (fun hc => ?_) (fun hc => ?_)
    · have h := x_t hc h
      refine x_aload_n dX6_sends_224 rfl 0 rfl ?_
      refine x_iload dX6_sends_225 4 rfl ?_
      obtain ⟨z39, s39, h39, h⟩ := x_b_e h
      refine x_callV (As := [.int a4]) (st := []) (eX6_firstSize hw  h39) cv_X6_157 (Nat.le_of_ble_eq_true rfl) (ok_e30 hw) rfl (Nat.le_of_ble_eq_true rfl) _ rfl dX6_sends_227 [.int z39] rfl ?_
      refine x_aload_n dX6_sends_230 rfl 0 rfl ?_
      refine x_getR (d1 := 5) (K1 := 31) (p1 := 0) (r1 := 0) fl_X6_7 (ok_e30 hw) rfl dX6_sends_231 ?_
      refine x_iload_n dX6_sends_234 rfl 1 rfl ?_
      refine x_iconst (x := 4) dX6_sends_235 rfl ?_
      obtain ⟨z40, s40, h40, h⟩ := x_b_e h
      refine x_callS (As := [.int a1, .int 4]) (st := [.ref (w.2.2 5 31 0 0), .int z39]) (eX6_port hw  h40) cs_X6_44 (Nat.le_of_ble_eq_true rfl) rfl (Nat.le_of_ble_eq_true rfl) _ rfl dX6_sends_236 [.int z40, .ref (w.2.2 5 31 0 0), .int z39] rfl ?_
      obtain ⟨hg41, h⟩ := x_g_e h
      refine x_iald 6464 z40.toNatClampNeg rfl rfl rfl rfl (ok_e31 hw) hg41 dX6_sends_239 ?_
      refine x_icmp_le (tgt := 248) dX6_sends_240 rfl (fun hc => ?_) (fun hc => ?_)
      · have h := x_t hc h
        refine x_aload_n dX6_sends_248 rfl 0 rfl ?_
        refine x_getR (d1 := 5) (K1 := 31) (p1 := 0) (r1 := 0) fl_X6_7 (ok_e30 hw) rfl dX6_sends_249 ?_
        refine x_iload dX6_sends_252 4 rfl ?_
        refine x_iconst (x := 5) dX6_sends_254 rfl ?_
        obtain ⟨z42, s42, h42, h⟩ := x_b_e h
        refine x_callS (As := [.int a4, .int 5]) (st := [.ref (w.2.2 5 31 0 0)]) (eX6_queue hw  h42) cs_X6_48 (Nat.le_of_ble_eq_true rfl) rfl (Nat.le_of_ble_eq_true rfl) _ rfl dX6_sends_255 [.int z42, .ref (w.2.2 5 31 0 0)] rfl ?_
        refine x_dup2 dX6_sends_258 rfl rfl ?_
        obtain ⟨hg43, h⟩ := x_g_e h
        refine x_iald 6464 z42.toNatClampNeg rfl rfl rfl rfl (ok_e31 hw) hg43 dX6_sends_259 ?_
        refine x_aload_n dX6_sends_260 rfl 0 rfl ?_
        refine x_iload dX6_sends_261 4 rfl ?_
        obtain ⟨z44, s44, h44, h⟩ := x_b_e h
        refine x_callV (As := [.int a4]) (st := [.int (s42 5 31 0 0 z42.toNatClampNeg), .int z42, .ref (w.2.2 5 31 0 0)]) (eX6_firstSize hw  h44) cv_X6_157 (Nat.le_of_ble_eq_true rfl) (ok_e30 hw) rfl (Nat.le_of_ble_eq_true rfl) _ rfl dX6_sends_263 [.int z44, .int (s42 5 31 0 0 z42.toNatClampNeg), .int z42, .ref (w.2.2 5 31 0 0)] rfl ?_
        refine x_isub dX6_sends_266 ?_
        obtain ⟨hg45, h⟩ := x_g_e h
        obtain ⟨s46, hs46, h⟩ := x_let_e h
        refine x_iast 6464 z42.toNatClampNeg rfl s46 hs46 rfl rfl rfl (ok_e31 hw) hg45 dX6_sends_267 ?_
        refine x_aload_n dX6_sends_268 rfl 0 rfl ?_
        refine x_iload_n dX6_sends_269 rfl 1 rfl ?_
        refine x_iload dX6_sends_270 4 rfl ?_
        obtain ⟨z47, s47, h47, h⟩ := x_b_e h
        refine x_callV (As := [.int a1, .int a4]) (st := []) (eX6_departs hw  h47) cv_X6_160 (Nat.le_of_ble_eq_true rfl) (ok_e30 hw) rfl (Nat.le_of_ble_eq_true rfl) _ rfl dX6_sends_272 [] rfl ?_
        refine x_aload_n dX6_sends_275 rfl 0 rfl ?_
        refine x_iload dX6_sends_276 4 rfl ?_
        obtain ⟨z48, s48, h48, h⟩ := x_b_e h
        refine x_callV (As := [.int a4]) (st := []) (eX6_settles hw  h48) cv_X6_135 (Nat.le_of_ble_eq_true rfl) (ok_e30 hw) rfl (Nat.le_of_ble_eq_true rfl) _ rfl dX6_sends_278 [] rfl ?_
        obtain ⟨t49, ht49, h⟩ := x_let_e h
        refine x_iinc t49 1 rfl ht49 dX6_sends_281 2 rfl (Nat.le_of_ble_eq_true rfl) [(2, .int t49), (0, .ref (w.2.2 5 30 0 0)), (1, .int a1), (3, .int a3), (4, .int a4)] rfl ?_
        refine x_goto (tgt := 37) dX6_sends_284 rfl ?_
        refine x_sub (L1 := [(0, .ref (w.2.2 5 30 0 0)), (1, .int a1), (2, .int t49), (3, .int a3)]) [1, 2, 0, 3] rfl ?_
        exact hk37 _ _ _ h
      · have h := x_f hc h
        refine x_iconst (x := 0) dX6_sends_243 rfl ?_
        refine x_istore_n 0 rfl dX6_sends_244 rfl (Nat.le_of_ble_eq_true rfl) [(3, .int 0), (0, .ref (w.2.2 5 30 0 0)), (1, .int a1), (2, .int a2), (4, .int a4)] rfl ?_
        refine x_goto (tgt := 284) dX6_sends_245 rfl ?_
        refine x_goto (tgt := 37) dX6_sends_284 rfl ?_
        refine x_sub (L1 := [(0, .ref (w.2.2 5 30 0 0)), (1, .int a1), (2, .int a2), (3, .int 0)]) [1, 2, 3, 0] rfl ?_
        exact hk37 _ _ _ h
    · have h := x_f hc h
      refine x_sub (L1 := [(0, .ref (w.2.2 5 30 0 0)), (1, .int a1), (2, .int a2), (3, .int a3)]) [0, 1, 2, 3] rfl ?_
      exact TX6_sends_183 hw hk37 h
set_option maxRecDepth 100000 in
set_option maxHeartbeats 4000000 in
theorem TX6_sends_37 {l : Launch} {w : xW} (hw : w.1.2 = true) {a1 : Int32} {τ : xS} {r : Int32} : ∀ (n : Nat) (a2 : Int32) (a3 : Int32) (σ : xS), BX6_sends_37 a1 n a2 a3 σ = some (r, τ) → xAt l w mX6_sends 37 [(0, .ref (w.2.2 5 30 0 0)), (1, .int a1), (2, .int a2), (3, .int a3)] [] σ (some (.int r)) τ := by
  intro n
  induction n with
  | zero => intro a2 a3 σ h; cases h
  | succ n ih =>
    intro a2 a3 σ h
    rw [BX6_sends_37] at h
    refine x_iload_n dX6_sends_37 rfl 3 rfl ?_
    refine x_if_eq (tgt := 361) dX6_sends_38 rfl (fun hc => ?_) (fun hc => ?_)
    · have h := x_t hc h
      refine x_iload_n dX6_sends_361 rfl 2 rfl ?_
      exact x_iretH rfl dX6_sends_362 h
    · have h := x_f hc h
      refine x_aload_n dX6_sends_41 rfl 0 rfl ?_
      refine x_iload_n dX6_sends_42 rfl 1 rfl ?_
      obtain ⟨z8, s8, h8, h⟩ := x_b_e h
      refine x_callV (As := [.int a1]) (st := []) (eX6_hasPackets hw  h8) cv_X6_110 (Nat.le_of_ble_eq_true rfl) (ok_e30 hw) rfl (Nat.le_of_ble_eq_true rfl) _ rfl dX6_sends_43 [.int z8] rfl ?_
      refine x_if_eq (tgt := 361) dX6_sends_46 rfl (fun hc => ?_) (fun hc => ?_)
      · have h := x_t hc h
        refine x_iload_n dX6_sends_361 rfl 2 rfl ?_
        exact x_iretH rfl dX6_sends_362 h
      · have h := x_f hc h
        refine x_aload_n dX6_sends_49 rfl 0 rfl ?_
        refine x_getR (d1 := 5) (K1 := 31) (p1 := 0) (r1 := 0) fl_X6_7 (ok_e30 hw) rfl dX6_sends_50 ?_
        refine x_iload_n dX6_sends_53 rfl 1 rfl ?_
        refine x_bipush (x := 8) dX6_sends_54 rfl ?_
        obtain ⟨z9, s9, h9, h⟩ := x_b_e h
        refine x_callS (As := [.int a1, .int 8]) (st := [.ref (w.2.2 5 31 0 0)]) (eX6_port hw  h9) cs_X6_44 (Nat.le_of_ble_eq_true rfl) rfl (Nat.le_of_ble_eq_true rfl) _ rfl dX6_sends_56 [.int z9, .ref (w.2.2 5 31 0 0)] rfl ?_
        obtain ⟨hg10, h⟩ := x_g_e h
        refine x_iald 6464 z9.toNatClampNeg rfl rfl rfl rfl (ok_e31 hw) hg10 dX6_sends_59 ?_
        refine x_iconst (x := 1) dX6_sends_60 rfl ?_
        refine x_icmp_ne (tgt := 287) dX6_sends_61 rfl (fun hc => ?_) (fun hc => ?_)
        · have h := x_f hc h
          refine x_iconst (x := 3) dX6_sends_287 rfl ?_
          refine x_iload_n dX6_sends_288 rfl 1 rfl ?_
          refine x_imul dX6_sends_289 ?_
          obtain ⟨t11, ht11, h⟩ := x_let_e h
          refine x_istore t11 ht11 dX6_sends_290 (Nat.le_of_ble_eq_true rfl) [(4, .int t11), (0, .ref (w.2.2 5 30 0 0)), (1, .int a1), (2, .int a2), (3, .int a3)] rfl ?_
          refine x_sub (L1 := [(0, .ref (w.2.2 5 30 0 0)), (1, .int a1), (2, .int a2), (4, .int t11)]) [1, 2, 3, 0] rfl ?_
          exact TX6_sends_292 hw ih _ _ _ h
        · have h := x_t hc h
          refine x_iconst (x := 3) dX6_sends_64 rfl ?_
          refine x_iload_n dX6_sends_65 rfl 1 rfl ?_
          refine x_imul dX6_sends_66 ?_
          refine x_aload_n dX6_sends_67 rfl 0 rfl ?_
          refine x_getR (d1 := 5) (K1 := 31) (p1 := 0) (r1 := 0) fl_X6_7 (ok_e30 hw) rfl dX6_sends_68 ?_
          refine x_iload_n dX6_sends_71 rfl 1 rfl ?_
          refine x_bipush (x := 6) dX6_sends_72 rfl ?_
          obtain ⟨z21, s21, h21, h⟩ := x_b_e h
          refine x_callS (As := [.int a1, .int 6]) (st := [.ref (w.2.2 5 31 0 0), .int (3 * a1)]) (eX6_port hw  h21) cs_X6_44 (Nat.le_of_ble_eq_true rfl) rfl (Nat.le_of_ble_eq_true rfl) _ rfl dX6_sends_74 [.int z21, .ref (w.2.2 5 31 0 0), .int (3 * a1)] rfl ?_
          obtain ⟨hg22, h⟩ := x_g_e h
          refine x_iald 6464 z21.toNatClampNeg rfl rfl rfl rfl (ok_e31 hw) hg22 dX6_sends_77 ?_
          refine x_iadd dX6_sends_78 ?_
          obtain ⟨t23, ht23, h⟩ := x_let_e h
          refine x_istore t23 ht23 dX6_sends_79 (Nat.le_of_ble_eq_true rfl) [(4, .int t23), (0, .ref (w.2.2 5 30 0 0)), (1, .int a1), (2, .int a2), (3, .int a3)] rfl ?_
          refine x_aload_n dX6_sends_81 rfl 1 rfl ?_
          refine x_getR (d1 := 5) (K1 := 31) (p1 := 0) (r1 := 0) fl_X6_7 (ok_e30 hw) rfl dX6_sends_82 ?_
          refine x_iload dX6_sends_85 0 rfl ?_
          refine x_bipush (x := 12) dX6_sends_87 rfl ?_
          obtain ⟨z24, s24, h24, h⟩ := x_b_e h
          refine x_callS (As := [.int t23, .int 12]) (st := [.ref (w.2.2 5 31 0 0)]) (eX6_queue hw  h24) cs_X6_48 (Nat.le_of_ble_eq_true rfl) rfl (Nat.le_of_ble_eq_true rfl) _ rfl dX6_sends_89 [.int z24, .ref (w.2.2 5 31 0 0)] rfl ?_
          obtain ⟨hg25, h⟩ := x_g_e h
          refine x_iald 6464 z24.toNatClampNeg rfl rfl rfl rfl (ok_e31 hw) hg25 dX6_sends_92 ?_
          refine x_if_le (tgt := 148) dX6_sends_93 rfl (fun hc => ?_) (fun hc => ?_)
          · have h := x_t hc h
            refine x_sub (L1 := [(0, .ref (w.2.2 5 30 0 0)), (1, .int a1), (2, .int a2), (3, .int a3), (4, .int t23)]) [1, 2, 3, 4, 0] rfl ?_
            exact TX6_sends_148 hw ih h
          · have h := x_f hc h
            refine x_aload_n dX6_sends_96 rfl 1 rfl ?_
            refine x_getR (d1 := 5) (K1 := 31) (p1 := 0) (r1 := 0) fl_X6_7 (ok_e30 hw) rfl dX6_sends_97 ?_
            refine x_iload_n dX6_sends_100 rfl 2 rfl ?_
            refine x_bipush (x := 7) dX6_sends_101 rfl ?_
            obtain ⟨z50, s50, h50, h⟩ := x_b_e h
            refine x_callS (As := [.int a1, .int 7]) (st := [.ref (w.2.2 5 31 0 0)]) (eX6_port hw  h50) cs_X6_44 (Nat.le_of_ble_eq_true rfl) rfl (Nat.le_of_ble_eq_true rfl) _ rfl dX6_sends_103 [.int z50, .ref (w.2.2 5 31 0 0)] rfl ?_
            obtain ⟨hg51, h⟩ := x_g_e h
            refine x_iald 6464 z50.toNatClampNeg rfl rfl rfl rfl (ok_e31 hw) hg51 dX6_sends_106 ?_
            refine x_iconst (x := 1) dX6_sends_107 rfl ?_
            refine x_icmp_ne (tgt := 148) dX6_sends_108 rfl (fun hc => ?_) (fun hc => ?_)
            · have h := x_f hc h
              refine x_sub (L1 := [(0, .ref (w.2.2 5 30 0 0)), (1, .int a1), (2, .int a2), (3, .int a3), (4, .int t23)]) [1, 2, 3, 4, 0] rfl ?_
              exact TX6_sends_148 hw ih h
            · have h := x_t hc h
              refine x_aload_n dX6_sends_111 rfl 1 rfl ?_
              refine x_getR (d1 := 5) (K1 := 31) (p1 := 0) (r1 := 0) fl_X6_7 (ok_e30 hw) rfl dX6_sends_112 ?_
              refine x_iload dX6_sends_115 0 rfl ?_
              refine x_iconst (x := 5) dX6_sends_117 rfl ?_
              obtain ⟨z52, s52, h52, h⟩ := x_b_e h
              refine x_callS (As := [.int t23, .int 5]) (st := [.ref (w.2.2 5 31 0 0)]) (eX6_queue hw  h52) cs_X6_48 (Nat.le_of_ble_eq_true rfl) rfl (Nat.le_of_ble_eq_true rfl) _ rfl dX6_sends_118 [.int z52, .ref (w.2.2 5 31 0 0)] rfl ?_
              refine x_dup2 dX6_sends_121 rfl rfl ?_
              obtain ⟨hg53, h⟩ := x_g_e h
              refine x_iald 6464 z52.toNatClampNeg rfl rfl rfl rfl (ok_e31 hw) hg53 dX6_sends_122 ?_
              refine x_aload_n dX6_sends_123 rfl 1 rfl ?_
              refine x_getR (d1 := 5) (K1 := 31) (p1 := 0) (r1 := 0) fl_X6_7 (ok_e30 hw) rfl dX6_sends_124 ?_
              refine x_iload dX6_sends_127 0 rfl ?_
              refine x_iconst (x := 4) dX6_sends_129 rfl ?_
              obtain ⟨z54, s54, h54, h⟩ := x_b_e h
              refine x_callS (As := [.int t23, .int 4]) (st := [.ref (w.2.2 5 31 0 0), .int (s52 5 31 0 0 z52.toNatClampNeg), .int z52, .ref (w.2.2 5 31 0 0)]) (eX6_queue hw  h54) cs_X6_48 (Nat.le_of_ble_eq_true rfl) rfl (Nat.le_of_ble_eq_true rfl) _ rfl dX6_sends_130 [.int z54, .ref (w.2.2 5 31 0 0), .int (s52 5 31 0 0 z52.toNatClampNeg), .int z52, .ref (w.2.2 5 31 0 0)] rfl ?_
              obtain ⟨hg55, h⟩ := x_g_e h
              refine x_iald 6464 z54.toNatClampNeg rfl rfl rfl rfl (ok_e31 hw) hg55 dX6_sends_133 ?_
              refine x_iadd dX6_sends_134 ?_
              obtain ⟨hg56, h⟩ := x_g_e h
              obtain ⟨s57, hs57, h⟩ := x_let_e h
              refine x_iast 6464 z52.toNatClampNeg rfl s57 hs57 rfl rfl rfl (ok_e31 hw) hg56 dX6_sends_135 ?_
              refine x_aload_n dX6_sends_136 rfl 1 rfl ?_
              refine x_getR (d1 := 5) (K1 := 31) (p1 := 0) (r1 := 0) fl_X6_7 (ok_e30 hw) rfl dX6_sends_137 ?_
              refine x_iload_n dX6_sends_140 rfl 2 rfl ?_
              refine x_bipush (x := 7) dX6_sends_141 rfl ?_
              obtain ⟨z58, s58, h58, h⟩ := x_b_e h
              refine x_callS (As := [.int a1, .int 7]) (st := [.ref (w.2.2 5 31 0 0)]) (eX6_port hw  h58) cs_X6_44 (Nat.le_of_ble_eq_true rfl) rfl (Nat.le_of_ble_eq_true rfl) _ rfl dX6_sends_143 [.int z58, .ref (w.2.2 5 31 0 0)] rfl ?_
              refine x_iconst (x := 0) dX6_sends_146 rfl ?_
              obtain ⟨hg59, h⟩ := x_g_e h
              obtain ⟨s60, hs60, h⟩ := x_let_e h
              refine x_iast 6464 z58.toNatClampNeg rfl s60 hs60 rfl rfl rfl (ok_e31 hw) hg59 dX6_sends_147 ?_
              refine x_sub (L1 := [(0, .ref (w.2.2 5 30 0 0)), (1, .int a1), (2, .int a2), (3, .int a3), (4, .int t23)]) [1, 2, 3, 4, 0] rfl ?_
              exact TX6_sends_148 hw ih h
set_option maxRecDepth 100000 in
set_option maxHeartbeats 4000000 in
theorem eX6_sends {l : Launch} {w : xW} (hw : w.1.2 = true) {a1 : Int32} {σ τ : xS} {r : Int32} (h : fX6_sends a1 σ = some (r, τ)) : xEV l w yX6_sends mX6_sends [.ref (w.2.2 5 30 0 0), .int a1] σ (some (.int r)) τ := by
  rw [fX6_sends] at h
  refine x_enter (by decide +kernel) rfl (Nat.le_of_ble_eq_true rfl) ?_
  refine x_sub (L1 := [(0, .ref (w.2.2 5 30 0 0)), (1, .int a1)]) [0, 1] rfl ?_
  refine x_iconst (x := 0) dX6_sends_0 rfl ?_
  refine x_istore_n 0 rfl dX6_sends_1 rfl (Nat.le_of_ble_eq_true rfl) [(2, .int 0), (0, .ref (w.2.2 5 30 0 0)), (1, .int a1)] rfl ?_
  refine x_aload_n dX6_sends_2 rfl 1 rfl ?_
  refine x_iload_n dX6_sends_3 rfl 2 rfl ?_
  obtain ⟨z1, s1, h1, h⟩ := x_b_e h
  refine x_callV (As := [.int a1]) (st := []) (eX6_hasPackets hw  h1) cv_X6_110 (Nat.le_of_ble_eq_true rfl) (ok_e30 hw) rfl (Nat.le_of_ble_eq_true rfl) _ rfl dX6_sends_4 [.int z1] rfl ?_
  refine x_if_ne (tgt := 12) dX6_sends_7 rfl (fun hc => ?_) (fun hc => ?_)
  · have h := x_f hc h
    refine x_aload_n dX6_sends_12 rfl 1 rfl ?_
    refine x_getR (d1 := 5) (K1 := 31) (p1 := 0) (r1 := 0) fl_X6_7 (ok_e30 hw) rfl dX6_sends_13 ?_
    refine x_iload_n dX6_sends_16 rfl 2 rfl ?_
    refine x_iconst (x := 4) dX6_sends_17 rfl ?_
    obtain ⟨z2, s2, h2, h⟩ := x_b_e h
    refine x_callS (As := [.int a1, .int 4]) (st := [.ref (w.2.2 5 31 0 0)]) (eX6_port hw  h2) cs_X6_44 (Nat.le_of_ble_eq_true rfl) rfl (Nat.le_of_ble_eq_true rfl) _ rfl dX6_sends_18 [.int z2, .ref (w.2.2 5 31 0 0)] rfl ?_
    refine x_dup2 dX6_sends_21 rfl rfl ?_
    obtain ⟨hg3, h⟩ := x_g_e h
    refine x_iald 6464 z2.toNatClampNeg rfl rfl rfl rfl (ok_e31 hw) hg3 dX6_sends_22 ?_
    refine x_aload_n dX6_sends_23 rfl 1 rfl ?_
    refine x_getR (d1 := 5) (K1 := 31) (p1 := 0) (r1 := 0) fl_X6_7 (ok_e30 hw) rfl dX6_sends_24 ?_
    refine x_iload_n dX6_sends_27 rfl 2 rfl ?_
    refine x_iconst (x := 5) dX6_sends_28 rfl ?_
    obtain ⟨z4, s4, h4, h⟩ := x_b_e h
    refine x_callS (As := [.int a1, .int 5]) (st := [.ref (w.2.2 5 31 0 0), .int (s2 5 31 0 0 z2.toNatClampNeg), .int z2, .ref (w.2.2 5 31 0 0)]) (eX6_port hw  h4) cs_X6_44 (Nat.le_of_ble_eq_true rfl) rfl (Nat.le_of_ble_eq_true rfl) _ rfl dX6_sends_29 [.int z4, .ref (w.2.2 5 31 0 0), .int (s2 5 31 0 0 z2.toNatClampNeg), .int z2, .ref (w.2.2 5 31 0 0)] rfl ?_
    obtain ⟨hg5, h⟩ := x_g_e h
    refine x_iald 6464 z4.toNatClampNeg rfl rfl rfl rfl (ok_e31 hw) hg5 dX6_sends_32 ?_
    refine x_iadd dX6_sends_33 ?_
    obtain ⟨hg6, h⟩ := x_g_e h
    obtain ⟨s7, hs7, h⟩ := x_let_e h
    refine x_iast 6464 z2.toNatClampNeg rfl s7 hs7 rfl rfl rfl (ok_e31 hw) hg6 dX6_sends_34 ?_
    refine x_iconst (x := 1) dX6_sends_35 rfl ?_
    refine x_istore_n 1 rfl dX6_sends_36 rfl (Nat.le_of_ble_eq_true rfl) [(3, .int 1), (2, .int 0), (0, .ref (w.2.2 5 30 0 0)), (1, .int a1)] rfl ?_
    refine x_sub (L1 := [(0, .ref (w.2.2 5 30 0 0)), (1, .int a1), (2, .int 0), (3, .int 1)]) [2, 3, 1, 0] rfl ?_
    exact TX6_sends_37 hw _ _ _ _ h
  · have h := x_t hc h
    refine x_iconst (x := 0) dX6_sends_10 rfl ?_
    exact x_iretH rfl dX6_sends_11 h
set_option maxRecDepth 100000 in
set_option maxHeartbeats 4000000 in
theorem TX6_tick_94 {l : Launch} {w : xW} (hw : w.1.2 = true) {a1 : Int32} {τ : xS} {r : Int32} : ∀ (n : Nat) (a2 : Int32) (σ : xS), BX6_tick_94 a1 n a2 σ = some (r, τ) → xAt l w mX6_tick 94 [(0, .ref (w.2.2 5 30 0 0)), (1, .int a1), (2, .int a2)] [] σ (some (.int r)) τ := by
  intro n
  induction n with
  | zero => intro a2 σ h; cases h
  | succ n ih =>
    intro a2 σ h
    rw [BX6_tick_94] at h
    refine x_iload_n dX6_tick_94 rfl 2 rfl ?_
    refine x_iconst (x := 3) dX6_tick_95 rfl ?_
    refine x_aload_n dX6_tick_96 rfl 0 rfl ?_
    refine x_getR (d1 := 5) (K1 := 31) (p1 := 0) (r1 := 0) fl_X6_7 (ok_e30 hw) rfl dX6_tick_97 ?_
    refine x_iconst (x := 1) dX6_tick_100 rfl ?_
    refine x_iald 6464 1 rfl rfl rfl rfl (ok_e31 hw) rfl dX6_tick_101 ?_
    refine x_imul dX6_tick_102 ?_
    refine x_icmp_ge (tgt := 174) dX6_tick_103 rfl (fun hc => ?_) (fun hc => ?_)
    · have h := x_t hc h
      refine x_aload_n dX6_tick_174 rfl 0 rfl ?_
      refine x_getR (d1 := 5) (K1 := 31) (p1 := 0) (r1 := 0) fl_X6_7 (ok_e30 hw) rfl dX6_tick_175 ?_
      refine x_iconst (x := 3) dX6_tick_178 rfl ?_
      refine x_dup2 dX6_tick_179 rfl rfl ?_
      refine x_iald 6464 3 rfl rfl rfl rfl (ok_e31 hw) rfl dX6_tick_180 ?_
      refine x_iconst (x := 1) dX6_tick_181 rfl ?_
      refine x_iadd dX6_tick_182 ?_
      obtain ⟨s1, hs1, h⟩ := x_let_e h
      refine x_iast 6464 3 rfl s1 hs1 rfl rfl rfl (ok_e31 hw) rfl dX6_tick_183 ?_
      refine x_iload_n dX6_tick_184 rfl 1 rfl ?_
      exact x_iretH rfl dX6_tick_185 h
    · have h := x_f hc h
      refine x_aload_n dX6_tick_106 rfl 0 rfl ?_
      refine x_getR (d1 := 5) (K1 := 31) (p1 := 0) (r1 := 0) fl_X6_7 (ok_e30 hw) rfl dX6_tick_107 ?_
      refine x_iload_n dX6_tick_110 rfl 2 rfl ?_
      refine x_bipush (x := 10) dX6_tick_111 rfl ?_
      obtain ⟨z2, s2, h2, h⟩ := x_b_e h
      refine x_callS (As := [.int a2, .int 10]) (st := [.ref (w.2.2 5 31 0 0)]) (eX6_queue hw  h2) cs_X6_48 (Nat.le_of_ble_eq_true rfl) rfl (Nat.le_of_ble_eq_true rfl) _ rfl dX6_tick_113 [.int z2, .ref (w.2.2 5 31 0 0)] rfl ?_
      obtain ⟨hg3, h⟩ := x_g_e h
      refine x_iald 6464 z2.toNatClampNeg rfl rfl rfl rfl (ok_e31 hw) hg3 dX6_tick_116 ?_
      refine x_iconst (x := 1) dX6_tick_117 rfl ?_
      refine x_icmp_ne (tgt := 168) dX6_tick_118 rfl (fun hc => ?_) (fun hc => ?_)
      · have h := x_f hc h
        obtain ⟨t4, ht4, h⟩ := x_let_e h
        refine x_iinc t4 1 rfl ht4 dX6_tick_168 2 rfl (Nat.le_of_ble_eq_true rfl) [(2, .int t4), (0, .ref (w.2.2 5 30 0 0)), (1, .int a1)] rfl ?_
        refine x_goto (tgt := 94) dX6_tick_171 rfl ?_
        refine x_sub (L1 := [(0, .ref (w.2.2 5 30 0 0)), (1, .int a1), (2, .int t4)]) [1, 2, 0] rfl ?_
        exact ih _ _ h
      · have h := x_t hc h
        refine x_aload_n dX6_tick_121 rfl 0 rfl ?_
        refine x_getR (d1 := 5) (K1 := 31) (p1 := 0) (r1 := 0) fl_X6_7 (ok_e30 hw) rfl dX6_tick_122 ?_
        refine x_iload_n dX6_tick_125 rfl 2 rfl ?_
        refine x_bipush (x := 8) dX6_tick_126 rfl ?_
        obtain ⟨z5, s5, h5, h⟩ := x_b_e h
        refine x_callS (As := [.int a2, .int 8]) (st := [.ref (w.2.2 5 31 0 0)]) (eX6_queue hw  h5) cs_X6_48 (Nat.le_of_ble_eq_true rfl) rfl (Nat.le_of_ble_eq_true rfl) _ rfl dX6_tick_128 [.int z5, .ref (w.2.2 5 31 0 0)] rfl ?_
        obtain ⟨hg6, h⟩ := x_g_e h
        refine x_iald 6464 z5.toNatClampNeg rfl rfl rfl rfl (ok_e31 hw) hg6 dX6_tick_131 ?_
        refine x_if_ne (tgt := 168) dX6_tick_132 rfl (fun hc => ?_) (fun hc => ?_)
        · have h := x_f hc h
          obtain ⟨t7, ht7, h⟩ := x_let_e h
          refine x_iinc t7 1 rfl ht7 dX6_tick_168 2 rfl (Nat.le_of_ble_eq_true rfl) [(2, .int t7), (0, .ref (w.2.2 5 30 0 0)), (1, .int a1)] rfl ?_
          refine x_goto (tgt := 94) dX6_tick_171 rfl ?_
          refine x_sub (L1 := [(0, .ref (w.2.2 5 30 0 0)), (1, .int a1), (2, .int t7)]) [1, 2, 0] rfl ?_
          exact ih _ _ h
        · have h := x_t hc h
          refine x_aload_n dX6_tick_135 rfl 0 rfl ?_
          refine x_getR (d1 := 5) (K1 := 31) (p1 := 0) (r1 := 0) fl_X6_7 (ok_e30 hw) rfl dX6_tick_136 ?_
          refine x_iload_n dX6_tick_139 rfl 2 rfl ?_
          refine x_bipush (x := 7) dX6_tick_140 rfl ?_
          obtain ⟨z8, s8, h8, h⟩ := x_b_e h
          refine x_callS (As := [.int a2, .int 7]) (st := [.ref (w.2.2 5 31 0 0)]) (eX6_queue hw  h8) cs_X6_48 (Nat.le_of_ble_eq_true rfl) rfl (Nat.le_of_ble_eq_true rfl) _ rfl dX6_tick_142 [.int z8, .ref (w.2.2 5 31 0 0)] rfl ?_
          obtain ⟨hg9, h⟩ := x_g_e h
          refine x_iald 6464 z8.toNatClampNeg rfl rfl rfl rfl (ok_e31 hw) hg9 dX6_tick_145 ?_
          refine x_iconst (x := 2) dX6_tick_146 rfl ?_
          refine x_iadd dX6_tick_147 ?_
          refine x_aload_n dX6_tick_148 rfl 0 rfl ?_
          refine x_iload_n dX6_tick_149 rfl 2 rfl ?_
          obtain ⟨z10, s10, h10, h⟩ := x_b_e h
          refine x_callV (As := [.int a2]) (st := [.int ((s8 5 31 0 0 z8.toNatClampNeg) + 2)]) (eX6_limit hw  h10) cv_X6_113 (Nat.le_of_ble_eq_true rfl) (ok_e30 hw) rfl (Nat.le_of_ble_eq_true rfl) _ rfl dX6_tick_150 [.int z10, .int ((s8 5 31 0 0 z8.toNatClampNeg) + 2)] rfl ?_
          refine x_icmp_gt (tgt := 168) dX6_tick_153 rfl (fun hc => ?_) (fun hc => ?_)
          · have h := x_t hc h
            obtain ⟨t11, ht11, h⟩ := x_let_e h
            refine x_iinc t11 1 rfl ht11 dX6_tick_168 2 rfl (Nat.le_of_ble_eq_true rfl) [(2, .int t11), (0, .ref (w.2.2 5 30 0 0)), (1, .int a1)] rfl ?_
            refine x_goto (tgt := 94) dX6_tick_171 rfl ?_
            refine x_sub (L1 := [(0, .ref (w.2.2 5 30 0 0)), (1, .int a1), (2, .int t11)]) [1, 2, 0] rfl ?_
            exact ih _ _ h
          · have h := x_f hc h
            refine x_aload_n dX6_tick_156 rfl 0 rfl ?_
            refine x_getR (d1 := 5) (K1 := 31) (p1 := 0) (r1 := 0) fl_X6_7 (ok_e30 hw) rfl dX6_tick_157 ?_
            refine x_iload_n dX6_tick_160 rfl 2 rfl ?_
            refine x_bipush (x := 10) dX6_tick_161 rfl ?_
            obtain ⟨z12, s12, h12, h⟩ := x_b_e h
            refine x_callS (As := [.int a2, .int 10]) (st := [.ref (w.2.2 5 31 0 0)]) (eX6_queue hw  h12) cs_X6_48 (Nat.le_of_ble_eq_true rfl) rfl (Nat.le_of_ble_eq_true rfl) _ rfl dX6_tick_163 [.int z12, .ref (w.2.2 5 31 0 0)] rfl ?_
            refine x_iconst (x := 0) dX6_tick_166 rfl ?_
            obtain ⟨hg13, h⟩ := x_g_e h
            obtain ⟨s14, hs14, h⟩ := x_let_e h
            refine x_iast 6464 z12.toNatClampNeg rfl s14 hs14 rfl rfl rfl (ok_e31 hw) hg13 dX6_tick_167 ?_
            obtain ⟨t15, ht15, h⟩ := x_let_e h
            refine x_iinc t15 1 rfl ht15 dX6_tick_168 2 rfl (Nat.le_of_ble_eq_true rfl) [(2, .int t15), (0, .ref (w.2.2 5 30 0 0)), (1, .int a1)] rfl ?_
            refine x_goto (tgt := 94) dX6_tick_171 rfl ?_
            refine x_sub (L1 := [(0, .ref (w.2.2 5 30 0 0)), (1, .int a1), (2, .int t15)]) [1, 2, 0] rfl ?_
            exact ih _ _ h
set_option maxRecDepth 100000 in
set_option maxHeartbeats 4000000 in
theorem TX6_tick_30 {l : Launch} {w : xW} (hw : w.1.2 = true) {a1 : Int32} {τ : xS} {r : Int32} : ∀ (n : Nat) (a2 : Int32) (σ : xS), BX6_tick_30 a1 n a2 σ = some (r, τ) → xAt l w mX6_tick 30 [(0, .ref (w.2.2 5 30 0 0)), (1, .int a1), (2, .int a2)] [] σ (some (.int r)) τ := by
  intro n
  induction n with
  | zero => intro a2 σ h; cases h
  | succ n ih =>
    intro a2 σ h
    rw [BX6_tick_30] at h
    refine x_iload_n dX6_tick_30 rfl 2 rfl ?_
    refine x_iconst (x := 3) dX6_tick_31 rfl ?_
    refine x_aload_n dX6_tick_32 rfl 0 rfl ?_
    refine x_getR (d1 := 5) (K1 := 31) (p1 := 0) (r1 := 0) fl_X6_7 (ok_e30 hw) rfl dX6_tick_33 ?_
    refine x_iconst (x := 1) dX6_tick_36 rfl ?_
    refine x_iald 6464 1 rfl rfl rfl rfl (ok_e31 hw) rfl dX6_tick_37 ?_
    refine x_imul dX6_tick_38 ?_
    refine x_icmp_ge (tgt := 92) dX6_tick_39 rfl (fun hc => ?_) (fun hc => ?_)
    · have h := x_t hc h
      refine x_iconst (x := 0) dX6_tick_92 rfl ?_
      refine x_istore_n 0 rfl dX6_tick_93 rfl (Nat.le_of_ble_eq_true rfl) [(2, .int 0), (0, .ref (w.2.2 5 30 0 0)), (1, .int a1)] rfl ?_
      refine x_sub (L1 := [(0, .ref (w.2.2 5 30 0 0)), (1, .int a1), (2, .int 0)]) [1, 2, 0] rfl ?_
      exact TX6_tick_94 hw _ _ _ h
    · have h := x_f hc h
      refine x_aload_n dX6_tick_42 rfl 0 rfl ?_
      refine x_getR (d1 := 5) (K1 := 31) (p1 := 0) (r1 := 0) fl_X6_7 (ok_e30 hw) rfl dX6_tick_43 ?_
      refine x_iload_n dX6_tick_46 rfl 2 rfl ?_
      refine x_iconst (x := 3) dX6_tick_47 rfl ?_
      obtain ⟨z16, s16, h16, h⟩ := x_b_e h
      refine x_callS (As := [.int a2, .int 3]) (st := [.ref (w.2.2 5 31 0 0)]) (eX6_queue hw  h16) cs_X6_48 (Nat.le_of_ble_eq_true rfl) rfl (Nat.le_of_ble_eq_true rfl) _ rfl dX6_tick_48 [.int z16, .ref (w.2.2 5 31 0 0)] rfl ?_
      refine x_aload_n dX6_tick_51 rfl 0 rfl ?_
      refine x_getR (d1 := 5) (K1 := 31) (p1 := 0) (r1 := 0) fl_X6_7 (ok_e30 hw) rfl dX6_tick_52 ?_
      refine x_iload_n dX6_tick_55 rfl 2 rfl ?_
      refine x_iconst (x := 1) dX6_tick_56 rfl ?_
      obtain ⟨z17, s17, h17, h⟩ := x_b_e h
      refine x_callS (As := [.int a2, .int 1]) (st := [.ref (w.2.2 5 31 0 0), .int z16, .ref (w.2.2 5 31 0 0)]) (eX6_queue hw  h17) cs_X6_48 (Nat.le_of_ble_eq_true rfl) rfl (Nat.le_of_ble_eq_true rfl) _ rfl dX6_tick_57 [.int z17, .ref (w.2.2 5 31 0 0), .int z16, .ref (w.2.2 5 31 0 0)] rfl ?_
      obtain ⟨hg18, h⟩ := x_g_e h
      refine x_iald 6464 z17.toNatClampNeg rfl rfl rfl rfl (ok_e31 hw) hg18 dX6_tick_60 ?_
      refine x_aload_n dX6_tick_61 rfl 0 rfl ?_
      refine x_getR (d1 := 5) (K1 := 31) (p1 := 0) (r1 := 0) fl_X6_7 (ok_e30 hw) rfl dX6_tick_62 ?_
      refine x_iload_n dX6_tick_65 rfl 2 rfl ?_
      refine x_iconst (x := 3) dX6_tick_66 rfl ?_
      obtain ⟨z19, s19, h19, h⟩ := x_b_e h
      refine x_callS (As := [.int a2, .int 3]) (st := [.ref (w.2.2 5 31 0 0), .int (s17 5 31 0 0 z17.toNatClampNeg), .int z16, .ref (w.2.2 5 31 0 0)]) (eX6_queue hw  h19) cs_X6_48 (Nat.le_of_ble_eq_true rfl) rfl (Nat.le_of_ble_eq_true rfl) _ rfl dX6_tick_67 [.int z19, .ref (w.2.2 5 31 0 0), .int (s17 5 31 0 0 z17.toNatClampNeg), .int z16, .ref (w.2.2 5 31 0 0)] rfl ?_
      obtain ⟨hg20, h⟩ := x_g_e h
      refine x_iald 6464 z19.toNatClampNeg rfl rfl rfl rfl (ok_e31 hw) hg20 dX6_tick_70 ?_
      refine x_aload_n dX6_tick_71 rfl 0 rfl ?_
      refine x_getR (d1 := 5) (K1 := 31) (p1 := 0) (r1 := 0) fl_X6_7 (ok_e30 hw) rfl dX6_tick_72 ?_
      refine x_iload_n dX6_tick_75 rfl 2 rfl ?_
      refine x_iconst (x := 2) dX6_tick_76 rfl ?_
      obtain ⟨z21, s21, h21, h⟩ := x_b_e h
      refine x_callS (As := [.int a2, .int 2]) (st := [.ref (w.2.2 5 31 0 0), .int (s19 5 31 0 0 z19.toNatClampNeg), .int (s17 5 31 0 0 z17.toNatClampNeg), .int z16, .ref (w.2.2 5 31 0 0)]) (eX6_queue hw  h21) cs_X6_48 (Nat.le_of_ble_eq_true rfl) rfl (Nat.le_of_ble_eq_true rfl) _ rfl dX6_tick_77 [.int z21, .ref (w.2.2 5 31 0 0), .int (s19 5 31 0 0 z19.toNatClampNeg), .int (s17 5 31 0 0 z17.toNatClampNeg), .int z16, .ref (w.2.2 5 31 0 0)] rfl ?_
      obtain ⟨hg22, h⟩ := x_g_e h
      refine x_iald 6464 z21.toNatClampNeg rfl rfl rfl rfl (ok_e31 hw) hg22 dX6_tick_80 ?_
      refine x_iadd dX6_tick_81 ?_
      obtain ⟨z23, s23, h23, h⟩ := x_b_e h
      refine x_callS (As := [.int (s17 5 31 0 0 z17.toNatClampNeg), .int ((s19 5 31 0 0 z19.toNatClampNeg) + (s21 5 31 0 0 z21.toNatClampNeg))]) (st := [.int z16, .ref (w.2.2 5 31 0 0)]) (eX6_least hw  h23) cs_X6_68 (Nat.le_of_ble_eq_true rfl) rfl (Nat.le_of_ble_eq_true rfl) _ rfl dX6_tick_82 [.int z23, .int z16, .ref (w.2.2 5 31 0 0)] rfl ?_
      obtain ⟨hg24, h⟩ := x_g_e h
      obtain ⟨s25, hs25, h⟩ := x_let_e h
      refine x_iast 6464 z16.toNatClampNeg rfl s25 hs25 rfl rfl rfl (ok_e31 hw) hg24 dX6_tick_85 ?_
      obtain ⟨t26, ht26, h⟩ := x_let_e h
      refine x_iinc t26 1 rfl ht26 dX6_tick_86 2 rfl (Nat.le_of_ble_eq_true rfl) [(2, .int t26), (0, .ref (w.2.2 5 30 0 0)), (1, .int a1)] rfl ?_
      refine x_goto (tgt := 30) dX6_tick_89 rfl ?_
      refine x_sub (L1 := [(0, .ref (w.2.2 5 30 0 0)), (1, .int a1), (2, .int t26)]) [1, 2, 0] rfl ?_
      exact ih _ _ h
set_option maxRecDepth 100000 in
set_option maxHeartbeats 4000000 in
theorem TX6_tick_4 {l : Launch} {w : xW} (hw : w.1.2 = true) {τ : xS} {r : Int32} : ∀ (n : Nat) (a1 : Int32) (a2 : Int32) (σ : xS), BX6_tick_4 n a1 a2 σ = some (r, τ) → xAt l w mX6_tick 4 [(0, .ref (w.2.2 5 30 0 0)), (1, .int a1), (2, .int a2)] [] σ (some (.int r)) τ := by
  intro n
  induction n with
  | zero => intro a1 a2 σ h; cases h
  | succ n ih =>
    intro a1 a2 σ h
    rw [BX6_tick_4] at h
    refine x_iload_n dX6_tick_4 rfl 2 rfl ?_
    refine x_aload_n dX6_tick_5 rfl 0 rfl ?_
    refine x_getR (d1 := 5) (K1 := 31) (p1 := 0) (r1 := 0) fl_X6_7 (ok_e30 hw) rfl dX6_tick_6 ?_
    refine x_iconst (x := 1) dX6_tick_9 rfl ?_
    refine x_iald 6464 1 rfl rfl rfl rfl (ok_e31 hw) rfl dX6_tick_10 ?_
    refine x_icmp_ge (tgt := 28) dX6_tick_11 rfl (fun hc => ?_) (fun hc => ?_)
    · have h := x_t hc h
      refine x_iconst (x := 0) dX6_tick_28 rfl ?_
      refine x_istore_n 0 rfl dX6_tick_29 rfl (Nat.le_of_ble_eq_true rfl) [(2, .int 0), (0, .ref (w.2.2 5 30 0 0)), (1, .int a1)] rfl ?_
      refine x_sub (L1 := [(0, .ref (w.2.2 5 30 0 0)), (1, .int a1), (2, .int 0)]) [1, 2, 0] rfl ?_
      exact TX6_tick_30 hw _ _ _ h
    · have h := x_f hc h
      refine x_iload_n dX6_tick_14 rfl 1 rfl ?_
      refine x_aload_n dX6_tick_15 rfl 0 rfl ?_
      refine x_iload_n dX6_tick_16 rfl 2 rfl ?_
      obtain ⟨z27, s27, h27, h⟩ := x_b_e h
      refine x_callV (As := [.int a2]) (st := [.int a1]) (eX6_sends hw  h27) cv_X6_163 (Nat.le_of_ble_eq_true rfl) (ok_e30 hw) rfl (Nat.le_of_ble_eq_true rfl) _ rfl dX6_tick_17 [.int z27, .int a1] rfl ?_
      refine x_iadd dX6_tick_20 ?_
      obtain ⟨t28, ht28, h⟩ := x_let_e h
      refine x_istore_n t28 ht28 dX6_tick_21 rfl (Nat.le_of_ble_eq_true rfl) [(1, .int t28), (0, .ref (w.2.2 5 30 0 0)), (2, .int a2)] rfl ?_
      obtain ⟨t29, ht29, h⟩ := x_let_e h
      refine x_iinc t29 1 rfl ht29 dX6_tick_22 2 rfl (Nat.le_of_ble_eq_true rfl) [(2, .int t29), (1, .int t28), (0, .ref (w.2.2 5 30 0 0))] rfl ?_
      refine x_goto (tgt := 4) dX6_tick_25 rfl ?_
      refine x_sub (L1 := [(0, .ref (w.2.2 5 30 0 0)), (1, .int t28), (2, .int t29)]) [2, 1, 0] rfl ?_
      exact ih _ _ _ h
set_option maxRecDepth 100000 in
set_option maxHeartbeats 4000000 in
theorem eX6_tick {l : Launch} {w : xW} (hw : w.1.2 = true) {σ τ : xS} {r : Int32} (h : fX6_tick σ = some (r, τ)) : xEV l w yX6_tick mX6_tick [.ref (w.2.2 5 30 0 0)] σ (some (.int r)) τ := by
  rw [fX6_tick] at h
  refine x_enter (by decide +kernel) rfl (Nat.le_of_ble_eq_true rfl) ?_
  refine x_sub (L1 := [(0, .ref (w.2.2 5 30 0 0))]) [0] rfl ?_
  refine x_iconst (x := 0) dX6_tick_0 rfl ?_
  refine x_istore_n 0 rfl dX6_tick_1 rfl (Nat.le_of_ble_eq_true rfl) [(1, .int 0), (0, .ref (w.2.2 5 30 0 0))] rfl ?_
  refine x_iconst (x := 0) dX6_tick_2 rfl ?_
  refine x_istore_n 0 rfl dX6_tick_3 rfl (Nat.le_of_ble_eq_true rfl) [(2, .int 0), (1, .int 0), (0, .ref (w.2.2 5 30 0 0))] rfl ?_
  refine x_sub (L1 := [(0, .ref (w.2.2 5 30 0 0)), (1, .int 0), (2, .int 0)]) [2, 1, 0] rfl ?_
  exact TX6_tick_4 hw _ _ _ _ h
set_option maxRecDepth 100000 in
set_option maxHeartbeats 4000000 in
theorem TX6_ticking_4 {l : Launch} {w : xW} (hw : w.1.2 = true) {a1 : Int32} {τ : xS} {r : Int32} : ∀ (n : Nat) (a2 : Int32) (a3 : Int32) (σ : xS), BX6_ticking_4 a1 n a2 a3 σ = some (r, τ) → xAt l w mX6_ticking 4 [(0, .ref (w.2.2 5 30 0 0)), (1, .int a1), (2, .int a2), (3, .int a3)] [] σ (some (.int r)) τ := by
  intro n
  induction n with
  | zero => intro a2 a3 σ h; cases h
  | succ n ih =>
    intro a2 a3 σ h
    rw [BX6_ticking_4] at h
    refine x_iload_n dX6_ticking_4 rfl 3 rfl ?_
    refine x_iload_n dX6_ticking_5 rfl 1 rfl ?_
    refine x_icmp_ge (tgt := 22) dX6_ticking_6 rfl (fun hc => ?_) (fun hc => ?_)
    · have h := x_t hc h
      refine x_iload_n dX6_ticking_22 rfl 2 rfl ?_
      exact x_iretH rfl dX6_ticking_23 h
    · have h := x_f hc h
      refine x_iload_n dX6_ticking_9 rfl 2 rfl ?_
      refine x_aload_n dX6_ticking_10 rfl 0 rfl ?_
      obtain ⟨z1, s1, h1, h⟩ := x_b_e h
      refine x_callV (As := []) (st := [.int a2]) (eX6_tick hw  h1) cv_X6_166 (Nat.le_of_ble_eq_true rfl) (ok_e30 hw) rfl (Nat.le_of_ble_eq_true rfl) _ rfl dX6_ticking_11 [.int z1, .int a2] rfl ?_
      refine x_iadd dX6_ticking_14 ?_
      obtain ⟨t2, ht2, h⟩ := x_let_e h
      refine x_istore_n t2 ht2 dX6_ticking_15 rfl (Nat.le_of_ble_eq_true rfl) [(2, .int t2), (0, .ref (w.2.2 5 30 0 0)), (1, .int a1), (3, .int a3)] rfl ?_
      obtain ⟨t3, ht3, h⟩ := x_let_e h
      refine x_iinc t3 1 rfl ht3 dX6_ticking_16 3 rfl (Nat.le_of_ble_eq_true rfl) [(3, .int t3), (2, .int t2), (0, .ref (w.2.2 5 30 0 0)), (1, .int a1)] rfl ?_
      refine x_goto (tgt := 4) dX6_ticking_19 rfl ?_
      refine x_sub (L1 := [(0, .ref (w.2.2 5 30 0 0)), (1, .int a1), (2, .int t2), (3, .int t3)]) [2, 3, 1, 0] rfl ?_
      exact ih _ _ _ h
set_option maxRecDepth 100000 in
set_option maxHeartbeats 4000000 in
theorem eX6_ticking {l : Launch} {w : xW} (hw : w.1.2 = true) {a1 : Int32} {σ τ : xS} {r : Int32} (h : fX6_ticking a1 σ = some (r, τ)) : xEV l w yX6_ticking mX6_ticking [.ref (w.2.2 5 30 0 0), .int a1] σ (some (.int r)) τ := by
  rw [fX6_ticking] at h
  refine x_enter (by decide +kernel) rfl (Nat.le_of_ble_eq_true rfl) ?_
  refine x_sub (L1 := [(0, .ref (w.2.2 5 30 0 0)), (1, .int a1)]) [0, 1] rfl ?_
  refine x_iconst (x := 0) dX6_ticking_0 rfl ?_
  refine x_istore_n 0 rfl dX6_ticking_1 rfl (Nat.le_of_ble_eq_true rfl) [(2, .int 0), (0, .ref (w.2.2 5 30 0 0)), (1, .int a1)] rfl ?_
  refine x_iconst (x := 0) dX6_ticking_2 rfl ?_
  refine x_istore_n 0 rfl dX6_ticking_3 rfl (Nat.le_of_ble_eq_true rfl) [(3, .int 0), (2, .int 0), (0, .ref (w.2.2 5 30 0 0)), (1, .int a1)] rfl ?_
  refine x_sub (L1 := [(0, .ref (w.2.2 5 30 0 0)), (1, .int a1), (2, .int 0), (3, .int 0)]) [2, 3, 1, 0] rfl ?_
  exact TX6_ticking_4 hw _ _ _ _ h
set_option maxRecDepth 100000 in
set_option maxHeartbeats 4000000 in
theorem eX6_ticks {l : Launch} {w : xW} (hw : w.1.2 = true) {a1 : Int32} {σ τ : xS} {r : Int32} (h : fX6_ticks a1 σ = some (r, τ)) : xEV l w yX6_ticks mX6_ticks [.ref (w.2.2 5 30 0 0), .int a1] σ (some (.int r)) τ := by
  rw [fX6_ticks] at h
  refine x_enter (by decide +kernel) rfl (Nat.le_of_ble_eq_true rfl) ?_
  refine x_sub (L1 := [(0, .ref (w.2.2 5 30 0 0)), (1, .int a1)]) [0, 1] rfl ?_
  refine x_iload_n dX6_ticks_0 rfl 1 rfl ?_
  refine x_iconst (x := 1) dX6_ticks_1 rfl ?_
  refine x_bipush (x := 20) dX6_ticks_2 rfl ?_
  obtain ⟨z1, s1, h1, h⟩ := x_b_e h
  refine x_callS (As := [.int a1, .int 1, .int 20]) (st := []) (eX6_in hw  h1) cs_X6_36 (Nat.le_of_ble_eq_true rfl) rfl (Nat.le_of_ble_eq_true rfl) _ rfl dX6_ticks_4 [.int z1] rfl ?_
  refine x_if_eq (tgt := 18) dX6_ticks_7 rfl (fun hc => ?_) (fun hc => ?_)
  · have h := x_t hc h
    refine x_bipush (x := (-2)) dX6_ticks_18 (by decide) ?_
    exact x_iretH rfl dX6_ticks_20 h
  · have h := x_f hc h
    refine x_aload_n dX6_ticks_10 rfl 0 rfl ?_
    refine x_iload_n dX6_ticks_11 rfl 1 rfl ?_
    obtain ⟨z2, s2, h2, h⟩ := x_b_e h
    refine x_callV (As := [.int a1]) (st := []) (eX6_ticking hw  h2) cv_X6_169 (Nat.le_of_ble_eq_true rfl) (ok_e30 hw) rfl (Nat.le_of_ble_eq_true rfl) _ rfl dX6_ticks_12 [.int z2] rfl ?_
    refine x_goto (tgt := 20) dX6_ticks_15 rfl ?_
    exact x_iretH rfl dX6_ticks_20 h
set_option maxRecDepth 100000 in
set_option maxHeartbeats 4000000 in
theorem TX6_flushes_15 {l : Launch} {w : xW} (hw : w.1.2 = true) {a1 : Int32} {a3 : Int32} {k6 : Int32 → Int32 → xS → Option (Int32 × xS)} {τ : xS} {r : Int32} (hk6 : ∀ (a2 : Int32) (a3 : Int32) (σ1 : xS), k6 a2 a3 σ1 = some (r, τ) → xAt l w mX6_flushes 6 [(0, .ref (w.2.2 5 30 0 0)), (1, .int a1), (2, .int a2), (3, .int a3)] [] σ1 (some (.int r)) τ) : ∀ (n : Nat) (a2 : Int32) (σ : xS), BX6_flushes_15 a1 a3 k6 n a2 σ = some (r, τ) → xAt l w mX6_flushes 15 [(0, .ref (w.2.2 5 30 0 0)), (1, .int a1), (2, .int a2), (3, .int a3)] [] σ (some (.int r)) τ := by
  intro n
  induction n with
  | zero => intro a2 σ h; cases h
  | succ n ih =>
    intro a2 σ h
    rw [BX6_flushes_15] at h
    refine x_aload_n dX6_flushes_15 rfl 0 rfl ?_
    refine x_getR (d1 := 5) (K1 := 31) (p1 := 0) (r1 := 0) fl_X6_7 (ok_e30 hw) rfl dX6_flushes_16 ?_
    refine x_iload_n dX6_flushes_19 rfl 3 rfl ?_
    refine x_bipush (x := 12) dX6_flushes_20 rfl ?_
    obtain ⟨z2, s2, h2, h⟩ := x_b_e h
    refine x_callS (As := [.int a3, .int 12]) (st := [.ref (w.2.2 5 31 0 0)]) (eX6_queue hw  h2) cs_X6_48 (Nat.le_of_ble_eq_true rfl) rfl (Nat.le_of_ble_eq_true rfl) _ rfl dX6_flushes_22 [.int z2, .ref (w.2.2 5 31 0 0)] rfl ?_
    obtain ⟨hg3, h⟩ := x_g_e h
    refine x_iald 6464 z2.toNatClampNeg rfl rfl rfl rfl (ok_e31 hw) hg3 dX6_flushes_25 ?_
    refine x_if_le (tgt := 53) dX6_flushes_26 rfl (fun hc => ?_) (fun hc => ?_)
    · have h := x_t hc h
      obtain ⟨t4, ht4, h⟩ := x_let_e h
      refine x_iinc t4 1 rfl ht4 dX6_flushes_53 3 rfl (Nat.le_of_ble_eq_true rfl) [(3, .int t4), (0, .ref (w.2.2 5 30 0 0)), (1, .int a1), (2, .int a2)] rfl ?_
      refine x_goto (tgt := 6) dX6_flushes_56 rfl ?_
      refine x_sub (L1 := [(0, .ref (w.2.2 5 30 0 0)), (1, .int a1), (2, .int a2), (3, .int t4)]) [1, 2, 3, 0] rfl ?_
      exact hk6 _ _ _ h
    · have h := x_f hc h
      refine x_aload_n dX6_flushes_29 rfl 0 rfl ?_
      refine x_iload_n dX6_flushes_30 rfl 1 rfl ?_
      refine x_bipush (x := 9) dX6_flushes_31 rfl ?_
      refine x_aload_n dX6_flushes_33 rfl 0 rfl ?_
      refine x_iload_n dX6_flushes_34 rfl 3 rfl ?_
      refine x_iconst (x := 0) dX6_flushes_35 rfl ?_
      obtain ⟨z5, s5, h5, h⟩ := x_b_e h
      refine x_callV (As := [.int a3, .int 0]) (st := [.int 9, .int a1, .ref (w.2.2 5 30 0 0)]) (eX6_leaves hw  h5) cv_X6_132 (Nat.le_of_ble_eq_true rfl) (ok_e30 hw) rfl (Nat.le_of_ble_eq_true rfl) _ rfl dX6_flushes_36 [.int z5, .int 9, .int a1, .ref (w.2.2 5 30 0 0)] rfl ?_
      obtain ⟨z6, s6, h6, h⟩ := x_b_e h
      refine x_callV (As := [.int a1, .int 9, .int z5]) (st := []) (eX6_loses hw  h6) cv_X6_138 (Nat.le_of_ble_eq_true rfl) (ok_e30 hw) rfl (Nat.le_of_ble_eq_true rfl) _ rfl dX6_flushes_39 [] rfl ?_
      refine x_aload_n dX6_flushes_42 rfl 0 rfl ?_
      refine x_iload_n dX6_flushes_43 rfl 3 rfl ?_
      obtain ⟨z7, s7, h7, h⟩ := x_b_e h
      refine x_callV (As := [.int a3]) (st := []) (eX6_settles hw  h7) cv_X6_135 (Nat.le_of_ble_eq_true rfl) (ok_e30 hw) rfl (Nat.le_of_ble_eq_true rfl) _ rfl dX6_flushes_44 [] rfl ?_
      obtain ⟨t8, ht8, h⟩ := x_let_e h
      refine x_iinc t8 1 rfl ht8 dX6_flushes_47 2 rfl (Nat.le_of_ble_eq_true rfl) [(2, .int t8), (0, .ref (w.2.2 5 30 0 0)), (1, .int a1), (3, .int a3)] rfl ?_
      refine x_goto (tgt := 15) dX6_flushes_50 rfl ?_
      refine x_sub (L1 := [(0, .ref (w.2.2 5 30 0 0)), (1, .int a1), (2, .int t8), (3, .int a3)]) [1, 2, 0, 3] rfl ?_
      exact ih _ _ h
set_option maxRecDepth 100000 in
set_option maxHeartbeats 4000000 in
theorem TX6_flushes_6 {l : Launch} {w : xW} (hw : w.1.2 = true) {a1 : Int32} {τ : xS} {r : Int32} : ∀ (n : Nat) (a2 : Int32) (a3 : Int32) (σ : xS), BX6_flushes_6 a1 n a2 a3 σ = some (r, τ) → xAt l w mX6_flushes 6 [(0, .ref (w.2.2 5 30 0 0)), (1, .int a1), (2, .int a2), (3, .int a3)] [] σ (some (.int r)) τ := by
  intro n
  induction n with
  | zero => intro a2 a3 σ h; cases h
  | succ n ih =>
    intro a2 a3 σ h
    rw [BX6_flushes_6] at h
    refine x_iload_n dX6_flushes_6 rfl 3 rfl ?_
    refine x_iconst (x := 3) dX6_flushes_7 rfl ?_
    refine x_iload_n dX6_flushes_8 rfl 1 rfl ?_
    refine x_imul dX6_flushes_9 ?_
    refine x_iconst (x := 3) dX6_flushes_10 rfl ?_
    refine x_iadd dX6_flushes_11 ?_
    refine x_icmp_ge (tgt := 59) dX6_flushes_12 rfl (fun hc => ?_) (fun hc => ?_)
    · have h := x_t hc h
      refine x_iload_n dX6_flushes_59 rfl 2 rfl ?_
      exact x_iretH rfl dX6_flushes_60 h
    · have h := x_f hc h
      refine x_sub (L1 := [(0, .ref (w.2.2 5 30 0 0)), (1, .int a1), (2, .int a2), (3, .int a3)]) [0, 1, 2, 3] rfl ?_
      exact TX6_flushes_15 hw ih _ _ _ h
set_option maxRecDepth 100000 in
set_option maxHeartbeats 4000000 in
theorem eX6_flushes {l : Launch} {w : xW} (hw : w.1.2 = true) {a1 : Int32} {σ τ : xS} {r : Int32} (h : fX6_flushes a1 σ = some (r, τ)) : xEV l w yX6_flushes mX6_flushes [.ref (w.2.2 5 30 0 0), .int a1] σ (some (.int r)) τ := by
  rw [fX6_flushes] at h
  refine x_enter (by decide +kernel) rfl (Nat.le_of_ble_eq_true rfl) ?_
  refine x_sub (L1 := [(0, .ref (w.2.2 5 30 0 0)), (1, .int a1)]) [0, 1] rfl ?_
  refine x_iconst (x := 0) dX6_flushes_0 rfl ?_
  refine x_istore_n 0 rfl dX6_flushes_1 rfl (Nat.le_of_ble_eq_true rfl) [(2, .int 0), (0, .ref (w.2.2 5 30 0 0)), (1, .int a1)] rfl ?_
  refine x_iconst (x := 3) dX6_flushes_2 rfl ?_
  refine x_iload_n dX6_flushes_3 rfl 2 rfl ?_
  refine x_imul dX6_flushes_4 ?_
  obtain ⟨t1, ht1, h⟩ := x_let_e h
  refine x_istore_n t1 ht1 dX6_flushes_5 rfl (Nat.le_of_ble_eq_true rfl) [(3, .int t1), (2, .int 0), (0, .ref (w.2.2 5 30 0 0)), (1, .int a1)] rfl ?_
  refine x_sub (L1 := [(0, .ref (w.2.2 5 30 0 0)), (1, .int a1), (2, .int 0), (3, .int t1)]) [2, 3, 1, 0] rfl ?_
  exact TX6_flushes_6 hw _ _ _ _ h
set_option maxRecDepth 100000 in
set_option maxHeartbeats 4000000 in
theorem eX6_flush {l : Launch} {w : xW} (hw : w.1.2 = true) {a1 : Int32} {σ τ : xS} {r : Int32} (h : fX6_flush a1 σ = some (r, τ)) : xEV l w yX6_flush mX6_flush [.ref (w.2.2 5 30 0 0), .int a1] σ (some (.int r)) τ := by
  rw [fX6_flush] at h
  refine x_enter (by decide +kernel) rfl (Nat.le_of_ble_eq_true rfl) ?_
  refine x_sub (L1 := [(0, .ref (w.2.2 5 30 0 0)), (1, .int a1)]) [0, 1] rfl ?_
  refine x_aload_n dX6_flush_0 rfl 0 rfl ?_
  refine x_iload_n dX6_flush_1 rfl 1 rfl ?_
  obtain ⟨z1, s1, h1, h⟩ := x_b_e h
  refine x_callV (As := [.int a1]) (st := []) (eX6_isPort hw  h1) cv_X6_40 (Nat.le_of_ble_eq_true rfl) (ok_e30 hw) rfl (Nat.le_of_ble_eq_true rfl) _ rfl dX6_flush_2 [.int z1] rfl ?_
  refine x_if_eq (tgt := 16) dX6_flush_5 rfl (fun hc => ?_) (fun hc => ?_)
  · have h := x_t hc h
    refine x_iconst (x := (-1)) dX6_flush_16 (by decide) ?_
    exact x_iretH rfl dX6_flush_17 h
  · have h := x_f hc h
    refine x_aload_n dX6_flush_8 rfl 0 rfl ?_
    refine x_iload_n dX6_flush_9 rfl 1 rfl ?_
    obtain ⟨z2, s2, h2, h⟩ := x_b_e h
    refine x_callV (As := [.int a1]) (st := []) (eX6_flushes hw  h2) cv_X6_172 (Nat.le_of_ble_eq_true rfl) (ok_e30 hw) rfl (Nat.le_of_ble_eq_true rfl) _ rfl dX6_flush_10 [.int z2] rfl ?_
    refine x_goto (tgt := 17) dX6_flush_13 rfl ?_
    exact x_iretH rfl dX6_flush_17 h
set_option maxRecDepth 100000 in
set_option maxHeartbeats 4000000 in
theorem TX6_traffic_45 {l : Launch} {w : xW} (hw : w.1.2 = true) {a2 : Int32} {a3 : Int32} {a7 : Int32} {k36 : Int64 → Int32 → Int32 → xS → Option (Int32 × xS)} {τ : xS} {r : Int32} (hk36 : ∀ (g4 : Int64) (a6 : Int32) (a7 : Int32) (σ1 : xS), k36 g4 a6 a7 σ1 = some (r, τ) → xAt l w mX6_traffic 36 [(0, .ref (w.2.2 5 30 0 0)), (2, .int a2), (3, .int a3), (4, .long g4), (6, .int a6), (7, .int a7)] [] σ1 (some (.int r)) τ) : ∀ (n : Nat) (g4 : Int64) (a6 : Int32) (a8 : Int32) (σ : xS), BX6_traffic_45 a2 a3 a7 k36 n g4 a6 a8 σ = some (r, τ) → xAt l w mX6_traffic 45 [(0, .ref (w.2.2 5 30 0 0)), (2, .int a2), (3, .int a3), (4, .long g4), (6, .int a6), (7, .int a7), (8, .int a8)] [] σ (some (.int r)) τ := by
  intro n
  induction n with
  | zero => intro g4 a6 a8 σ h; cases h
  | succ n ih =>
    intro g4 a6 a8 σ h
    rw [BX6_traffic_45] at h
    refine x_iload dX6_traffic_45 6 rfl ?_
    refine x_iload_n dX6_traffic_47 rfl 2 rfl ?_
    refine x_icmp_ge (tgt := 134) dX6_traffic_48 rfl (fun hc => ?_) (fun hc => ?_)
    · have h := x_t hc h
      refine x_aload_n dX6_traffic_134 rfl 0 rfl ?_
      obtain ⟨z4, s4, h4, h⟩ := x_b_e h
      refine x_callV (As := []) (st := []) (eX6_tick hw  h4) cv_X6_166 (Nat.le_of_ble_eq_true rfl) (ok_e30 hw) rfl (Nat.le_of_ble_eq_true rfl) _ rfl dX6_traffic_135 [.int z4] rfl ?_
      refine x_pop dX6_traffic_138 rfl ?_
      obtain ⟨t5, ht5, h⟩ := x_let_e h
      refine x_iinc t5 1 rfl ht5 dX6_traffic_139 5 rfl (Nat.le_of_ble_eq_true rfl) [(7, .int t5), (0, .ref (w.2.2 5 30 0 0)), (2, .int a2), (3, .int a3), (4, .long g4), (6, .int a6), (8, .int a8)] rfl ?_
      refine x_goto (tgt := 36) dX6_traffic_142 rfl ?_
      refine x_sub (L1 := [(0, .ref (w.2.2 5 30 0 0)), (2, .int a2), (3, .int a3), (4, .long g4), (6, .int a6), (7, .int t5)]) [1, 2, 3, 4, 5, 0] rfl ?_
      exact hk36 _ _ _ _ h
    · have h := x_f hc h
      refine x_lload dX6_traffic_51 3 rfl ?_
      refine x_ldc2 (x := 1103515245) dX6_traffic_53 tk_X6_175 ?_
      refine x_lmul dX6_traffic_56 ?_
      refine x_ldc2 (x := 12345) dX6_traffic_57 tk_X6_177 ?_
      refine x_ladd dX6_traffic_60 ?_
      refine x_ldc2 (x := 2147483648) dX6_traffic_61 tk_X6_179 ?_
      refine x_lrem dX6_traffic_64 (by decide) ?_
      obtain ⟨t6, ht6, h⟩ := x_let_e h
      refine x_lstore t6 ht6 dX6_traffic_65 (Nat.le_of_ble_eq_true rfl) [(4, .long t6), (0, .ref (w.2.2 5 30 0 0)), (2, .int a2), (3, .int a3), (6, .int a6), (7, .int a7), (8, .int a8)] rfl ?_
      refine x_lload dX6_traffic_67 0 rfl ?_
      refine x_ldc2 (x := 65536) dX6_traffic_69 tk_X6_181 ?_
      refine x_ldiv dX6_traffic_72 (by decide) ?_
      refine x_l2i dX6_traffic_73 ?_
      obtain ⟨t7, ht7, h⟩ := x_let_e h
      refine x_istore t7 ht7 dX6_traffic_74 (Nat.le_of_ble_eq_true rfl) [(9, .int t7), (4, .long t6), (0, .ref (w.2.2 5 30 0 0)), (2, .int a2), (3, .int a3), (6, .int a6), (7, .int a7), (8, .int a8)] rfl ?_
      refine x_iconst (x := 3) dX6_traffic_76 rfl ?_
      refine x_iload dX6_traffic_77 0 rfl ?_
      refine x_aload_n dX6_traffic_79 rfl 2 rfl ?_
      refine x_getR (d1 := 5) (K1 := 31) (p1 := 0) (r1 := 0) fl_X6_7 (ok_e30 hw) rfl dX6_traffic_80 ?_
      refine x_iconst (x := 1) dX6_traffic_83 rfl ?_
      refine x_iald 6464 1 rfl rfl rfl rfl (ok_e31 hw) rfl dX6_traffic_84 ?_
      obtain ⟨hg8, h⟩ := x_nz_e h
      refine x_irem dX6_traffic_85 hg8 ?_
      refine x_imul dX6_traffic_86 ?_
      refine x_iload dX6_traffic_87 0 rfl ?_
      refine x_bipush (x := 8) dX6_traffic_89 rfl ?_
      refine x_idiv dX6_traffic_91 (by decide) ?_
      refine x_iconst (x := 3) dX6_traffic_92 rfl ?_
      refine x_irem dX6_traffic_93 (by decide) ?_
      refine x_iadd dX6_traffic_94 ?_
      obtain ⟨t9, ht9, h⟩ := x_let_e h
      refine x_istore t9 ht9 dX6_traffic_95 (Nat.le_of_ble_eq_true rfl) [(10, .int t9), (9, .int t7), (4, .long t6), (0, .ref (w.2.2 5 30 0 0)), (2, .int a2), (3, .int a3), (6, .int a6), (7, .int a7), (8, .int a8)] rfl ?_
      refine x_iload dX6_traffic_97 6 rfl ?_
      refine x_aload_n dX6_traffic_99 rfl 3 rfl ?_
      refine x_iload dX6_traffic_100 0 rfl ?_
      refine x_iload dX6_traffic_102 1 rfl ?_
      refine x_bipush (x := 32) dX6_traffic_104 rfl ?_
      refine x_idiv dX6_traffic_106 (by decide) ?_
      refine x_bipush (x := 12) dX6_traffic_107 rfl ?_
      refine x_irem dX6_traffic_109 (by decide) ?_
      refine x_iconst (x := 1) dX6_traffic_110 rfl ?_
      refine x_iadd dX6_traffic_111 ?_
      obtain ⟨z10, s10, h10, h⟩ := x_b_e h
      refine x_callV (As := [.int t9, .int (((t7 / 32) - (t7 / 32) / 12 * 12) + 1)]) (st := [.int a6]) (eX6_arrives hw  h10) cv_X6_154 (Nat.le_of_ble_eq_true rfl) (ok_e30 hw) rfl (Nat.le_of_ble_eq_true rfl) _ rfl dX6_traffic_112 [.int z10, .int a6] rfl ?_
      refine x_bipush (x := (-6)) dX6_traffic_115 (by decide) ?_
      refine x_icmp_ne (tgt := 124) dX6_traffic_117 rfl (fun hc => ?_) (fun hc => ?_)
      · have h := x_f hc h
        refine x_iconst (x := 0) dX6_traffic_124 rfl ?_
        refine x_iadd dX6_traffic_125 ?_
        obtain ⟨t11, ht11, h⟩ := x_let_e h
        refine x_istore t11 ht11 dX6_traffic_126 (Nat.le_of_ble_eq_true rfl) [(6, .int t11), (10, .int t9), (9, .int t7), (4, .long t6), (0, .ref (w.2.2 5 30 0 0)), (2, .int a2), (3, .int a3), (7, .int a7), (8, .int a8)] rfl ?_
        obtain ⟨t12, ht12, h⟩ := x_let_e h
        refine x_iinc t12 1 rfl ht12 dX6_traffic_128 8 rfl (Nat.le_of_ble_eq_true rfl) [(8, .int t12), (6, .int t11), (10, .int t9), (9, .int t7), (4, .long t6), (0, .ref (w.2.2 5 30 0 0)), (2, .int a2), (3, .int a3), (7, .int a7)] rfl ?_
        refine x_goto (tgt := 45) dX6_traffic_131 rfl ?_
        refine x_sub (L1 := [(0, .ref (w.2.2 5 30 0 0)), (2, .int a2), (3, .int a3), (4, .long t6), (6, .int t11), (7, .int a7), (8, .int t12)]) [5, 6, 7, 4, 1, 8, 0] rfl ?_
        exact ih _ _ _ _ h
      · have h := x_t hc h
        refine x_iconst (x := 1) dX6_traffic_120 rfl ?_
        refine x_goto (tgt := 125) dX6_traffic_121 rfl ?_
        refine x_iadd dX6_traffic_125 ?_
        obtain ⟨t13, ht13, h⟩ := x_let_e h
        refine x_istore t13 ht13 dX6_traffic_126 (Nat.le_of_ble_eq_true rfl) [(6, .int t13), (10, .int t9), (9, .int t7), (4, .long t6), (0, .ref (w.2.2 5 30 0 0)), (2, .int a2), (3, .int a3), (7, .int a7), (8, .int a8)] rfl ?_
        obtain ⟨t14, ht14, h⟩ := x_let_e h
        refine x_iinc t14 1 rfl ht14 dX6_traffic_128 8 rfl (Nat.le_of_ble_eq_true rfl) [(8, .int t14), (6, .int t13), (10, .int t9), (9, .int t7), (4, .long t6), (0, .ref (w.2.2 5 30 0 0)), (2, .int a2), (3, .int a3), (7, .int a7)] rfl ?_
        refine x_goto (tgt := 45) dX6_traffic_131 rfl ?_
        refine x_sub (L1 := [(0, .ref (w.2.2 5 30 0 0)), (2, .int a2), (3, .int a3), (4, .long t6), (6, .int t13), (7, .int a7), (8, .int t14)]) [5, 6, 7, 4, 1, 8, 0] rfl ?_
        exact ih _ _ _ _ h
set_option maxRecDepth 100000 in
set_option maxHeartbeats 4000000 in
theorem TX6_traffic_36 {l : Launch} {w : xW} (hw : w.1.2 = true) {a2 : Int32} {a3 : Int32} {τ : xS} {r : Int32} : ∀ (n : Nat) (g4 : Int64) (a6 : Int32) (a7 : Int32) (σ : xS), BX6_traffic_36 a2 a3 n g4 a6 a7 σ = some (r, τ) → xAt l w mX6_traffic 36 [(0, .ref (w.2.2 5 30 0 0)), (2, .int a2), (3, .int a3), (4, .long g4), (6, .int a6), (7, .int a7)] [] σ (some (.int r)) τ := by
  intro n
  induction n with
  | zero => intro g4 a6 a7 σ h; cases h
  | succ n ih =>
    intro g4 a6 a7 σ h
    rw [BX6_traffic_36] at h
    refine x_iload dX6_traffic_36 5 rfl ?_
    refine x_iload_n dX6_traffic_38 rfl 1 rfl ?_
    refine x_icmp_ge (tgt := 145) dX6_traffic_39 rfl (fun hc => ?_) (fun hc => ?_)
    · have h := x_t hc h
      refine x_iload dX6_traffic_145 4 rfl ?_
      exact x_iretH rfl dX6_traffic_147 h
    · have h := x_f hc h
      refine x_iconst (x := 0) dX6_traffic_42 rfl ?_
      refine x_istore 0 rfl dX6_traffic_43 (Nat.le_of_ble_eq_true rfl) [(8, .int 0), (0, .ref (w.2.2 5 30 0 0)), (2, .int a2), (3, .int a3), (4, .long g4), (6, .int a6), (7, .int a7)] rfl ?_
      refine x_sub (L1 := [(0, .ref (w.2.2 5 30 0 0)), (2, .int a2), (3, .int a3), (4, .long g4), (6, .int a6), (7, .int a7), (8, .int 0)]) [1, 2, 3, 4, 5, 6, 0] rfl ?_
      exact TX6_traffic_45 hw ih _ _ _ _ _ h
set_option maxRecDepth 100000 in
set_option maxHeartbeats 4000000 in
theorem eX6_traffic {l : Launch} {w : xW} (hw : w.1.2 = true) {a1 : Int32} {a2 : Int32} {a3 : Int32} {σ τ : xS} {r : Int32} (h : fX6_traffic a1 a2 a3 σ = some (r, τ)) : xEV l w yX6_traffic mX6_traffic [.ref (w.2.2 5 30 0 0), .int a1, .int a2, .int a3] σ (some (.int r)) τ := by
  rw [fX6_traffic] at h
  refine x_enter (by decide +kernel) rfl (Nat.le_of_ble_eq_true rfl) ?_
  refine x_sub (L1 := [(0, .ref (w.2.2 5 30 0 0)), (1, .int a1), (2, .int a2), (3, .int a3)]) [0, 1, 2, 3] rfl ?_
  refine x_iload_n dX6_traffic_0 rfl 1 rfl ?_
  refine x_if_lt (tgt := 23) dX6_traffic_1 rfl (fun hc => ?_) (fun hc => ?_)
  · have h := x_t hc h
    refine x_bipush (x := (-2)) dX6_traffic_23 (by decide) ?_
    exact x_iretH rfl dX6_traffic_25 h
  · have h := x_f hc h
    refine x_iload_n dX6_traffic_4 rfl 2 rfl ?_
    refine x_iconst (x := 1) dX6_traffic_5 rfl ?_
    refine x_bipush (x := 16) dX6_traffic_6 rfl ?_
    obtain ⟨z1, s1, h1, h⟩ := x_b_e h
    refine x_callS (As := [.int a2, .int 1, .int 16]) (st := []) (eX6_in hw  h1) cs_X6_36 (Nat.le_of_ble_eq_true rfl) rfl (Nat.le_of_ble_eq_true rfl) _ rfl dX6_traffic_8 [.int z1] rfl ?_
    refine x_if_eq (tgt := 23) dX6_traffic_11 rfl (fun hc => ?_) (fun hc => ?_)
    · have h := x_t hc h
      refine x_bipush (x := (-2)) dX6_traffic_23 (by decide) ?_
      exact x_iretH rfl dX6_traffic_25 h
    · have h := x_f hc h
      refine x_iload_n dX6_traffic_14 rfl 3 rfl ?_
      refine x_iconst (x := 1) dX6_traffic_15 rfl ?_
      refine x_iconst (x := 3) dX6_traffic_16 rfl ?_
      obtain ⟨z2, s2, h2, h⟩ := x_b_e h
      refine x_callS (As := [.int a3, .int 1, .int 3]) (st := []) (eX6_in hw  h2) cs_X6_36 (Nat.le_of_ble_eq_true rfl) rfl (Nat.le_of_ble_eq_true rfl) _ rfl dX6_traffic_17 [.int z2] rfl ?_
      refine x_if_ne (tgt := 26) dX6_traffic_20 rfl (fun hc => ?_) (fun hc => ?_)
      · have h := x_f hc h
        refine x_iload_n dX6_traffic_26 rfl 1 rfl ?_
        refine x_i2l dX6_traffic_27 ?_
        obtain ⟨t3, ht3, h⟩ := x_let_e h
        refine x_lstore t3 ht3 dX6_traffic_28 (Nat.le_of_ble_eq_true rfl) [(4, .long t3), (0, .ref (w.2.2 5 30 0 0)), (1, .int a1), (2, .int a2), (3, .int a3)] rfl ?_
        refine x_iconst (x := 0) dX6_traffic_30 rfl ?_
        refine x_istore 0 rfl dX6_traffic_31 (Nat.le_of_ble_eq_true rfl) [(6, .int 0), (4, .long t3), (0, .ref (w.2.2 5 30 0 0)), (1, .int a1), (2, .int a2), (3, .int a3)] rfl ?_
        refine x_iconst (x := 0) dX6_traffic_33 rfl ?_
        refine x_istore 0 rfl dX6_traffic_34 (Nat.le_of_ble_eq_true rfl) [(7, .int 0), (6, .int 0), (4, .long t3), (0, .ref (w.2.2 5 30 0 0)), (1, .int a1), (2, .int a2), (3, .int a3)] rfl ?_
        refine x_sub (L1 := [(0, .ref (w.2.2 5 30 0 0)), (2, .int a2), (3, .int a3), (4, .long t3), (6, .int 0), (7, .int 0)]) [3, 5, 6, 2, 1, 0] rfl ?_
        exact TX6_traffic_36 hw _ _ _ _ _ h
      · have h := x_t hc h
        refine x_bipush (x := (-2)) dX6_traffic_23 (by decide) ?_
        exact x_iretH rfl dX6_traffic_25 h
set_option maxRecDepth 100000 in
set_option maxHeartbeats 4000000 in
theorem eX6_freeShared {l : Launch} {w : xW} (hw : w.1.2 = true) {σ τ : xS} {r : Int32} (h : fX6_freeShared σ = some (r, τ)) : xEV l w yX6_freeShared mX6_freeShared [.ref (w.2.2 5 30 0 0)] σ (some (.int r)) τ := by
  rw [fX6_freeShared] at h
  refine x_enter (by decide +kernel) rfl (Nat.le_of_ble_eq_true rfl) ?_
  refine x_sub (L1 := [(0, .ref (w.2.2 5 30 0 0))]) [0] rfl ?_
  refine x_aload_n dX6_freeShared_0 rfl 0 rfl ?_
  obtain ⟨z1, s1, h1, h⟩ := x_b_e h
  refine x_callV (As := []) (st := []) (eX6_free hw  h1) cv_X6_62 (Nat.le_of_ble_eq_true rfl) (ok_e30 hw) rfl (Nat.le_of_ble_eq_true rfl) _ rfl dX6_freeShared_1 [.int z1] rfl ?_
  exact x_iretH rfl dX6_freeShared_4 h
set_option maxRecDepth 100000 in
set_option maxHeartbeats 4000000 in
theorem eX6_sharedPool {l : Launch} {w : xW} (hw : w.1.2 = true) {σ τ : xS} {r : Int32} (h : fX6_sharedPool σ = some (r, τ)) : xEV l w yX6_sharedPool mX6_sharedPool [.ref (w.2.2 5 30 0 0)] σ (some (.int r)) τ := by
  rw [fX6_sharedPool] at h
  refine x_enter (by decide +kernel) rfl (Nat.le_of_ble_eq_true rfl) ?_
  refine x_sub (L1 := [(0, .ref (w.2.2 5 30 0 0))]) [0] rfl ?_
  refine x_aload_n dX6_sharedPool_0 rfl 0 rfl ?_
  obtain ⟨z1, s1, h1, h⟩ := x_b_e h
  refine x_callV (As := []) (st := []) (eX6_pool hw  h1) cv_X6_55 (Nat.le_of_ble_eq_true rfl) (ok_e30 hw) rfl (Nat.le_of_ble_eq_true rfl) _ rfl dX6_sharedPool_1 [.int z1] rfl ?_
  exact x_iretH rfl dX6_sharedPool_4 h
set_option maxRecDepth 100000 in
set_option maxHeartbeats 4000000 in
theorem eX6_freeGuarantee {l : Launch} {w : xW} (hw : w.1.2 = true) {a1 : Int32} {σ τ : xS} {r : Int32} (h : fX6_freeGuarantee a1 σ = some (r, τ)) : xEV l w yX6_freeGuarantee mX6_freeGuarantee [.ref (w.2.2 5 30 0 0), .int a1] σ (some (.int r)) τ := by
  rw [fX6_freeGuarantee] at h
  refine x_enter (by decide +kernel) rfl (Nat.le_of_ble_eq_true rfl) ?_
  refine x_sub (L1 := [(0, .ref (w.2.2 5 30 0 0)), (1, .int a1)]) [0, 1] rfl ?_
  refine x_aload_n dX6_freeGuarantee_0 rfl 0 rfl ?_
  refine x_iload_n dX6_freeGuarantee_1 rfl 1 rfl ?_
  obtain ⟨z1, s1, h1, h⟩ := x_b_e h
  refine x_callV (As := [.int a1]) (st := []) (eX6_isPort hw  h1) cv_X6_40 (Nat.le_of_ble_eq_true rfl) (ok_e30 hw) rfl (Nat.le_of_ble_eq_true rfl) _ rfl dX6_freeGuarantee_2 [.int z1] rfl ?_
  refine x_if_eq (tgt := 16) dX6_freeGuarantee_5 rfl (fun hc => ?_) (fun hc => ?_)
  · have h := x_t hc h
    refine x_iconst (x := (-1)) dX6_freeGuarantee_16 (by decide) ?_
    exact x_iretH rfl dX6_freeGuarantee_17 h
  · have h := x_f hc h
    refine x_aload_n dX6_freeGuarantee_8 rfl 0 rfl ?_
    refine x_iload_n dX6_freeGuarantee_9 rfl 1 rfl ?_
    obtain ⟨z2, s2, h2, h⟩ := x_b_e h
    refine x_callV (As := [.int a1]) (st := []) (eX6_freeOf hw  h2) cv_X6_65 (Nat.le_of_ble_eq_true rfl) (ok_e30 hw) rfl (Nat.le_of_ble_eq_true rfl) _ rfl dX6_freeGuarantee_10 [.int z2] rfl ?_
    refine x_goto (tgt := 17) dX6_freeGuarantee_13 rfl ?_
    exact x_iretH rfl dX6_freeGuarantee_17 h
set_option maxRecDepth 100000 in
set_option maxHeartbeats 4000000 in
theorem eX6_ofPort {l : Launch} {w : xW} (hw : w.1.2 = true) {a1 : Int32} {a2 : Int32} {σ τ : xS} {r : Int32} (h : fX6_ofPort a1 a2 σ = some (r, τ)) : xEV l w yX6_ofPort mX6_ofPort [.ref (w.2.2 5 30 0 0), .int a1, .int a2] σ (some (.int r)) τ := by
  rw [fX6_ofPort] at h
  refine x_enter (by decide +kernel) rfl (Nat.le_of_ble_eq_true rfl) ?_
  refine x_sub (L1 := [(0, .ref (w.2.2 5 30 0 0)), (1, .int a1), (2, .int a2)]) [0, 1, 2] rfl ?_
  refine x_aload_n dX6_ofPort_0 rfl 0 rfl ?_
  refine x_iload_n dX6_ofPort_1 rfl 1 rfl ?_
  obtain ⟨z1, s1, h1, h⟩ := x_b_e h
  refine x_callV (As := [.int a1]) (st := []) (eX6_isPort hw  h1) cv_X6_40 (Nat.le_of_ble_eq_true rfl) (ok_e30 hw) rfl (Nat.le_of_ble_eq_true rfl) _ rfl dX6_ofPort_2 [.int z1] rfl ?_
  refine x_if_eq (tgt := 21) dX6_ofPort_5 rfl (fun hc => ?_) (fun hc => ?_)
  · have h := x_t hc h
    refine x_iconst (x := (-1)) dX6_ofPort_21 (by decide) ?_
    exact x_iretH rfl dX6_ofPort_22 h
  · have h := x_f hc h
    refine x_aload_n dX6_ofPort_8 rfl 0 rfl ?_
    refine x_getR (d1 := 5) (K1 := 31) (p1 := 0) (r1 := 0) fl_X6_7 (ok_e30 hw) rfl dX6_ofPort_9 ?_
    refine x_iload_n dX6_ofPort_12 rfl 1 rfl ?_
    refine x_iload_n dX6_ofPort_13 rfl 2 rfl ?_
    obtain ⟨z2, s2, h2, h⟩ := x_b_e h
    refine x_callS (As := [.int a1, .int a2]) (st := [.ref (w.2.2 5 31 0 0)]) (eX6_port hw  h2) cs_X6_44 (Nat.le_of_ble_eq_true rfl) rfl (Nat.le_of_ble_eq_true rfl) _ rfl dX6_ofPort_14 [.int z2, .ref (w.2.2 5 31 0 0)] rfl ?_
    obtain ⟨hg3, h⟩ := x_g_e h
    refine x_iald 6464 z2.toNatClampNeg rfl rfl rfl rfl (ok_e31 hw) hg3 dX6_ofPort_17 ?_
    refine x_goto (tgt := 22) dX6_ofPort_18 rfl ?_
    exact x_iretH rfl dX6_ofPort_22 h
set_option maxRecDepth 100000 in
set_option maxHeartbeats 4000000 in
theorem eX6_ofQueue {l : Launch} {w : xW} (hw : w.1.2 = true) {a1 : Int32} {a2 : Int32} {a3 : Int32} {σ τ : xS} {r : Int32} (h : fX6_ofQueue a1 a2 a3 σ = some (r, τ)) : xEV l w yX6_ofQueue mX6_ofQueue [.ref (w.2.2 5 30 0 0), .int a1, .int a2, .int a3] σ (some (.int r)) τ := by
  rw [fX6_ofQueue] at h
  refine x_enter (by decide +kernel) rfl (Nat.le_of_ble_eq_true rfl) ?_
  refine x_sub (L1 := [(0, .ref (w.2.2 5 30 0 0)), (1, .int a1), (2, .int a2), (3, .int a3)]) [0, 1, 2, 3] rfl ?_
  refine x_aload_n dX6_ofQueue_0 rfl 0 rfl ?_
  refine x_iload_n dX6_ofQueue_1 rfl 1 rfl ?_
  refine x_iload_n dX6_ofQueue_2 rfl 2 rfl ?_
  obtain ⟨z1, s1, h1, h⟩ := x_b_e h
  refine x_callV (As := [.int a1, .int a2]) (st := []) (eX6_isQueue hw  h1) cv_X6_75 (Nat.le_of_ble_eq_true rfl) (ok_e30 hw) rfl (Nat.le_of_ble_eq_true rfl) _ rfl dX6_ofQueue_3 [.int z1] rfl ?_
  refine x_if_eq (tgt := 26) dX6_ofQueue_6 rfl (fun hc => ?_) (fun hc => ?_)
  · have h := x_t hc h
    refine x_iconst (x := (-1)) dX6_ofQueue_26 (by decide) ?_
    exact x_iretH rfl dX6_ofQueue_27 h
  · have h := x_f hc h
    refine x_aload_n dX6_ofQueue_9 rfl 0 rfl ?_
    refine x_getR (d1 := 5) (K1 := 31) (p1 := 0) (r1 := 0) fl_X6_7 (ok_e30 hw) rfl dX6_ofQueue_10 ?_
    refine x_iconst (x := 3) dX6_ofQueue_13 rfl ?_
    refine x_iload_n dX6_ofQueue_14 rfl 1 rfl ?_
    refine x_imul dX6_ofQueue_15 ?_
    refine x_iload_n dX6_ofQueue_16 rfl 2 rfl ?_
    refine x_iadd dX6_ofQueue_17 ?_
    refine x_iload_n dX6_ofQueue_18 rfl 3 rfl ?_
    obtain ⟨z2, s2, h2, h⟩ := x_b_e h
    refine x_callS (As := [.int ((3 * a1) + a2), .int a3]) (st := [.ref (w.2.2 5 31 0 0)]) (eX6_queue hw  h2) cs_X6_48 (Nat.le_of_ble_eq_true rfl) rfl (Nat.le_of_ble_eq_true rfl) _ rfl dX6_ofQueue_19 [.int z2, .ref (w.2.2 5 31 0 0)] rfl ?_
    obtain ⟨hg3, h⟩ := x_g_e h
    refine x_iald 6464 z2.toNatClampNeg rfl rfl rfl rfl (ok_e31 hw) hg3 dX6_ofQueue_22 ?_
    refine x_goto (tgt := 27) dX6_ofQueue_23 rfl ?_
    exact x_iretH rfl dX6_ofQueue_27 h
set_option maxRecDepth 100000 in
set_option maxHeartbeats 4000000 in
theorem eX6_grantOf {l : Launch} {w : xW} (hw : w.1.2 = true) {a1 : Int32} {σ τ : xS} {r : Int32} (h : fX6_grantOf a1 σ = some (r, τ)) : xEV l w yX6_grantOf mX6_grantOf [.ref (w.2.2 5 30 0 0), .int a1] σ (some (.int r)) τ := by
  rw [fX6_grantOf] at h
  refine x_enter (by decide +kernel) rfl (Nat.le_of_ble_eq_true rfl) ?_
  refine x_sub (L1 := [(0, .ref (w.2.2 5 30 0 0)), (1, .int a1)]) [0, 1] rfl ?_
  refine x_aload_n dX6_grantOf_0 rfl 0 rfl ?_
  refine x_iload_n dX6_grantOf_1 rfl 1 rfl ?_
  refine x_iconst (x := 2) dX6_grantOf_2 rfl ?_
  obtain ⟨z1, s1, h1, h⟩ := x_b_e h
  refine x_callV (As := [.int a1, .int 2]) (st := []) (eX6_ofPort hw  h1) cv_X6_183 (Nat.le_of_ble_eq_true rfl) (ok_e30 hw) rfl (Nat.le_of_ble_eq_true rfl) _ rfl dX6_grantOf_3 [.int z1] rfl ?_
  exact x_iretH rfl dX6_grantOf_6 h
set_option maxRecDepth 100000 in
set_option maxHeartbeats 4000000 in
theorem eX6_threshold {l : Launch} {w : xW} (hw : w.1.2 = true) {a1 : Int32} {a2 : Int32} {σ τ : xS} {r : Int32} (h : fX6_threshold a1 a2 σ = some (r, τ)) : xEV l w yX6_threshold mX6_threshold [.ref (w.2.2 5 30 0 0), .int a1, .int a2] σ (some (.int r)) τ := by
  rw [fX6_threshold] at h
  refine x_enter (by decide +kernel) rfl (Nat.le_of_ble_eq_true rfl) ?_
  refine x_sub (L1 := [(0, .ref (w.2.2 5 30 0 0)), (1, .int a1), (2, .int a2)]) [0, 1, 2] rfl ?_
  refine x_aload_n dX6_threshold_0 rfl 0 rfl ?_
  refine x_iload_n dX6_threshold_1 rfl 1 rfl ?_
  refine x_iload_n dX6_threshold_2 rfl 2 rfl ?_
  obtain ⟨z1, s1, h1, h⟩ := x_b_e h
  refine x_callV (As := [.int a1, .int a2]) (st := []) (eX6_isQueue hw  h1) cv_X6_75 (Nat.le_of_ble_eq_true rfl) (ok_e30 hw) rfl (Nat.le_of_ble_eq_true rfl) _ rfl dX6_threshold_3 [.int z1] rfl ?_
  refine x_if_eq (tgt := 21) dX6_threshold_6 rfl (fun hc => ?_) (fun hc => ?_)
  · have h := x_t hc h
    refine x_iconst (x := (-1)) dX6_threshold_21 (by decide) ?_
    exact x_iretH rfl dX6_threshold_22 h
  · have h := x_f hc h
    refine x_aload_n dX6_threshold_9 rfl 0 rfl ?_
    refine x_iconst (x := 3) dX6_threshold_10 rfl ?_
    refine x_iload_n dX6_threshold_11 rfl 1 rfl ?_
    refine x_imul dX6_threshold_12 ?_
    refine x_iload_n dX6_threshold_13 rfl 2 rfl ?_
    refine x_iadd dX6_threshold_14 ?_
    obtain ⟨z2, s2, h2, h⟩ := x_b_e h
    refine x_callV (As := [.int ((3 * a1) + a2)]) (st := []) (eX6_limit hw  h2) cv_X6_113 (Nat.le_of_ble_eq_true rfl) (ok_e30 hw) rfl (Nat.le_of_ble_eq_true rfl) _ rfl dX6_threshold_15 [.int z2] rfl ?_
    refine x_goto (tgt := 22) dX6_threshold_18 rfl ?_
    exact x_iretH rfl dX6_threshold_22 h
set_option maxRecDepth 100000 in
set_option maxHeartbeats 4000000 in
theorem eX6_guaranteedCells {l : Launch} {w : xW} (hw : w.1.2 = true) {a1 : Int32} {a2 : Int32} {σ τ : xS} {r : Int32} (h : fX6_guaranteedCells a1 a2 σ = some (r, τ)) : xEV l w yX6_guaranteedCells mX6_guaranteedCells [.ref (w.2.2 5 30 0 0), .int a1, .int a2] σ (some (.int r)) τ := by
  rw [fX6_guaranteedCells] at h
  refine x_enter (by decide +kernel) rfl (Nat.le_of_ble_eq_true rfl) ?_
  refine x_sub (L1 := [(0, .ref (w.2.2 5 30 0 0)), (1, .int a1), (2, .int a2)]) [0, 1, 2] rfl ?_
  refine x_aload_n dX6_guaranteedCells_0 rfl 0 rfl ?_
  refine x_iload_n dX6_guaranteedCells_1 rfl 1 rfl ?_
  refine x_iload_n dX6_guaranteedCells_2 rfl 2 rfl ?_
  refine x_bipush (x := 6) dX6_guaranteedCells_3 rfl ?_
  obtain ⟨z1, s1, h1, h⟩ := x_b_e h
  refine x_callV (As := [.int a1, .int a2, .int 6]) (st := []) (eX6_ofQueue hw  h1) cv_X6_186 (Nat.le_of_ble_eq_true rfl) (ok_e30 hw) rfl (Nat.le_of_ble_eq_true rfl) _ rfl dX6_guaranteedCells_5 [.int z1] rfl ?_
  exact x_iretH rfl dX6_guaranteedCells_8 h
set_option maxRecDepth 100000 in
set_option maxHeartbeats 4000000 in
theorem eX6_sharedCells {l : Launch} {w : xW} (hw : w.1.2 = true) {a1 : Int32} {a2 : Int32} {σ τ : xS} {r : Int32} (h : fX6_sharedCells a1 a2 σ = some (r, τ)) : xEV l w yX6_sharedCells mX6_sharedCells [.ref (w.2.2 5 30 0 0), .int a1, .int a2] σ (some (.int r)) τ := by
  rw [fX6_sharedCells] at h
  refine x_enter (by decide +kernel) rfl (Nat.le_of_ble_eq_true rfl) ?_
  refine x_sub (L1 := [(0, .ref (w.2.2 5 30 0 0)), (1, .int a1), (2, .int a2)]) [0, 1, 2] rfl ?_
  refine x_aload_n dX6_sharedCells_0 rfl 0 rfl ?_
  refine x_iload_n dX6_sharedCells_1 rfl 1 rfl ?_
  refine x_iload_n dX6_sharedCells_2 rfl 2 rfl ?_
  refine x_bipush (x := 7) dX6_sharedCells_3 rfl ?_
  obtain ⟨z1, s1, h1, h⟩ := x_b_e h
  refine x_callV (As := [.int a1, .int a2, .int 7]) (st := []) (eX6_ofQueue hw  h1) cv_X6_186 (Nat.le_of_ble_eq_true rfl) (ok_e30 hw) rfl (Nat.le_of_ble_eq_true rfl) _ rfl dX6_sharedCells_5 [.int z1] rfl ?_
  exact x_iretH rfl dX6_sharedCells_8 h
set_option maxRecDepth 100000 in
set_option maxHeartbeats 4000000 in
theorem eX6_headroomCells {l : Launch} {w : xW} (hw : w.1.2 = true) {a1 : Int32} {a2 : Int32} {σ τ : xS} {r : Int32} (h : fX6_headroomCells a1 a2 σ = some (r, τ)) : xEV l w yX6_headroomCells mX6_headroomCells [.ref (w.2.2 5 30 0 0), .int a1, .int a2] σ (some (.int r)) τ := by
  rw [fX6_headroomCells] at h
  refine x_enter (by decide +kernel) rfl (Nat.le_of_ble_eq_true rfl) ?_
  refine x_sub (L1 := [(0, .ref (w.2.2 5 30 0 0)), (1, .int a1), (2, .int a2)]) [0, 1, 2] rfl ?_
  refine x_aload_n dX6_headroomCells_0 rfl 0 rfl ?_
  refine x_iload_n dX6_headroomCells_1 rfl 1 rfl ?_
  refine x_iload_n dX6_headroomCells_2 rfl 2 rfl ?_
  refine x_bipush (x := 8) dX6_headroomCells_3 rfl ?_
  obtain ⟨z1, s1, h1, h⟩ := x_b_e h
  refine x_callV (As := [.int a1, .int a2, .int 8]) (st := []) (eX6_ofQueue hw  h1) cv_X6_186 (Nat.le_of_ble_eq_true rfl) (ok_e30 hw) rfl (Nat.le_of_ble_eq_true rfl) _ rfl dX6_headroomCells_5 [.int z1] rfl ?_
  exact x_iretH rfl dX6_headroomCells_8 h
set_option maxRecDepth 100000 in
set_option maxHeartbeats 4000000 in
theorem eX6_burstTank {l : Launch} {w : xW} (hw : w.1.2 = true) {a1 : Int32} {a2 : Int32} {σ τ : xS} {r : Int32} (h : fX6_burstTank a1 a2 σ = some (r, τ)) : xEV l w yX6_burstTank mX6_burstTank [.ref (w.2.2 5 30 0 0), .int a1, .int a2] σ (some (.int r)) τ := by
  rw [fX6_burstTank] at h
  refine x_enter (by decide +kernel) rfl (Nat.le_of_ble_eq_true rfl) ?_
  refine x_sub (L1 := [(0, .ref (w.2.2 5 30 0 0)), (1, .int a1), (2, .int a2)]) [0, 1, 2] rfl ?_
  refine x_aload_n dX6_burstTank_0 rfl 0 rfl ?_
  refine x_iload_n dX6_burstTank_1 rfl 1 rfl ?_
  refine x_iload_n dX6_burstTank_2 rfl 2 rfl ?_
  refine x_iconst (x := 3) dX6_burstTank_3 rfl ?_
  obtain ⟨z1, s1, h1, h⟩ := x_b_e h
  refine x_callV (As := [.int a1, .int a2, .int 3]) (st := []) (eX6_ofQueue hw  h1) cv_X6_186 (Nat.le_of_ble_eq_true rfl) (ok_e30 hw) rfl (Nat.le_of_ble_eq_true rfl) _ rfl dX6_burstTank_4 [.int z1] rfl ?_
  exact x_iretH rfl dX6_burstTank_7 h
set_option maxRecDepth 100000 in
set_option maxHeartbeats 4000000 in
theorem eX6_isPaused {l : Launch} {w : xW} (hw : w.1.2 = true) {a1 : Int32} {a2 : Int32} {σ τ : xS} {r : Int32} (h : fX6_isPaused a1 a2 σ = some (r, τ)) : xEV l w yX6_isPaused mX6_isPaused [.ref (w.2.2 5 30 0 0), .int a1, .int a2] σ (some (.int r)) τ := by
  rw [fX6_isPaused] at h
  refine x_enter (by decide +kernel) rfl (Nat.le_of_ble_eq_true rfl) ?_
  refine x_sub (L1 := [(0, .ref (w.2.2 5 30 0 0)), (1, .int a1), (2, .int a2)]) [0, 1, 2] rfl ?_
  refine x_aload_n dX6_isPaused_0 rfl 0 rfl ?_
  refine x_iload_n dX6_isPaused_1 rfl 1 rfl ?_
  refine x_iload_n dX6_isPaused_2 rfl 2 rfl ?_
  refine x_bipush (x := 10) dX6_isPaused_3 rfl ?_
  obtain ⟨z1, s1, h1, h⟩ := x_b_e h
  refine x_callV (As := [.int a1, .int a2, .int 10]) (st := []) (eX6_ofQueue hw  h1) cv_X6_186 (Nat.le_of_ble_eq_true rfl) (ok_e30 hw) rfl (Nat.le_of_ble_eq_true rfl) _ rfl dX6_isPaused_5 [.int z1] rfl ?_
  exact x_iretH rfl dX6_isPaused_8 h
set_option maxRecDepth 100000 in
set_option maxHeartbeats 4000000 in
theorem eX6_pauses {l : Launch} {w : xW} (hw : w.1.2 = true) {a1 : Int32} {a2 : Int32} {σ τ : xS} {r : Int32} (h : fX6_pauses a1 a2 σ = some (r, τ)) : xEV l w yX6_pauses mX6_pauses [.ref (w.2.2 5 30 0 0), .int a1, .int a2] σ (some (.int r)) τ := by
  rw [fX6_pauses] at h
  refine x_enter (by decide +kernel) rfl (Nat.le_of_ble_eq_true rfl) ?_
  refine x_sub (L1 := [(0, .ref (w.2.2 5 30 0 0)), (1, .int a1), (2, .int a2)]) [0, 1, 2] rfl ?_
  refine x_aload_n dX6_pauses_0 rfl 0 rfl ?_
  refine x_iload_n dX6_pauses_1 rfl 1 rfl ?_
  refine x_iload_n dX6_pauses_2 rfl 2 rfl ?_
  refine x_bipush (x := 11) dX6_pauses_3 rfl ?_
  obtain ⟨z1, s1, h1, h⟩ := x_b_e h
  refine x_callV (As := [.int a1, .int a2, .int 11]) (st := []) (eX6_ofQueue hw  h1) cv_X6_186 (Nat.le_of_ble_eq_true rfl) (ok_e30 hw) rfl (Nat.le_of_ble_eq_true rfl) _ rfl dX6_pauses_5 [.int z1] rfl ?_
  exact x_iretH rfl dX6_pauses_8 h
set_option maxRecDepth 100000 in
set_option maxHeartbeats 4000000 in
theorem eX6_credit {l : Launch} {w : xW} (hw : w.1.2 = true) {a1 : Int32} {σ τ : xS} {r : Int32} (h : fX6_credit a1 σ = some (r, τ)) : xEV l w yX6_credit mX6_credit [.ref (w.2.2 5 30 0 0), .int a1] σ (some (.int r)) τ := by
  rw [fX6_credit] at h
  refine x_enter (by decide +kernel) rfl (Nat.le_of_ble_eq_true rfl) ?_
  refine x_sub (L1 := [(0, .ref (w.2.2 5 30 0 0)), (1, .int a1)]) [0, 1] rfl ?_
  refine x_aload_n dX6_credit_0 rfl 0 rfl ?_
  refine x_iload_n dX6_credit_1 rfl 1 rfl ?_
  refine x_iconst (x := 4) dX6_credit_2 rfl ?_
  obtain ⟨z1, s1, h1, h⟩ := x_b_e h
  refine x_callV (As := [.int a1, .int 4]) (st := []) (eX6_ofPort hw  h1) cv_X6_183 (Nat.le_of_ble_eq_true rfl) (ok_e30 hw) rfl (Nat.le_of_ble_eq_true rfl) _ rfl dX6_credit_3 [.int z1] rfl ?_
  exact x_iretH rfl dX6_credit_6 h
set_option maxRecDepth 100000 in
set_option maxHeartbeats 4000000 in
theorem eX6_deficit {l : Launch} {w : xW} (hw : w.1.2 = true) {a1 : Int32} {a2 : Int32} {σ τ : xS} {r : Int32} (h : fX6_deficit a1 a2 σ = some (r, τ)) : xEV l w yX6_deficit mX6_deficit [.ref (w.2.2 5 30 0 0), .int a1, .int a2] σ (some (.int r)) τ := by
  rw [fX6_deficit] at h
  refine x_enter (by decide +kernel) rfl (Nat.le_of_ble_eq_true rfl) ?_
  refine x_sub (L1 := [(0, .ref (w.2.2 5 30 0 0)), (1, .int a1), (2, .int a2)]) [0, 1, 2] rfl ?_
  refine x_aload_n dX6_deficit_0 rfl 0 rfl ?_
  refine x_iload_n dX6_deficit_1 rfl 1 rfl ?_
  refine x_iload_n dX6_deficit_2 rfl 2 rfl ?_
  refine x_iconst (x := 5) dX6_deficit_3 rfl ?_
  obtain ⟨z1, s1, h1, h⟩ := x_b_e h
  refine x_callV (As := [.int a1, .int a2, .int 5]) (st := []) (eX6_ofQueue hw  h1) cv_X6_186 (Nat.le_of_ble_eq_true rfl) (ok_e30 hw) rfl (Nat.le_of_ble_eq_true rfl) _ rfl dX6_deficit_4 [.int z1] rfl ?_
  exact x_iretH rfl dX6_deficit_7 h
set_option maxRecDepth 100000 in
set_option maxHeartbeats 4000000 in
theorem TX6_losses_42 {l : Launch} {w : xW} (hw : w.1.2 = true) {a1 : Int32} {a2 : Int32} {as0 : Int32} {σ τ : xS} {r : Int32} (h : BX6_losses_42 a1 a2 as0 σ = some (r, τ)) : xAt l w mX6_losses 42 [(0, .ref (w.2.2 5 30 0 0)), (1, .int a1), (2, .int a2)] [.int as0] σ (some (.int r)) τ := by
  rw [BX6_losses_42] at h
  refine x_istore_n as0 rfl dX6_losses_42 rfl (Nat.le_of_ble_eq_true rfl) [(3, .int as0), (0, .ref (w.2.2 5 30 0 0)), (1, .int a1), (2, .int a2)] rfl ?_
  refine x_iload_n dX6_losses_43 rfl 0 rfl ?_
  refine x_if_eq (tgt := 63) dX6_losses_44 rfl (fun hc => ?_) (fun hc => ?_)
  · have h := x_t hc h
    refine x_bipush (x := (-2)) dX6_losses_63 (by decide) ?_
    exact x_iretH rfl dX6_losses_65 h
  · have h := x_f hc h
    refine x_aload_n dX6_losses_47 rfl 1 rfl ?_
    refine x_getR (d1 := 5) (K1 := 31) (p1 := 0) (r1 := 0) fl_X6_7 (ok_e30 hw) rfl dX6_losses_48 ?_
    refine x_iload_n dX6_losses_51 rfl 2 rfl ?_
    refine x_bipush (x := 11) dX6_losses_52 rfl ?_
    refine x_iload_n dX6_losses_54 rfl 3 rfl ?_
    refine x_iadd dX6_losses_55 ?_
    obtain ⟨z2, s2, h2, h⟩ := x_b_e h
    refine x_callS (As := [.int a1, .int (11 + a2)]) (st := [.ref (w.2.2 5 31 0 0)]) (eX6_port hw  h2) cs_X6_44 (Nat.le_of_ble_eq_true rfl) rfl (Nat.le_of_ble_eq_true rfl) _ rfl dX6_losses_56 [.int z2, .ref (w.2.2 5 31 0 0)] rfl ?_
    obtain ⟨hg3, h⟩ := x_g_e h
    refine x_iald 6464 z2.toNatClampNeg rfl rfl rfl rfl (ok_e31 hw) hg3 dX6_losses_59 ?_
    refine x_goto (tgt := 65) dX6_losses_60 rfl ?_
    exact x_iretH rfl dX6_losses_65 h
set_option maxRecDepth 100000 in
set_option maxHeartbeats 4000000 in
theorem eX6_losses {l : Launch} {w : xW} (hw : w.1.2 = true) {a1 : Int32} {a2 : Int32} {σ τ : xS} {r : Int32} (h : fX6_losses a1 a2 σ = some (r, τ)) : xEV l w yX6_losses mX6_losses [.ref (w.2.2 5 30 0 0), .int a1, .int a2] σ (some (.int r)) τ := by
  rw [fX6_losses] at h
  refine x_enter (by decide +kernel) rfl (Nat.le_of_ble_eq_true rfl) ?_
  refine x_sub (L1 := [(0, .ref (w.2.2 5 30 0 0)), (1, .int a1), (2, .int a2)]) [0, 1, 2] rfl ?_
  refine x_aload_n dX6_losses_0 rfl 0 rfl ?_
  refine x_iload_n dX6_losses_1 rfl 1 rfl ?_
  obtain ⟨z1, s1, h1, h⟩ := x_b_e h
  refine x_callV (As := [.int a1]) (st := []) (eX6_isPort hw  h1) cv_X6_40 (Nat.le_of_ble_eq_true rfl) (ok_e30 hw) rfl (Nat.le_of_ble_eq_true rfl) _ rfl dX6_losses_2 [.int z1] rfl ?_
  refine x_if_ne (tgt := 10) dX6_losses_5 rfl (fun hc => ?_) (fun hc => ?_)
  · have h := x_f hc h
    refine x_iload_n dX6_losses_10 rfl 2 rfl ?_
    refine x_iconst (x := 2) dX6_losses_11 rfl ?_
    refine x_icmp_eq (tgt := 37) dX6_losses_12 rfl (fun hc => ?_) (fun hc => ?_)
    · have h := x_t hc h
      refine x_iconst (x := 1) dX6_losses_37 rfl ?_
      refine x_goto (tgt := 42) dX6_losses_38 rfl ?_
      refine x_sub (L1 := [(0, .ref (w.2.2 5 30 0 0)), (1, .int a1), (2, .int a2)]) [0, 1, 2] rfl ?_
      exact TX6_losses_42 hw  h
    · have h := x_f hc h
      refine x_iload_n dX6_losses_15 rfl 2 rfl ?_
      refine x_iconst (x := 3) dX6_losses_16 rfl ?_
      refine x_icmp_eq (tgt := 37) dX6_losses_17 rfl (fun hc => ?_) (fun hc => ?_)
      · have h := x_t hc h
        refine x_iconst (x := 1) dX6_losses_37 rfl ?_
        refine x_goto (tgt := 42) dX6_losses_38 rfl ?_
        refine x_sub (L1 := [(0, .ref (w.2.2 5 30 0 0)), (1, .int a1), (2, .int a2)]) [0, 1, 2] rfl ?_
        exact TX6_losses_42 hw  h
      · have h := x_f hc h
        refine x_iload_n dX6_losses_20 rfl 2 rfl ?_
        refine x_iconst (x := 5) dX6_losses_21 rfl ?_
        refine x_icmp_eq (tgt := 37) dX6_losses_22 rfl (fun hc => ?_) (fun hc => ?_)
        · have h := x_t hc h
          refine x_iconst (x := 1) dX6_losses_37 rfl ?_
          refine x_goto (tgt := 42) dX6_losses_38 rfl ?_
          refine x_sub (L1 := [(0, .ref (w.2.2 5 30 0 0)), (1, .int a1), (2, .int a2)]) [0, 1, 2] rfl ?_
          exact TX6_losses_42 hw  h
        · have h := x_f hc h
          refine x_iload_n dX6_losses_25 rfl 2 rfl ?_
          refine x_bipush (x := 8) dX6_losses_26 rfl ?_
          refine x_icmp_eq (tgt := 37) dX6_losses_28 rfl (fun hc => ?_) (fun hc => ?_)
          · have h := x_t hc h
            refine x_iconst (x := 1) dX6_losses_37 rfl ?_
            refine x_goto (tgt := 42) dX6_losses_38 rfl ?_
            refine x_sub (L1 := [(0, .ref (w.2.2 5 30 0 0)), (1, .int a1), (2, .int a2)]) [0, 1, 2] rfl ?_
            exact TX6_losses_42 hw  h
          · have h := x_f hc h
            refine x_iload_n dX6_losses_31 rfl 2 rfl ?_
            refine x_bipush (x := 9) dX6_losses_32 rfl ?_
            refine x_icmp_ne (tgt := 41) dX6_losses_34 rfl (fun hc => ?_) (fun hc => ?_)
            · have h := x_f hc h
              refine x_iconst (x := 0) dX6_losses_41 rfl ?_
              refine x_sub (L1 := [(0, .ref (w.2.2 5 30 0 0)), (1, .int a1), (2, .int a2)]) [0, 1, 2] rfl ?_
              exact TX6_losses_42 hw  h
            · have h := x_t hc h
              refine x_iconst (x := 1) dX6_losses_37 rfl ?_
              refine x_goto (tgt := 42) dX6_losses_38 rfl ?_
              refine x_sub (L1 := [(0, .ref (w.2.2 5 30 0 0)), (1, .int a1), (2, .int a2)]) [0, 1, 2] rfl ?_
              exact TX6_losses_42 hw  h
  · have h := x_t hc h
    refine x_iconst (x := (-1)) dX6_losses_8 (by decide) ?_
    exact x_iretH rfl dX6_losses_9 h
set_option maxRecDepth 100000 in
set_option maxHeartbeats 4000000 in
theorem eX6_lostCells {l : Launch} {w : xW} (hw : w.1.2 = true) {a1 : Int32} {σ τ : xS} {r : Int32} (h : fX6_lostCells a1 σ = some (r, τ)) : xEV l w yX6_lostCells mX6_lostCells [.ref (w.2.2 5 30 0 0), .int a1] σ (some (.int r)) τ := by
  rw [fX6_lostCells] at h
  refine x_enter (by decide +kernel) rfl (Nat.le_of_ble_eq_true rfl) ?_
  refine x_sub (L1 := [(0, .ref (w.2.2 5 30 0 0)), (1, .int a1)]) [0, 1] rfl ?_
  refine x_aload_n dX6_lostCells_0 rfl 0 rfl ?_
  refine x_iload_n dX6_lostCells_1 rfl 1 rfl ?_
  refine x_bipush (x := 10) dX6_lostCells_2 rfl ?_
  obtain ⟨z1, s1, h1, h⟩ := x_b_e h
  refine x_callV (As := [.int a1, .int 10]) (st := []) (eX6_ofPort hw  h1) cv_X6_183 (Nat.le_of_ble_eq_true rfl) (ok_e30 hw) rfl (Nat.le_of_ble_eq_true rfl) _ rfl dX6_lostCells_4 [.int z1] rfl ?_
  exact x_iretH rfl dX6_lostCells_7 h
