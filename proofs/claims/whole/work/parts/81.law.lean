/-! ===== the law, seen through the store ===== -/
def R_law : String := "SharedPacketBufferLaw"
abbrev mL : xM := (R_law, code, 4, (some .boolean), 13)
/-- what stands fast while the law runs -/
def wAmb (w : xW) (p : Program) (s : State) (m : MethodId) (c : Code) (b L : Nat) (xs : Nat → Int32) : Prop :=
  p.tables.exec = Jvm.exec ∧ c.code = code ∧ c.maxLocals = 4 ∧ s.vm.findClass R_law = some m.cls ∧ (∀ x ∈ xT, x.before #[Value.ref b] s = true) ∧ va_K w.1.1 vwCl (xTys w) s ∧ va_X b L xs s s.heap ∧ b < s.heap.size ∧ xInj w ∧ w.1.2 = true ∧ (∀ i ∈ x_ids true, s.heap.size ≤ x_ad w i)
def wAt (l : Launch) (w : xW) (p : Program) (e : Env) (s : State) (m : MethodId) (below : List Frame) (meth : Method) (c : Code) (b : Nat) (Q : State → Prop) (kc ns pc : Nat) (L : List (Nat × Value)) (st : List Value) (σ : xS) : Prop :=
  ∀ (H : Heap) (locs : List Loc) (ls : Array Slot), va_P w.1.1 vwCl (xC w σ) H → va_S (fun q => s.heap.size ≤ q) s.heap H locs → lv_has ls 4 L → W p l e room_1 s m #[Value.ref b] below meth c H locs kc ns Q (F0 m pc ls st)
section WL
variable {l : Launch} {w : xW} {p : Program} {e : Env} {s : State} {m : MethodId} {below : List Frame} {meth : Method} {c : Code} {b LL : Nat} {xs : Nat → Int32} {Q : State → Prop} {kc ns pc : Nat} {L : List (Nat × Value)} {st : List Value} {σ : xS}
theorem w_aload_n (C : wAmb w p s m c b LL xs) {j : Fin 4} {i x : Nat} (hd : decode code pc = .ok (.aload_n j, 1)) (hi : (j : Nat) = i) (q : Nat) (hq : L[q]? = some (i, .ref x)) (h : wAt l w p e s m below meth c b Q kc ns (pc + 1) L (.ref x :: st) σ) : wAt l w p e s m below meth c b Q kc ns pc L st σ := fun H locs ls hP hS hl => lv_aload_n C.1 C.2.1 hd hi (lv_at hl q hq) (h H locs ls hP hS hl)
theorem w_iload_n (C : wAmb w p s m c b LL xs) {j : Fin 4} {i : Nat} {x : Int32} (hd : decode code pc = .ok (.iload_n j, 1)) (hi : (j : Nat) = i) (q : Nat) (hq : L[q]? = some (i, .int x)) (h : wAt l w p e s m below meth c b Q kc ns (pc + 1) L (.int x :: st) σ) : wAt l w p e s m below meth c b Q kc ns pc L st σ := fun H locs ls hP hS hl => lv_iload_n C.1 C.2.1 hd hi (lv_at hl q hq) (h H locs ls hP hS hl)
theorem w_iconst (C : wAmb w p s m c b LL xs) {i : Int} {x : Int32} (hd : decode code pc = .ok (.iconst i, 1)) (hx : Int32.ofInt i = x) (h : wAt l w p e s m below meth c b Q kc ns (pc + 1) L (.int x :: st) σ) : wAt l w p e s m below meth c b Q kc ns pc L st σ := fun H locs ls hP hS hl => lv_iconst C.1 C.2.1 hd hx (h H locs ls hP hS hl)
theorem w_bipush (C : wAmb w p s m c b LL xs) {i : Int} {x : Int32} (hd : decode code pc = .ok (.bipush i, 2)) (hx : (Int8.ofInt i).toInt32 = x) (h : wAt l w p e s m below meth c b Q kc ns (pc + 2) L (.int x :: st) σ) : wAt l w p e s m below meth c b Q kc ns pc L st σ := fun H locs ls hP hS hl => lv_bipush C.1 C.2.1 hd hx (h H locs ls hP hS hl)
theorem w_iadd (C : wAmb w p s m c b LL xs) {x y : Int32} (t : Int32) (ht : x + y = t) (hd : decode code pc = .ok (.iadd, 1)) (h : wAt l w p e s m below meth c b Q kc ns (pc + 1) L (.int t :: st) σ) : wAt l w p e s m below meth c b Q kc ns pc L (.int y :: .int x :: st) σ := fun H locs ls hP hS hl => by subst ht; exact lv_iadd C.1 C.2.1 hd (h H locs ls hP hS hl)
theorem w_isub (C : wAmb w p s m c b LL xs) {x y : Int32} (hd : decode code pc = .ok (.isub, 1)) (h : wAt l w p e s m below meth c b Q kc ns (pc + 1) L (.int (x - y) :: st) σ) : wAt l w p e s m below meth c b Q kc ns pc L (.int y :: .int x :: st) σ := fun H locs ls hP hS hl => lv_isub C.1 C.2.1 hd (h H locs ls hP hS hl)
theorem w_iand (C : wAmb w p s m c b LL xs) {x y : Int32} (hd : decode code pc = .ok (.iand, 1)) (h : wAt l w p e s m below meth c b Q kc ns (pc + 1) L (.int (x &&& y) :: st) σ) : wAt l w p e s m below meth c b Q kc ns pc L (.int y :: .int x :: st) σ := fun H locs ls hP hS hl => lv_iand C.1 C.2.1 hd (h H locs ls hP hS hl)
theorem w_goto (C : wAmb w p s m c b LL xs) {off : Int} {tgt : Nat} (hd : decode code pc = .ok (.goto off, 3)) (ht : (pc : Int) + off = (tgt : Int)) (h : wAt l w p e s m below meth c b Q kc ns tgt L st σ) : wAt l w p e s m below meth c b Q kc ns pc L st σ := fun H locs ls hP hS hl => lv_goto C.1 C.2.1 hd ht (h H locs ls hP hS hl)
theorem w_eq_t (C : wAmb w p s m c b LL xs) {x y : Int32} {off : Int} {tgt : Nat} (hc : x = y) (hd : decode code pc = .ok (.if_icmp .eq off, 3)) (ht : (pc : Int) + off = (tgt : Int)) (h : wAt l w p e s m below meth c b Q kc ns tgt L st σ) : wAt l w p e s m below meth c b Q kc ns pc L (.int y :: .int x :: st) σ := fun H locs ls hP hS hl => lv_icmp_eq C.1 C.2.1 hd ht (fun _ => h H locs ls hP hS hl) (fun q => absurd hc q)
theorem w_gt_t (C : wAmb w p s m c b LL xs) {x y : Int32} {off : Int} {tgt : Nat} (hc : y < x) (hd : decode code pc = .ok (.if_icmp .gt off, 3)) (ht : (pc : Int) + off = (tgt : Int)) (h : wAt l w p e s m below meth c b Q kc ns tgt L st σ) : wAt l w p e s m below meth c b Q kc ns pc L (.int y :: .int x :: st) σ := fun H locs ls hP hS hl => lv_icmp_gt C.1 C.2.1 hd ht (fun _ => h H locs ls hP hS hl) (fun q => absurd hc q)
theorem w_gt_f (C : wAmb w p s m c b LL xs) {x y : Int32} {off : Int} {tgt : Nat} (hc : ¬ y < x) (hd : decode code pc = .ok (.if_icmp .gt off, 3)) (ht : (pc : Int) + off = (tgt : Int)) (h : wAt l w p e s m below meth c b Q kc ns (pc + 3) L st σ) : wAt l w p e s m below meth c b Q kc ns pc L (.int y :: .int x :: st) σ := fun H locs ls hP hS hl => lv_icmp_gt C.1 C.2.1 hd ht (fun q => absurd q hc) (fun _ => h H locs ls hP hS hl)
theorem w_ifeq_t (C : wAmb w p s m c b LL xs) {x : Int32} {off : Int} {tgt : Nat} (hc : x = 0) (hd : decode code pc = .ok (.ifCond .eq off, 3)) (ht : (pc : Int) + off = (tgt : Int)) (h : wAt l w p e s m below meth c b Q kc ns tgt L st σ) : wAt l w p e s m below meth c b Q kc ns pc L (.int x :: st) σ := fun H locs ls hP hS hl => lv_if_eq C.1 C.2.1 hd ht (fun _ => h H locs ls hP hS hl) (fun q => absurd hc q)
theorem w_ifeq_f (C : wAmb w p s m c b LL xs) {x : Int32} {off : Int} {tgt : Nat} (hc : ¬ x = 0) (hd : decode code pc = .ok (.ifCond .eq off, 3)) (ht : (pc : Int) + off = (tgt : Int)) (h : wAt l w p e s m below meth c b Q kc ns (pc + 3) L st σ) : wAt l w p e s m below meth c b Q kc ns pc L (.int x :: st) σ := fun H locs ls hP hS hl => lv_if_eq C.1 C.2.1 hd ht (fun q => absurd q hc) (fun _ => h H locs ls hP hS hl)
theorem w_lcmp (C : wAmb w p s m c b LL xs) {x : Int64} (hd : decode code pc = .ok (.lcmp, 1)) (h : wAt l w p e s m below meth c b Q kc ns (pc + 1) L (.int 0 :: st) σ) : wAt l w p e s m below meth c b Q kc ns pc L (.long x :: .long x :: st) σ := fun H locs ls hP hS hl => W.lcmp C.1 C.2.1 hd (by
  have q : lg_cmp x x = 0 := by simp [lg_cmp]
  rw [q]
  exact h H locs ls hP hS hl)
theorem w_iinc (C : wAmb w p s m c b LL xs) {i : Nat} {d : Int} {x : Int32} (t : Int32) (ht : x + Int32.ofInt d = t) (hd : decode code pc = .ok (.iinc i d, 3)) (j : Nat) (hj : L[j]? = some (i, .int x)) (hn : i < 4) (L1 : List (Nat × Value)) (hL : (i, Value.int t) :: L.filter (fun q => !(q.1 == i) && !(q.1 + 1 == i && q.2.category == 2)) = L1) (h : wAt l w p e s m below meth c b Q kc ns (pc + 3) L1 st σ) : wAt l w p e s m below meth c b Q kc ns pc L st σ := fun H locs ls hP hS hl => lv_iinc C.1 C.2.1 hd hl hj ht hn hL fun ls1 hl1 => h H locs ls1 hP hS hl1
theorem w_sub {L1 : List (Nat × Value)} (ks : List Nat) (hk : lv_pick L ks = L1) (h : wAt l w p e s m below meth c b Q kc ns pc L1 st σ) : wAt l w p e s m below meth c b Q kc ns pc L st σ := fun H locs ls hP hS hl => h H locs ls hP hS (lv_sub hl ks hk)
theorem w_X (C : wAmb w p s m c b LL xs) {H : Heap} {locs : List Loc} (hS : va_S (fun q => s.heap.size ≤ q) s.heap H locs) : va_X b LL xs s H := C.2.2.2.2.2.2.1.kept (hS.2.1 b C.2.2.2.2.2.2.2.1 (Nat.not_le.mpr C.2.2.2.2.2.2.2.1))
theorem w_slen (C : wAmb w p s m c b LL xs) (hd : decode code pc = .ok (.arraylength, 1)) (h : wAt l w p e s m below meth c b Q kc ns (pc + 1) L (.int (nI LL) :: st) σ) : wAt l w p e s m below meth c b Q kc ns pc L (.ref b :: st) σ := fun H locs ls hP hS hl => by
  obtain ⟨scr, h1, h2, h3, h4, h5⟩ := w_X C hS
  exact W.alen C.1 C.2.1 h1 h2 (by rw [h4]; rfl) rfl rfl hd (h H locs ls hP hS hl)
theorem w_sld (C : wAmb w p s m c b LL xs) {x : Int32} (j : Nat) (hx : x = nI j) (hj : j < LL) (hLL : LL < 2 ^ 31) (hd : decode code pc = .ok (.iaload, 1)) (h : wAt l w p e s m below meth c b Q kc ns (pc + 1) L (.int (xs j) :: st) σ) : wAt l w p e s m below meth c b Q kc ns pc L (.int x :: .ref b :: st) σ := fun H locs ls hP hS hl => by
  obtain ⟨scr, h1, h2, h3, h4, h5⟩ := w_X C hS
  have hcl : x.toNatClampNeg = j := by rw [hx]; exact nI_clamp (by omega)
  refine W.iald (v := .int (xs j)) C.1 C.2.1 h1 h2 h3 ?_ ?_ rfl rfl hd (h H locs ls hP hS hl)
  · rw [h4, hx]; exact nI_in hj hLL
  · rw [hcl]; exact h5 j hj
theorem w_call (C : wAmb w p s m c b LL xs) {ix d K pp r n : Nat} {y : MethodName} {N : xM} {As : List Value} {σ1 : xS} {v1 : Option Value} (hE : xEV l w y N (.ref (w.2.2 d K pp r) :: As) σ v1 σ1) (hc : xCv R_law ix y N K n) (hlv : N.2.2.2.2 < 13) (hok : x_ok w.1.2 d K pp r = true) (hn : As.length = n) (hst : (st.map fun v => v.category).sum ≤ 8) (hroom : kc ≤ 600000 ∧ ns ≤ 7302250) (st0 : List Value) (hs0 : st0 = As.reverse ++ .ref (w.2.2 d K pp r) :: st) (hd : decode code pc = .ok (.invokevirtual ix, 3)) (st1 : List Value) (hs1 : v1.toList ++ st = st1) (h : wAt l w p e s m below meth c b Q kc ns (pc + 3) L st1 σ1) : wAt l w p e s m below meth c b Q kc ns pc L st0 σ := by
  subst hs0
  subst hs1
  intro H locs ls hP hS hl
  obtain ⟨h1, h2, h3, h4, h5, h6, h7, o, T, nf, ho, hcl⟩ := hc
  obtain ⟨hx, hb, hml, hown, hts, hK, hX, hbl, hinj, hf, hnew⟩ := C
  obtain ⟨q0, hq, he⟩ := x_pos w σ hok
  have he' : (xC w σ)[q0]? = some (w.2.2 d K pp r, .inr (o.1, (List.range o.2).map fun k => x_fv w σ d K pp r k)) := by rw [he, x_cell, ho]
  have cb : CallB room_1 s #[Value.ref b] R_law ix y N.2.1 N.2.2.1 N.2.2.2.1 (Cond.code y N.2.1 N.2.2.1 N.2.2.2.1 :: xT) (xRm N.2.2.2.2) 0 0 n :=
    callB_of n hts (x_GoodIn h5) rfl rfl rfl (hts _ h4) (hts _ h1) h6 ⟨by show N.2.2.2.2 + 1 ≤ 14; omega, by show 8 + (N.2.2.1 + 11) + 40 * N.2.2.2.2 ≤ 556; omega⟩
  have hr := va_runV (p := p) (e := e) (below := below) (meth := meth) (H := H) (locs := locs) (cells := kc) (slots := ns) (g := F0 m pc ls (As.reverse ++ .ref (w.2.2 d K pp r) :: st)) (As := As) (rest := st) (C := y.cls) ⟨hx, hb, hml, hown, hts⟩ (hE H.size) ⟨cb, hts _ h2, hts _ h3⟩ ⟨x_blind w σ H.size _, va_recv hK hP hcl he', fun U hU hW => ⟨rfl, hinj, by rw [hU], by rw [hU]; exact hP, va_K.moved hW.alike hK⟩⟩ rfl hn hl.1 rfl (lv_room hst) hd ⟨hroom.1, hroom.2⟩
  have hA : ∀ q, xA w H.size q → s.heap.size ≤ q := fun q hq => hq.elim (fun ⟨i, hi, e1⟩ => e1 ▸ hnew i (hf ▸ hi)) (fun z => Nat.le_trans hS.1 z)
  intro T hT XS
  obtain ⟨v0, st₀, t, T', Lx, hh0, X', hL, e1, e2, ⟨hv, hP1, hz, hkk⟩, stp⟩ := hr T hT XS
  cases hv
  rw [hh0] at hz hkk
  obtain ⟨t2, a1, b1⟩ := h T'.heap (locs ++ Lx) ls (by rw [e1]; exact hP1) ⟨Nat.le_trans hS.1 (by rw [e1]; exact hz), fun q q1 q2 => by rw [e1, hkk q (Nat.lt_of_lt_of_le q1 hS.1) (fun z => q2 (hA q z))]; exact hS.2.1 q q1 q2, fun q hq => by
      rcases List.mem_append.mp hq with q3 | q3
      · exact hS.2.2 q q3
      · exact hA _ (hL q q3)⟩ hl T' rfl X'
  exact ⟨t2, stp t2 a1, b1⟩
theorem w_tableIn (C : wAmb w p s m c b LL xs) {dflt lo hi : Int} {offs : Array Int} {len : Nat} {x : Int32} {off : Int} {tgt : Nat} (hd : decode code pc = .ok (.tableswitch dflt lo hi offs, len)) (h1 : ¬ x.toInt < lo) (h2 : ¬ hi < x.toInt) (ho : offs[(x.toInt - lo).toNat]? = some off) (ht : (pc : Int) + off = (tgt : Int)) (h : wAt l w p e s m below meth c b Q kc ns tgt L st σ) : wAt l w p e s m below meth c b Q kc ns pc L (.int x :: st) σ := fun H locs ls hP hS hl => lv_tableIn C.1 C.2.1 hd h1 h2 ho ht (h H locs ls hP hS hl)
theorem w_tableOut (C : wAmb w p s m c b LL xs) {dflt lo hi : Int} {offs : Array Int} {len : Nat} {x : Int32} {tgt : Nat} (hd : decode code pc = .ok (.tableswitch dflt lo hi offs, len)) (h1 : x.toInt < lo ∨ hi < x.toInt) (ht : (pc : Int) + dflt = (tgt : Int)) (h : wAt l w p e s m below meth c b Q kc ns tgt L st σ) : wAt l w p e s m below meth c b Q kc ns pc L (.int x :: st) σ := fun H locs ls hP hS hl => lv_tableOut C.1 C.2.1 hd h1 ht (h H locs ls hP hS hl)
end WL
