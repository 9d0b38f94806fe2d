/-! ===== constructors: cells that come one behind another, at addresses that are counted from the size of the heap ===== -/
def kB (h0 sz : Nat) : Nat → Prop := fun q => q = h0 ∨ sz ≤ q
def kAO (U : State) : Prop := va_AO RX2 U ∧ va_AO RX3 U ∧ va_AO RX0 U
theorem kAO.moved {u U : State} (hvm : u.vm.Alike U.vm) (h : kAO u) : kAO U := ⟨h.1.moved hvm, h.2.1.moved hvm, h.2.2.moved hvm⟩
def kQ (w : xW) (B : Nat → Prop) (wF : va_W) (kF : Nat) (b : Bool) : Array Value → State → Outcome → State → Prop := fun _ st oc t => oc = .returned none ∧ va_P w.1.1 vwCl wF t.heap ∧ va_D B wF ∧ (b = true → t.heap.size = st.heap.size + kF) ∧ va_F B st t
def kAmb (w : xW) (M : xM) (kF nF : Nat) (p : Program) (R : Room) (s : State) (m : MethodId) (args : Array Value) (meth : Method) (c : Code) : Prop :=
  p.tables.exec = Jvm.exec ∧ c.code = M.2.1 ∧ meth.sig.returnType = none ∧ c.maxLocals = M.2.2.1 ∧ (∀ x ∈ xT, x.before args s = true) ∧ s.vm.findClass M.1 = some m.cls ∧ va_K w.1.1 vwCl (xTys w) s ∧ meth.locks = false ∧ meth.name = "<init>" ∧ kAO s ∧ M.2.2.2.2 ≤ R.frames ∧ 40 * M.2.2.2.2 ≤ R.locals ∧ kF ≤ R.cells ∧ nF ≤ R.slots
def kAt (l : Launch) (w : xW) (M : xM) (B : Nat → Prop) (sz : Nat) (wF : va_W) (kF nF : Nat) (b : Bool) (pc : Nat) (L : List (Nat × Value)) (st : List Value) (ws : va_W) (k n : Nat) : Prop :=
  ∀ (p : Program) (e : Env) (R : Room) (s : State) (m : MethodId) (args : Array Value) (below : List Frame) (meth : Method) (c : Code) (H : Heap) (locs : List Loc) (ls : Array Slot), kAmb w M kF nF p R s m args meth c → s.heap.size = sz → (∀ q, sz ≤ q → B q) → H.size = sz + k → va_P w.1.1 vwCl ws H → va_D B ws → va_S B s.heap H locs → lv_has ls M.2.2.1 L → W p l e R s m args below meth c H locs k n (MQ below (kQ w B wF kF b) args s kF nF B) (F0 m pc ls st)
def kPre (w : xW) (sz : Nat) (ws0 : va_W) (U : State) : Prop := U.heap.size = sz ∧ va_P w.1.1 vwCl ws0 U.heap ∧ va_K w.1.1 vwCl (xTys w) U ∧ kAO U
def kEV (l : Launch) (w : xW) (y : MethodName) (M : xM) (av : List Value) (B : Nat → Prop) (sz : Nat) (ws0 : va_W) (wF : va_W) (kF nF : Nat) (b : Bool) : Prop :=
  Met l y (Cond.code y M.2.1 M.2.2.1 none :: xT) { frames := M.2.2.2.2, cells := kF, slots := nF, locals := 40 * M.2.2.2.2 } (va_Pc av (kPre w sz ws0)) (kQ w B wF kF b) kF nF B
theorem k_blind (w : xW) (sz : Nat) (ws0 : va_W) (av : List Value) : FrameBlind (va_Pc av (kPre w sz ws0)) := fun a U g mk q => by
  obtain ⟨q0, q1, qP, qK, qA⟩ := q
  exact ⟨q0, q1, qP, va_K.moved (u := U) (U := U.calling g mk a) (Vm.Alike.refl U.vm) qK, qA.moved (u := U) (U := U.calling g mk a) (Vm.Alike.refl U.vm)⟩
section XK
variable {l : Launch} {w : xW} {M : xM} {B : Nat → Prop} {sz : Nat} {wF : va_W} {kF nF : Nat} {b : Bool} {pc : Nat} {L : List (Nat × Value)} {st : List Value} {ws : va_W} {k n : Nat}
theorem k_enterB {y : MethodName} {av : List Value} {ws0 : va_W} (hy : plainName y.cls = true) (hc : y.cls = M.1) (hni : y.name = "<init>") (hn : (lg_sl av).length ≤ M.2.2.1) (hB : ∀ q, sz ≤ q → B q) (hD : va_D B ws0) (h : kAt l w M B sz wF kF nF b 0 (lv_args 0 av) [] ws0 0 0) : kEV l w y M av B sz ws0 wF kF nF b := by
  refine Met.ofW (cc := M.2.1) (maxL := M.2.2.1) (ret := none) hy rfl ?_
  intro p e s m args below meth c s₁ Bd hml hv
  obtain ⟨rfl, hsz, hP, hK, hAO⟩ := hv
  have hts := atoms_spec (ws := Cond.code y M.2.1 M.2.2.1 none :: xT) Bd.pre
  have hown : s.vm.findClass M.1 = some m.cls := by rw [← hc]; exact findClass_of_methodNamed Bd.named
  have hin : meth.name = "<init>" := (name_of_methodNamed Bd.named Bd.method).1.trans hni
  have hl := lv_entry av (n := M.2.2.1) hn
  rw [lg_entry_eq]
  exact h p e _ s m _ below meth c s.heap [] _ ⟨Bd.exec, Bd.bytes, Bd.returns, hml, fun x hx => hts x (List.mem_cons_of_mem _ hx), hown, hK, Bd.notSynchronized, hin, hAO, Nat.le_refl _, Nat.le_refl _, Nat.le_refl _, Nat.le_refl _⟩ hsz hB hsz hP hD va_S.rf hl
theorem k_enter {y : MethodName} {av : List Value} {h0 : Nat} {raw : va_E} (hy : plainName y.cls = true) (hc : y.cls = M.1) (hni : y.name = "<init>") (hn : (lg_sl av).length ≤ M.2.2.1) (h : kAt l w M (kB h0 sz) sz wF kF nF b 0 (lv_args 0 av) [] [(h0, raw)] 0 0) : kEV l w y M av (kB h0 sz) sz [(h0, raw)] wF kF nF b := by
  refine k_enterB hy hc hni hn (fun q hq => Or.inr hq) ⟨fun i j x y hi hj _ => ?_, fun i x hi => ?_⟩ h
  · have hi1 : i < 1 := (List.getElem?_eq_some_iff.mp hi).1
    have hj1 : j < 1 := (List.getElem?_eq_some_iff.mp hj).1
    omega
  · have hi1 : i < 1 := (List.getElem?_eq_some_iff.mp hi).1
    rw [show i = 0 by omega] at hi
    cases hi
    exact Or.inl rfl
theorem k_ws {ws1 : va_W} (he : ws = ws1) (h : kAt l w M B sz wF kF nF b pc L st ws1 k n) : kAt l w M B sz wF kF nF b pc L st ws k n := by subst he; exact h
theorem k_kn {k1 n1 : Nat} (hk : k = k1) (hn : n = n1) (h : kAt l w M B sz wF kF nF b pc L st ws k1 n1) : kAt l w M B sz wF kF nF b pc L st ws k n := by subst hk; subst hn; exact h
theorem k_aload_n {j : Fin 4} {i x : Nat} (hd : decode M.2.1 pc = .ok (.aload_n j, 1)) (hi : (j : Nat) = i) (q : Nat) (hq : L[q]? = some (i, .ref x)) (h : kAt l w M B sz wF kF nF b (pc + 1) L (.ref x :: st) ws k n) : kAt l w M B sz wF kF nF b pc L st ws k n := fun p e R s m args below meth c H locs ls A hsz hB hH hP hD hS hl => lv_aload_n A.1 A.2.1 hd hi (lv_at hl q hq) (h p e R s m args below meth c H locs ls A hsz hB hH hP hD hS hl)
theorem k_iload_n {j : Fin 4} {i : Nat} {x : Int32} (hd : decode M.2.1 pc = .ok (.iload_n j, 1)) (hi : (j : Nat) = i) (q : Nat) (hq : L[q]? = some (i, .int x)) (h : kAt l w M B sz wF kF nF b (pc + 1) L (.int x :: st) ws k n) : kAt l w M B sz wF kF nF b pc L st ws k n := fun p e R s m args below meth c H locs ls A hsz hB hH hP hD hS hl => lv_iload_n A.1 A.2.1 hd hi (lv_at hl q hq) (h p e R s m args below meth c H locs ls A hsz hB hH hP hD hS hl)
theorem k_iconst {i : Int} {x : Int32} (hd : decode M.2.1 pc = .ok (.iconst i, 1)) (hx : Int32.ofInt i = x) (h : kAt l w M B sz wF kF nF b (pc + 1) L (.int x :: st) ws k n) : kAt l w M B sz wF kF nF b pc L st ws k n := fun p e R s m args below meth c H locs ls A hsz hB hH hP hD hS hl => lv_iconst A.1 A.2.1 hd hx (h p e R s m args below meth c H locs ls A hsz hB hH hP hD hS hl)
theorem k_bipush {i : Int} {x : Int32} (hd : decode M.2.1 pc = .ok (.bipush i, 2)) (hx : (Int8.ofInt i).toInt32 = x) (h : kAt l w M B sz wF kF nF b (pc + 2) L (.int x :: st) ws k n) : kAt l w M B sz wF kF nF b pc L st ws k n := fun p e R s m args below meth c H locs ls A hsz hB hH hP hD hS hl => lv_bipush A.1 A.2.1 hd hx (h p e R s m args below meth c H locs ls A hsz hB hH hP hD hS hl)
theorem k_sipush {i : Int} {x : Int32} (hd : decode M.2.1 pc = .ok (.sipush i, 3)) (hx : (Int16.ofInt i).toInt32 = x) (h : kAt l w M B sz wF kF nF b (pc + 3) L (.int x :: st) ws k n) : kAt l w M B sz wF kF nF b pc L st ws k n := fun p e R s m args below meth c H locs ls A hsz hB hH hP hD hS hl => lv_sipush A.1 A.2.1 hd hx (h p e R s m args below meth c H locs ls A hsz hB hH hP hD hS hl)
theorem k_dup {a : Value} (hd : decode M.2.1 pc = .ok (.dup, 1)) (ha : a.category = 1) (h : kAt l w M B sz wF kF nF b (pc + 1) L (a :: a :: st) ws k n) : kAt l w M B sz wF kF nF b pc L (a :: st) ws k n := fun p e R s m args below meth c H locs ls A hsz hB hH hP hD hS hl => lv_dup A.1 A.2.1 hd ha (h p e R s m args below meth c H locs ls A hsz hB hH hP hD hS hl)
theorem k_goto {off : Int} {tgt : Nat} (hd : decode M.2.1 pc = .ok (.goto off, 3)) (ht : (pc : Int) + off = (tgt : Int)) (h : kAt l w M B sz wF kF nF b tgt L st ws k n) : kAt l w M B sz wF kF nF b pc L st ws k n := fun p e R s m args below meth c H locs ls A hsz hB hH hP hD hS hl => lv_goto A.1 A.2.1 hd ht (h p e R s m args below meth c H locs ls A hsz hB hH hP hD hS hl)
theorem k_istore_n {j : Fin 4} {i : Nat} {x : Int32} (hd : decode M.2.1 pc = .ok (.istore_n j, 1)) (hi : (j : Nat) = i) (hn : i < M.2.2.1) (L1 : List (Nat × Value)) (hL : (i, Value.int x) :: L.filter (fun q => !(q.1 == i) && !(q.1 + 1 == i && q.2.category == 2)) = L1) (h : kAt l w M B sz wF kF nF b (pc + 1) L1 st ws k n) : kAt l w M B sz wF kF nF b pc L (.int x :: st) ws k n := fun p e R s m args below meth c H locs ls A hsz hB hH hP hD hS hl => lv_istore_n A.1 A.2.1 hd hi hl hn hL fun ls1 hl1 => h p e R s m args below meth c H locs ls1 A hsz hB hH hP hD hS hl1
theorem k_iinc {i : Nat} {d : Int} {x : Int32} (t : Int32) (he : x + Int32.ofInt d = t) (hd : decode M.2.1 pc = .ok (.iinc i d, 3)) (j : Nat) (hj : L[j]? = some (i, .int x)) (hn : i < M.2.2.1) (L1 : List (Nat × Value)) (hL : (i, Value.int t) :: L.filter (fun q => !(q.1 == i) && !(q.1 + 1 == i && q.2.category == 2)) = L1) (h : kAt l w M B sz wF kF nF b (pc + 3) L1 st ws k n) : kAt l w M B sz wF kF nF b pc L st ws k n := fun p e R s m args below meth c H locs ls A hsz hB hH hP hD hS hl => lv_iinc A.1 A.2.1 hd hl hj he hn hL fun ls1 hl1 => h p e R s m args below meth c H locs ls1 A hsz hB hH hP hD hS hl1
theorem k_ge_t {x y : Int32} {off : Int} {tgt : Nat} (hc : y ≤ x) (hd : decode M.2.1 pc = .ok (.if_icmp .ge off, 3)) (ht : (pc : Int) + off = (tgt : Int)) (h : kAt l w M B sz wF kF nF b tgt L st ws k n) : kAt l w M B sz wF kF nF b pc L (.int y :: .int x :: st) ws k n := fun p e R s m args below meth c H locs ls A hsz hB hH hP hD hS hl => lv_icmp_ge A.1 A.2.1 hd ht (fun _ => h p e R s m args below meth c H locs ls A hsz hB hH hP hD hS hl) (fun q => absurd hc q)
theorem k_ge_f {x y : Int32} {off : Int} {tgt : Nat} (hc : ¬ y ≤ x) (hd : decode M.2.1 pc = .ok (.if_icmp .ge off, 3)) (ht : (pc : Int) + off = (tgt : Int)) (h : kAt l w M B sz wF kF nF b (pc + 3) L st ws k n) : kAt l w M B sz wF kF nF b pc L (.int y :: .int x :: st) ws k n := fun p e R s m args below meth c H locs ls A hsz hB hH hP hD hS hl => lv_icmp_ge A.1 A.2.1 hd ht (fun q => absurd q hc) (fun _ => h p e R s m args below meth c H locs ls A hsz hB hH hP hD hS hl)
theorem k_objInit {ix x : Nat} (hlk : Cond.methodLink M.1 ix objectInit ∈ xT) (hw : Cond.instanceMethod objectInit ∈ xT ∧ Cond.code objectInit ⟨#[0xb1]⟩ 1 none ∈ xT) (hlv : 1 ≤ M.2.2.2.2) (hst : st = []) (hd : decode M.2.1 pc = .ok (.invokespecial ix, 3)) (h : kAt l w M B sz wF kF nF b (pc + 3) L st ws k n) : kAt l w M B sz wF kF nF b pc L (.ref x :: st) ws k n := by
  subst hst
  intro p e R s m args below meth c H locs ls A hsz hB hH hP hD hS hl
  have hts := A.2.2.2.2.1
  have A2 := A
  obtain ⟨-, -, -, -, -, -, -, -, -, -, hfr, hlo, -, -⟩ := A2
  refine W.objInit A.1 A.2.1 A.2.2.2.2.2.1 (hts _ hlk) (hts _ hw.1) (hts _ hw.2) rfl (by rw [A.2.2.2.1]; exact hl.1) rfl hd (Nat.le_trans hlv hfr) (by show 2 * 0 + 0 + 12 ≤ R.locals; omega) ?_
  exact h p e R s m args below meth c H locs ls A hsz hB hH hP hD hS hl
theorem k_new {ix ci N : Nat} {C : String} {T : u_T} {ty : Nat → FieldType} {fs : List Value} (hcl : Cond.classLink M.1 ix C ∈ xT) (hins : Cond.instantiable C N ∈ xT) (hini : Cond.initialized C ∈ xT) (hc : vwCl[ci]? = some (C, T, N)) (hin : ∀ x ∈ u_ws C T N, x ∈ xT) (hty : ∀ k, k < N → parseFieldDescriptor (T k).2.2.1 = some (ty k)) (hfs : ∀ j, j < N → defaultValue (ty j) = vp_V fs j) (hk : k + 1 ≤ kF) (hn : n + N ≤ nF) (hd : decode M.2.1 pc = .ok (.new ix, 3)) (h : kAt l w M B sz wF kF nF b (pc + 3) L (.ref (sz + k) :: st) (ws ++ [(sz + k, .inr (ci, fs))]) (k + 1) (n + N)) : kAt l w M B sz wF kF nF b pc L st ws k n := by
  intro p e R s m args below meth c H locs ls A hsz hB hH hP hD hS hl
  have hts := A.2.2.2.2.1
  have hKn := A.2.2.2.2.2.2.1.1 ci _ hc
  have A2 := A
  obtain ⟨-, -, -, -, -, -, -, -, -, -, hfr, hlo, hce, hsl⟩ := A2
  refine W.newcK A.1 A.2.1 A.2.2.2.2.2.1 (hts _ hcl) (hts _ hins) (hts _ hini) rfl hd (by omega) (by omega) hKn.2.1 hH fun H1 kC hkC e1 z1 o1 => ?_
  have hk1 : ∀ (i : Nat) (x : Nat × va_E), ws[i]? = some x → H1[x.1]? = H[x.1]? := fun i x hx => o1 x.1 (by rw [← hH]; exact (hP i x hx).lt)
  have hA1 : B (sz + k) := hB _ (by omega)
  refine h p e R s m args below meth c H1 locs ls A hsz hB (by omega) ((hP.kept hk1).app (fun i x hx => ?_)) (hD.push hP hH.symm hA1) ⟨by omega, fun x h1 h2 => (o1 x (by omega)).trans (hS.2.1 x h1 h2), hS.2.2⟩ hl
  have hz : i < 1 := (List.getElem?_eq_some_iff.mp hx).1
  rw [show i = 0 by omega] at hx
  cases hx
  exact ⟨_, hc, (u_born ty hts hin hKn hkC e1 hty).to hfs⟩
theorem k_newa {atype : ArrayType} {ty : FieldType} {x : Int32} {N t : Nat} (a0 : vp_A) (hw : Cond.arrayClass (newarray.typeOf atype) ∈ xT) (hty : newarray.typeOf atype = ty) (hty2 : ty = .int ∨ ty = .boolean) (ht : (xTys w)[t]? = some (w.2.1 t, ty)) (ha : ∀ cA : ClassId, vp_cell cA a0 = arrV cA N (fun _ => defaultValue ty)) (hx : ¬ x < 0) (hN : x.toNatClampNeg = N) (hby : N * componentBytes ty ≤ 536870912) (hk : k + 1 ≤ kF) (hn : n + N ≤ nF) (hd : decode M.2.1 pc = .ok (.newarray atype, 2)) (h : kAt l w M B sz wF kF nF b (pc + 2) L (.ref (sz + k) :: st) (ws ++ [(sz + k, .inl (w.2.1 t, a0))]) (k + 1) (n + N)) : kAt l w M B sz wF kF nF b pc L (.int x :: st) ws k n := by
  subst hty
  intro p e R s m args below meth c H locs ls A hsz hB hH hP hD hS hl
  have hts := A.2.2.2.2.1
  have hRA := (A.2.2.2.2.2.2.1.2 t _ ht).2
  have A2 := A
  obtain ⟨-, -, -, -, -, -, -, -, -, -, hfr, hlo, hce, hsl⟩ := A2
  refine va_newaK A.1 A.2.1 (hts _ hw) rfl hd rfl hx hN hby (by omega) (by omega) hH fun H1 cA e1 z1 o1 hAr hNm => ?_
  have hcA : cA = w.2.1 t := by
    rcases hty2 with q | q <;> rw [q] at hRA hNm <;> exact Option.some.inj (hNm.symm.trans hRA)
  subst hcA
  have hk1 : ∀ (i : Nat) (x : Nat × va_E), ws[i]? = some x → H1[x.1]? = H[x.1]? := fun i x hx => o1 x.1 (by rw [← hH]; exact (hP i x hx).lt)
  have hA1 : B (sz + k) := hB _ (by omega)
  refine h p e R s m args below meth c H1 locs ls A hsz hB (by omega) ((hP.kept hk1).app (fun i x hx => ?_)) (hD.push hP hH.symm hA1) ⟨by omega, fun x h1 h2 => (o1 x (by omega)).trans (hS.2.1 x h1 h2), hS.2.2⟩ hl
  have hz : i < 1 := (List.getElem?_eq_some_iff.mp hx).1
  rw [show i = 0 by omega] at hx
  cases hx
  show H1[sz + k]? = some (vp_cell _ _)
  rw [ha]
  exact e1
theorem k_anew {C : String} {ix : Nat} {x : Int32} {N t : Nat} (hcl : Cond.classLink M.1 ix C ∈ xT) (hov : ∀ U, kAO U → va_AO C U) (ht : (xTys w)[t]? = some (w.2.1 t, .object C)) (hx : ¬ x < 0) (hN : x.toNatClampNeg = N) (hby : N * 4 ≤ 536870912) (hk : k + 1 ≤ kF) (hn : n + N ≤ nF) (hd : decode M.2.1 pc = .ok (.anewarray ix, 3)) (h : kAt l w M B sz wF kF nF b (pc + 3) L (.ref (sz + k) :: st) (ws ++ [(sz + k, .inl (w.2.1 t, (N, .inr (.inr (.inr (.inr (fun _ => none)))))))]) (k + 1) (n + N)) : kAt l w M B sz wF kF nF b pc L (.int x :: st) ws k n := by
  subst hN
  intro p e R s m args below meth c H locs ls A hsz hB hH hP hD hS hl
  have hts := A.2.2.2.2.1
  have hRA := (A.2.2.2.2.2.2.1.2 t _ ht).2
  have A2 := A
  obtain ⟨-, -, -, -, -, -, -, -, -, hao, hfr, hlo, hce, hsl⟩ := A2
  refine W.anew A.1 A.2.1 A.2.2.2.2.2.1 (hts _ hcl) (va_AO.use (hov s hao)) rfl hd rfl hx hby (by omega) (by omega) fun cA kA comp f1 f2 f3 f4 => ?_
  have hcA : cA = w.2.1 t := by
    obtain ⟨_, _, -, -, -, g4⟩ := hRA
    exact Option.some.inj (f1.symm.trans g4)
  subst hcA
  generalize hH1 : H.push ({ cls := w.2.1 t, slots := Array.replicate x.toNatClampNeg .null, vm := .none } : Cell) = H1
  have z1 : H1.size = H.size + 1 := by rw [← hH1, Array.size_push]
  have e1 : H1[H.size]? = some (arrV (w.2.1 t) x.toNatClampNeg (fun _ => .null)) := by rw [← hH1, Array.getElem?_push_size, ← arrV_new]
  have o1 : ∀ q : Nat, q < H.size → H1[q]? = H[q]? := fun q hq => by rw [← hH1, Array.getElem?_push, if_neg (Nat.ne_of_lt hq)]
  have hk1 : ∀ (i : Nat) (x : Nat × va_E), ws[i]? = some x → H1[x.1]? = H[x.1]? := fun i x hx => o1 x.1 ((hP i x hx).lt)
  have hA1 : B (sz + k) := hB _ (by omega)
  have hh := h p e R s m args below meth c H1 locs ls A hsz hB (by omega) ((hP.kept hk1).app (fun i x hx => by
    have hz : i < 1 := (List.getElem?_eq_some_iff.mp hx).1
    rw [show i = 0 by omega] at hx
    cases hx
    show H1[sz + k]? = some (vp_cell _ _)
    rw [← hH]
    exact e1)) (hD.push hP hH.symm hA1) ⟨by omega, fun x h1 h2 => (o1 x (by omega)).trans (hS.2.1 x h1 h2), hS.2.2⟩ hl
  rw [hH]
  exact hh
/-- a final field of a cell that is being made -/
theorem k_put {ix q0 ci N j a : Nat} {C : String} {T : u_T} {ty : FieldType} {ty0 : Nat → FieldType} {fs : List Value} {v : Value} (hc : vwCl[ci]? = some (C, T, N)) (hin : ∀ x ∈ u_ws C T N, x ∈ xT) (hlk : Cond.fieldLink M.1 ix (T j).1 (T j).2.1 (T j).2.2.1 ∈ xT) (hty : ∀ k, k < N → parseFieldDescriptor (T k).2.2.1 = some (ty0 k)) (hnm : ∀ a, a < N → ∀ b, b < N → a ≠ b → (T a).2.1 ≠ (T b).2.1) (hj : j < N) (hjl : j < fs.length) (hfin : (T j).2.2.2 = true) (hdecl : (T j).1 = M.1) (hp : parseFieldDescriptor (T j).2.2.1 = some ty) (hnr : narrow ty v = v) (hfit : fits ty v = true) (he : ws[q0]? = some (a, .inr (ci, fs))) (hd : decode M.2.1 pc = .ok (.putfield ix, 3)) (h : kAt l w M B sz wF kF nF b (pc + 3) L st (ws.set q0 (a, .inr (ci, fs.set j v))) k n) : kAt l w M B sz wF kF nF b pc L (v :: .ref a :: st) ws k n := by
  intro p e R s m args below meth c H locs ls A hsz hB hH hP hD hS hl
  have hts := A.2.2.2.2.1
  have hK := A.2.2.2.2.2.2.1
  have hown := A.2.2.2.2.2.1
  have hap := va_apart (own := M.1) hts hin ty0 hty hnm hK hc
  obtain ⟨r, h1, cell, q1, q2, q3, q4⟩ := hP q0 _ he
  have hr : r = (C, T, N) := Option.some.inj (h1.symm.trans hc)
  subst hr
  obtain ⟨hSl, hfc, kC, hkC, hkind⟩ := hK.1 ci _ hc
  obtain ⟨cf, kf, fi, f, hi, hsl⟩ := hSl j hj
  have hlay := hts _ (hin _ (u_in_lay hj))
  unfold u_lay at hlay
  rw [if_pos hfin] at hlay
  have hst := (u_facts hfc hkC (u_lays hts hin hj) hi).1
  have hcf : m.cls = cf := by
    obtain ⟨_, _, c', _, _, _, -, -, hf', -, -, -, hown2, -⟩ := Cond.laysFinal_spec hlay
    have e1 : c' = cf := by have := hi.symm.trans hf'; simp at this; exact this.1.symm
    rw [hdecl] at hown2
    rw [← e1]; exact Option.some.inj (hown.symm.trans hown2)
  have h6 := u_fits hfc hkC hkind (Or.inr hlay) hi hp hnr hfit
  refine W.putFinK A.1 A.2.1 hown (hts _ hlk) hi hst hcf A.2.2.2.2.2.2.2.2.1 (by rw [q2]; exact h6) q1 q3 (by rw [hsl]; exact k2_hasslot (q4 j hj)) rfl rfl hd fun H' e1 e2 e3 => ?_
  rw [hsl] at e1 ⊢
  exact h p e R s m args below meth c H' _ ls A hsz hB (e2.trans hH) (hP.set hD he ⟨_, hc, t_OB.to (V := updV (vp_V fs) j v) ⟨_, e1, q2, q3, t_set q4 hap hj v⟩ (fun i _ => vp_updV_set hjl v i)⟩ e3) (hD.set he) (hS.put e2 e3 (hD.2 q0 _ he)) hl
theorem k_get {ix q0 ci N j a : Nat} {C : String} {T : u_T} {fs : List Value} {v : Value} (hc : vwCl[ci]? = some (C, T, N)) (hin : ∀ x ∈ u_ws C T N, x ∈ xT) (hlk : Cond.fieldLink M.1 ix (T j).1 (T j).2.1 (T j).2.2.1 ∈ xT) (hj : j < N) (he : ws[q0]? = some (a, .inr (ci, fs))) (hv : fs[j]? = some v) (hd : decode M.2.1 pc = .ok (.getfield ix, 3)) (h : kAt l w M B sz wF kF nF b (pc + 3) L (v :: st) ws k n) : kAt l w M B sz wF kF nF b pc L (.ref a :: st) ws k n := by
  intro p e R s m args below meth c H locs ls A hsz hB hH hP hD hS hl
  have hts := A.2.2.2.2.1
  exact va_get (D := w.1.1) (C := C) (T := T) (N := N) A.1 A.2.1 hts hin A.2.2.2.2.2.1 A.2.2.2.2.2.2.1 hP q0 he hc j hj (hts _ hlk) (fun _ q => q) hv hd (h p e R s m args below meth c H locs ls A hsz hB hH hP hD hS hl)
theorem k_aast {q0 qk ci t N a x : Nat} {r : vw_C} {vs : List Value} {f : Nat → Option Nat} {i : Int32} (ht : (xTys w)[t]? = some (w.2.1 t, .object r.1)) (hc : vwCl[ci]? = some r) (ha : ws[q0]? = some (a, .inl (w.2.1 t, (N, .inr (.inr (.inr (.inr f))))))) (hv : ws[qk]? = some (x, .inr (ci, vs))) (hi : ¬ i < 0) (hi2 : i.toNatClampNeg < N) (hd : decode M.2.1 pc = .ok (.aastore, 1)) (h : kAt l w M B sz wF kF nF b (pc + 1) L st (ws.set q0 (a, .inl (w.2.1 t, (N, .inr (.inr (.inr (.inr (va_up f i.toNatClampNeg (some x)))))))))  k n) : kAt l w M B sz wF kF nF b pc L (.ref x :: .int i :: .ref a :: st) ws k n := by
  intro p e R s m args below meth c H locs ls A hsz hB hH hP hD hS hl
  have hK := A.2.2.2.2.2.2.1
  obtain ⟨r', hr', cellV, g1, g2, g3, -⟩ := hP qk _ hv
  have hcls := (hK.1 ci r hc).2
  obtain ⟨kA, comp, k1, k2, k3, -⟩ := (hK.2 t _ ht).2
  have hcomp : comp = w.1.1.1 ci := Option.some.inj (k3.symm.trans hcls.1)
  subst hcomp
  obtain ⟨kC, hkC, hkd⟩ := hcls.2
  refine W.aast A.1 A.2.1 (hP q0 _ ha) (fun q h => by cases h) (fun h => by cases h) k1 k2 rfl hkC ⟨hi, by show _ < (arrV _ _ _).slots.size; rw [arrV_size]; exact hi2⟩ g1 (fun q h => by rw [g3] at h; cases h) (by rw [g2]; exact hkC) (by rw [g2]; exact va_assign hcls) rfl rfl hd fun H1 e1 z oq => ?_
  refine h p e R s m args below meth c H1 _ ls A hsz hB (z.trans hH) (hP.set hD ha ?_ oq) (hD.set ha) (hS.put z oq (hD.2 q0 _ ha)) hl
  show H1[a]? = some (vp_cell _ _)
  rw [e1]
  rw [vp_cell_q, vp_cell_q, arrV_store]
  congr 2
  funext q
  by_cases hq : q = i.toNatClampNeg
  · subst hq
    simp [updV, va_up, va_rf]
  · simp [updV, va_up, hq]
/-- a constructor's call: the cell that was made last -/
theorem k_callI {ix j q kF' nF' : Nat} {y : MethodName} {N : xM} {As : List Value} {raw : va_E} {wF' X : va_W} (hE : kEV l w y N (.ref q :: As) (kB q (sz + k)) (sz + k) [(q, raw)] wF' kF' nF' true) (hlk : Cond.methodLink M.1 ix y ∈ xT) (hw : Cond.instanceMethod y ∈ xT ∧ Cond.initialized y.cls ∈ xT ∧ Cond.code y N.2.1 N.2.2.1 none ∈ xT) (hy : y.name = "<init>") (hyd : y.cls ≠ "java/lang/invoke/MethodHandle" ∧ y.cls ≠ "java/lang/invoke/VarHandle" ∧ (parseMethodDescriptor y.desc).map (fun d => d.parameters.length) = some j) (hlv : N.2.2.2.2 < M.2.2.2.2) (hml : N.2.2.1 ≤ 21) (hn : As.length = j) (hst : (st.map fun v => v.category).sum ≤ 8) (hk : k + kF' ≤ kF) (hnn : n + nF' ≤ nF) (st0 : List Value) (hs0 : st0 = As.reverse ++ .ref q :: st) (hws : ws = X ++ [(q, raw)]) (hd : decode M.2.1 pc = .ok (.invokespecial ix, 3)) (h : kAt l w M B sz wF kF nF b (pc + 3) L st (X ++ wF') (k + kF') (n + nF')) : kAt l w M B sz wF kF nF b pc L st0 ws k n := by
  subst hs0
  subst hws
  intro p e R s m args below meth c H locs ls A hsz hB hH hP hD hS hl
  have hts := A.2.2.2.2.1
  have A2 := A
  obtain ⟨-, -, -, -, -, -, -, -, -, hao, hfr, hlo, hce, hsl⟩ := A2
  have hq0 : (X ++ [(q, raw)])[X.length]? = some (q, raw) := by rw [List.getElem?_append_right (Nat.le_refl _), Nat.sub_self]; rfl
  have hP1 : va_P w.1.1 vwCl [(q, raw)] H := fun i x hx => by
    have hz : i < 1 := (List.getElem?_eq_some_iff.mp hx).1
    rw [show i = 0 by omega] at hx
    cases hx
    exact hP X.length _ hq0
  have cb : CallB R s args M.1 ix y N.2.1 N.2.2.1 none (Cond.code y N.2.1 N.2.2.1 none :: xT) { frames := N.2.2.2.2, cells := kF', slots := nF', locals := 40 * N.2.2.2.2 } kF' nF' j :=
    callB_of j hts (x_GoodIn hw.2.2) rfl rfl rfl (hts _ hw.2.1) (hts _ hlk) hyd ⟨by show N.2.2.2.2 + 1 ≤ R.frames; omega, by show 8 + (N.2.2.1 + 11) + 40 * N.2.2.2.2 ≤ R.locals; omega⟩
  have hr := va_runI (p := p) (e := e) (below := below) (meth := meth) (H := H) (locs := locs) (cells := k) (slots := n) (g := F0 m pc ls (As.reverse ++ .ref q :: st)) (As := As) (rest := st) ⟨A.1, A.2.1, A.2.2.2.1, A.2.2.2.2.2.1, hts⟩ hE ⟨cb, hy, hts _ hw.1⟩ ⟨k_blind w (sz + k) [(q, raw)] _, fun U hU hW => ⟨rfl, by rw [hU]; exact hH, by rw [hU]; exact hP1, va_K.moved hW.alike A.2.2.2.2.2.2.1, hao.moved hW.alike⟩⟩ rfl hn hl.1 rfl (lv_room hst) hd ⟨by omega, by omega⟩
  intro T hT XS
  obtain ⟨v0, st₀, t, T', Lx, hh0, X', hL, e1, e2, ⟨hv, hP2, hD2, hz2, hz, hkk⟩, stp⟩ := hr T hT XS
  cases hv
  rw [hh0] at hz hkk hz2
  have hz2 := hz2 rfl
  rw [hH] at hkk
  have apart : ∀ (i : Nat) (x : Nat × va_E), X[i]? = some x → x.1 < H.size ∧ ¬ kB q (sz + k) x.1 := by
    intro i x hx
    have hil : i < X.length := (List.getElem?_eq_some_iff.mp hx).1
    have hx' : (X ++ [(q, raw)])[i]? = some x := by rw [List.getElem?_append_left hil]; exact hx
    have hlt := (hP i x hx').lt
    refine ⟨hlt, fun hb => ?_⟩
    rcases hb with hb | hb
    · have := hD.1 i X.length x (q, raw) hx' hq0 hb
      omega
    · omega
  have hPX : va_P w.1.1 vwCl X T'.heap := fun i x hx => by
    have hil : i < X.length := (List.getElem?_eq_some_iff.mp hx).1
    have hx' : (X ++ [(q, raw)])[i]? = some x := by rw [List.getElem?_append_left hil]; exact hx
    obtain ⟨a1, a2⟩ := apart i x hx
    exact (hP i x hx').kept (by rw [e1]; exact hkk x.1 (hH ▸ a1) a2)
  have hqB : B q := hD.2 X.length _ hq0
  have hBB : ∀ z, kB q (sz + k) z → B z := fun z hz => hz.elim (fun z1 => z1 ▸ hqB) (fun z1 => hB _ (by omega))
  have hDX : va_D B X := ⟨fun i j x y hi hj hxy => by
      have hil : i < X.length := (List.getElem?_eq_some_iff.mp hi).1
      have hjl : j < X.length := (List.getElem?_eq_some_iff.mp hj).1
      exact hD.1 i j x y (by rw [List.getElem?_append_left hil]; exact hi) (by rw [List.getElem?_append_left hjl]; exact hj) hxy, fun i x hi => by
      have hil : i < X.length := (List.getElem?_eq_some_iff.mp hi).1
      exact hD.2 i x (by rw [List.getElem?_append_left hil]; exact hi)⟩
  have hDF : va_D B (X ++ wF') := va_D.app hDX (hD2.weaken (fun _ x _ hx => hBB x.1 hx)) (fun i j x y hi hj hxy => (apart i x hi).2 (by rw [hxy]; exact hD2.2 j y hj))
  obtain ⟨t2, a1, b1⟩ := h p e R s m args below meth c T'.heap (locs ++ Lx) ls A hsz hB (by rw [e1, hz2, hH, Nat.add_assoc]) (hPX.app (by rw [e1]; exact hP2)) hDF ⟨Nat.le_trans hS.1 (by rw [e1]; exact hz), fun z h1 h2 => by rw [e1, hkk z (hH ▸ Nat.lt_of_lt_of_le h1 hS.1) (fun zz => h2 (hBB z zz))]; exact hS.2.1 z h1 h2, fun z hz => by
      rcases List.mem_append.mp hz with h3 | h3
      · exact hS.2.2 z h3
      · exact hBB _ (hL z h3)⟩ hl T' rfl X'
  exact ⟨t2, stp t2 a1, b1⟩
theorem k_ret (hd : decode M.2.1 pc = .ok (.return_, 1)) (hw : ws = wF) (hk : k = kF) (hn : n = nF) : kAt l w M B sz wF kF nF b pc L [] ws k n := by
  subst hw; subst hk; subst hn
  intro p e R s m args below meth c H locs ls A hsz hB hH hP hD hS hl
  have hlocks := A.2.2.2.2.2.2.2.1
  subst hsz
  exact W.vret A.1 A.2.1 A.2.2.1 (fun t ht _ => ⟨rfl, by rw [ht]; exact hP, hD, fun _ => by rw [ht]; exact hH, hS.F ht⟩) hS.2.2 hd hlocks
/-- the constructor's last act: a method of the whole world -/
theorem k_callX {ix d K p r j : Nat} {y : MethodName} {N : xM} {As : List Value} {σ0 σ1 : xS} {st0 : List Value} (hE : xEV l w y N (.ref (w.2.2 d K p r) :: As) σ0 none σ1) (hc : xCv M.1 ix y N K j) (hlv : N.2.2.2.2 < M.2.2.2.2) (hok : x_ok w.1.2 d K p r = true) (hn : As.length = j) (hcov : ∀ i ∈ x_ids w.1.2, (x_ad w i, x_e w σ0 i) ∈ ws) (hinj : xInj w) (hs0 : st0 = As.reverse ++ [.ref (w.2.2 d K p r)]) (hd : decode M.2.1 pc = .ok (.invokevirtual ix, 3)) (hd2 : decode M.2.1 (pc + 3) = .ok (.return_, 1)) (hk : k = kF) (hnn : n = nF) (hw : wF = xC w σ1) (hb : b = false) : kAt l w M B sz wF kF nF b pc L st0 ws k n := by
  subst hs0; subst hk; subst hnn; subst hw; subst hb
  intro p' e R s m args below meth c H locs ls A hsz hB hH hP hD hS hl
  obtain ⟨h1, h2, h3, h4, h5, h6, h7, o, T, nf, ho, hcl⟩ := hc
  have hts := A.2.2.2.2.1
  have hlocks := A.2.2.2.2.2.2.2.1
  have A2 := A
  obtain ⟨-, -, -, -, -, -, -, -, -, hao, hfr, hlo, hce, hsl⟩ := A2
  have hPC : va_P w.1.1 vwCl (xC w σ0) H := fun i x hx => by
    rw [xC, List.getElem?_map] at hx
    cases hi : (x_ids w.1.2)[i]? with
    | none => rw [hi] at hx; cases hx
    | some z =>
      rw [hi] at hx
      cases hx
      obtain ⟨q, hq⟩ := List.getElem?_of_mem (hcov z (List.mem_of_getElem? hi))
      exact hP q _ hq
  have hBC : ∀ i ∈ x_ids w.1.2, B (x_ad w i) := fun i hi => by
    obtain ⟨q, hq⟩ := List.getElem?_of_mem (hcov i hi)
    exact hD.2 q _ hq
  have hBA : ∀ q, xA w H.size q → B q := fun q hq => hq.elim (fun ⟨i, hi, e1⟩ => e1 ▸ hBC i hi) (fun z => hB _ (by omega))
  obtain ⟨q0, hq, he⟩ := x_pos w σ0 hok
  have he' : (xC w σ0)[q0]? = some (w.2.2 d K p r, .inr (o.1, (List.range o.2).map fun k => x_fv w σ0 d K p r k)) := by rw [he, x_cell, ho]
  have cb : CallB R s args M.1 ix y N.2.1 N.2.2.1 N.2.2.2.1 (Cond.code y N.2.1 N.2.2.1 N.2.2.2.1 :: xT) (xRm N.2.2.2.2) 0 0 j :=
    callB_of j hts (x_GoodIn h5) rfl rfl rfl (hts _ h4) (hts _ h1) h6 ⟨by show N.2.2.2.2 + 1 ≤ R.frames; omega, by show 8 + (N.2.2.1 + 11) + 40 * N.2.2.2.2 ≤ R.locals; omega⟩
  have hr := va_runV (p := p') (e := e) (below := below) (meth := meth) (H := H) (locs := locs) (cells := k) (slots := n) (g := F0 m pc ls (As.reverse ++ [.ref (w.2.2 d K p r)])) (As := As) (rest := []) (C := y.cls) ⟨A.1, A.2.1, A.2.2.2.1, A.2.2.2.2.2.1, hts⟩ (hE H.size) ⟨cb, hts _ h2, hts _ h3⟩ ⟨x_blind w σ0 H.size _, va_recv A.2.2.2.2.2.2.1 hPC hcl he', fun U hU hW => ⟨rfl, hinj, by rw [hU], by rw [hU]; exact hPC, va_K.moved hW.alike A.2.2.2.2.2.2.1⟩⟩ rfl hn hl.1 rfl (lv_room (Nat.le_of_ble_eq_true rfl)) hd ⟨by omega, by omega⟩
  intro T hT XS
  obtain ⟨v0, st₀, t, T', Lx, hh0, X', hL, e1, e2, ⟨hv, hP2, hz, hkk⟩, stp⟩ := hr T hT XS
  cases hv
  rw [hh0] at hz hkk
  have hS1 : va_S B s.heap T'.heap (locs ++ Lx) := ⟨Nat.le_trans hS.1 (by rw [e1]; exact hz), fun z q1 q2 => by rw [e1, hkk z (Nat.lt_of_lt_of_le q1 hS.1) (fun zz => q2 (hBA z zz))]; exact hS.2.1 z q1 q2, fun z hz => by
      rcases List.mem_append.mp hz with q3 | q3
      · exact hS.2.2 z q3
      · exact hBA _ (hL z q3)⟩
  have hDC : va_D B (xC w σ1) := ⟨(x_D hinj σ1 0).1, fun i x hx => by
    rw [xC, List.getElem?_map] at hx
    cases hi : (x_ids w.1.2)[i]? with
    | none => rw [hi] at hx; cases hx
    | some z =>
      rw [hi] at hx
      cases hx
      exact hBC z (List.mem_of_getElem? hi)⟩
  have fin : W p' l e R s m args below meth c T'.heap (locs ++ Lx) k n (MQ below (kQ w B (xC w σ1) k false) args s k n B) (F0 m (pc + 3) ls []) :=
    W.vret A.1 A.2.1 A.2.2.1 (fun t ht _ => ⟨rfl, by rw [ht, e1]; exact hP2, hDC, fun q => (by cases q), hS1.F ht⟩) hS1.2.2 hd2 hlocks
  obtain ⟨t2, a1, b1⟩ := fin T' rfl X'
  exact ⟨t2, stp t2 a1, b1⟩
end XK
