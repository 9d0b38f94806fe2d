/-! ===== the world of both sides: ids (d, kind, p, r), a store of ints, and the machine seen through it ===== -/
/-- the tables' words that a callee may take over -/
def xT : List Cond := lw_tbl.filter goodWord
theorem xT_of {c : Cond} (h : c ∈ lw_tbl) (hg : goodWord c = true) : c ∈ xT := List.mem_filter.mpr ⟨h, hg⟩
theorem xT_in {c : Cond} (h : c ∈ xT) : c ∈ lw_tbl := (List.mem_filter.mp h).1
theorem xT_g {c : Cond} (h : c ∈ xT) : goodWord c = true := (List.mem_filter.mp h).2
abbrev xI : Type := Nat × Nat × Nat × Nat
/-- classes and slots; whether the reference is there; array classes; addresses -/
abbrev xW : Type := (va_G × Bool) × (Nat → ClassId) × (Nat → Nat → Nat → Nat → Nat)
abbrev xM : Type := String × ByteArray × Nat × Option FieldType × Nat
def x_ok (f : Bool) (d K p r : Nat) : Bool :=
  if K ≤ 12 then decide (d < 4 ∧ p = 0 ∧ r = 0)
  else if K ≤ 15 then decide (d < 4 ∧ p < 6 ∧ r = 0)
  else if K = 16 then decide (d < 4 ∧ p < 6 ∧ r < 3)
  else if 20 ≤ K ∧ K ≤ 24 then decide (d = 4 ∧ p = 0 ∧ r = 0)
  else if 30 ≤ K ∧ K ≤ 37 then decide (f = true ∧ d = 5 ∧ p = 0 ∧ r = 0)
  else false
def x_ids (f : Bool) : List xI := (List.range 6).flatMap fun d => (List.range 38).flatMap fun K => (List.range 6).flatMap fun p => (List.range 3).filterMap fun r => if x_ok f d K p r then some (d, K, p, r) else none
theorem x_nodup (f : Bool) : (x_ids f).Nodup := by
  cases f with
  | false => decide +kernel
  | true => decide +kernel
theorem x_bnd {f : Bool} {d K p r : Nat} (h : x_ok f d K p r = true) : d < 6 ∧ K < 38 ∧ p < 6 ∧ r < 3 := by
  unfold x_ok at h
  split at h
  · have := of_decide_eq_true h; omega
  · split at h
    · have := of_decide_eq_true h; omega
    · split at h
      · have := of_decide_eq_true h; omega
      · split at h
        · have := of_decide_eq_true h; omega
        · split at h
          · have := of_decide_eq_true h; omega
          · cases h
theorem x_mem {f : Bool} {d K p r : Nat} (h : x_ok f d K p r = true) : (d, K, p, r) ∈ x_ids f := by
  obtain ⟨h1, h2, h3, h4⟩ := x_bnd h
  unfold x_ids
  refine List.mem_flatMap.mpr ⟨d, List.mem_range.mpr h1, List.mem_flatMap.mpr ⟨K, List.mem_range.mpr h2, List.mem_flatMap.mpr ⟨p, List.mem_range.mpr h3, List.mem_filterMap.mpr ⟨r, List.mem_range.mpr h4, ?_⟩⟩⟩⟩
  rw [if_pos h]
def x_ref (d K p _r k : Nat) : Option xI := match K with
  | 0 => (match k with | 0 => some (d, 1, 0, 0) | 1 => some (d, 10, 0, 0) | 8 => some (d, 11, 0, 0) | 11 => some (d, 12, 0, 0) | _ => none)
  | 1 => (match k with | 0 => none | k + 1 => some (d, k + 2, 0, 0))
  | 10 => some (d, 13, k, 0)
  | 13 => (match k with | 0 => some (d, 14, p, 0) | 1 => some (d, 15, p, 0) | _ => none)
  | 14 => some (d, 16, p, k)
  | 20 => (match k with | 0 => some (0, 0, 0, 0) | 1 => some (1, 0, 0, 0) | 2 => some (4, 21, 0, 0) | 3 => some (4, 22, 0, 0) | _ => some (4, 23, 0, 0))
  | 21 => some (k + 2, 0, 0, 0)
  | 23 => (match k with | 0 => some (4, 24, 0, 0) | _ => none)
  | 30 => (match k with | 0 => some (5, 31, 0, 0) | 1 => some (5, 32, 0, 0) | 2 => some (5, 33, 0, 0) | 3 => some (5, 34, 0, 0) | 4 => some (5, 35, 0, 0) | 6 => some (5, 36, 0, 0) | 8 => some (5, 37, 0, 0) | _ => none)
  | _ => none
/-- kinds that are objects: the class's number, how many fields -/
def x_obj (K : Nat) : Option (Nat × Nat) := match K with
  | 0 => some (0, 13) | 1 => some (1, 9) | 13 => some (2, 12) | 16 => some (3, 16) | 23 => some (4, 9) | 20 => some (5, 5) | 30 => some (6, 13) | _ => none
/-- kinds that are arrays: their element type (0 int, 1 boolean, 2 Port, 3 Queue, 4 Device), their length -/
def x_ty (K : Nat) : Nat := match K with
  | 2 => 1 | 22 => 1 | 34 => 1 | 10 => 2 | 14 => 3 | 21 => 4 | _ => 0
def x_len (K : Nat) : Nat := match K with
  | 10 => 6 | 11 => 4 | 12 => 4 | 14 => 3 | 15 => 10 | 21 => 2 | 22 => 2 | 24 => 120 | 31 => 6464 | 32 => 6464 | 33 => 12928 | 34 => 2 | 35 => 120 | 36 => 5 | 37 => 9 | _ => 128
def x_ad (w : xW) (i : xI) : Nat := w.2.2 i.1 i.2.1 i.2.2.1 i.2.2.2
def x_rv (w : xW) (o : Option xI) : Value := match o with
  | none => .null
  | some i => .ref (x_ad w i)
def x_fv (w : xW) (σ : xS) (d K p r k : Nat) : Value := match x_ref d K p r k with
  | none => .int (σ d K p r k)
  | some i => .ref (x_ad w i)
def x_cell (w : xW) (σ : xS) (d K p r : Nat) : va_E := match x_obj K with
  | some o => .inr (o.1, (List.range o.2).map fun k => x_fv w σ d K p r k)
  | none => .inl (w.2.1 (x_ty K), (x_len K, if x_ty K < 2 then .inl (σ d K p r) else .inr (.inr (.inr (.inr (fun j => (x_ref d K p r j).map (x_ad w)))))))
def x_e (w : xW) (σ : xS) (i : xI) : va_E := x_cell w σ i.1 i.2.1 i.2.2.1 i.2.2.2
def xC (w : xW) (σ : xS) : va_W := (x_ids w.1.2).map fun i => (x_ad w i, x_e w σ i)
theorem x_cell_congr (w : xW) (σ τ : xS) (d K p r : Nat) (h : σ d K p r = τ d K p r) : x_cell w σ d K p r = x_cell w τ d K p r := by
  simp only [x_cell, x_fv, h]
theorem x_pos (w : xW) (σ : xS) {d K p r : Nat} (h : x_ok w.1.2 d K p r = true) : ∃ q0 : Nat, (x_ids w.1.2)[q0]? = some (d, K, p, r) ∧ (xC w σ)[q0]? = some (w.2.2 d K p r, x_cell w σ d K p r) := by
  obtain ⟨q0, hq⟩ := List.getElem?_of_mem (x_mem h)
  exact ⟨q0, hq, by rw [xC, List.getElem?_map, hq]; rfl⟩
theorem xC_set (w : xW) (σ : xS) {q0 d K p r : Nat} (f : Nat → Int32) (hq : (x_ids w.1.2)[q0]? = some (d, K, p, r)) : (xC w σ).set q0 (w.2.2 d K p r, x_cell w (x_row σ d K p r f) d K p r) = xC w (x_row σ d K p r f) := by
  have hl : q0 < (x_ids w.1.2).length := (List.getElem?_eq_some_iff.mp hq).1
  apply List.ext_getElem?
  intro j
  by_cases hj : j = q0
  · subst hj
    rw [List.getElem?_set_self (by rw [xC, List.length_map]; exact hl), xC, List.getElem?_map, hq]
    rfl
  · rw [List.getElem?_set_ne (Ne.symm hj), xC, xC, List.getElem?_map, List.getElem?_map]
    cases hi : (x_ids w.1.2)[j]? with
    | none => rfl
    | some i =>
      have hne : i ≠ (d, K, p, r) := by
        intro e
        subst e
        exact hj ((List.getElem?_inj (List.getElem?_eq_some_iff.mp hi).1 (x_nodup _)).mp (hi.trans hq.symm))
      simp only [Option.map_some, x_e]
      rw [x_cell_congr w (x_row σ d K p r f) σ _ _ _ _ (x_row_ne σ d K p r f i hne)]
def xInj (w : xW) : Prop := ∀ i ∈ x_ids w.1.2, ∀ j ∈ x_ids w.1.2, x_ad w i = x_ad w j → i = j
def xA (w : xW) (sz : Nat) : Nat → Prop := fun q => (∃ i, i ∈ x_ids w.1.2 ∧ x_ad w i = q) ∨ sz ≤ q
theorem x_D {w : xW} (h : xInj w) (σ : xS) (sz : Nat) : va_D (xA w sz) (xC w σ) := by
  have key : ∀ (k : Nat) (q : Nat × va_E), (xC w σ)[k]? = some q → ∃ i, (x_ids w.1.2)[k]? = some i ∧ x_ad w i = q.1 := by
    intro k q hk
    rw [xC, List.getElem?_map] at hk
    cases hi : (x_ids w.1.2)[k]? with
    | none => rw [hi] at hk; cases hk
    | some i => rw [hi] at hk; cases hk; exact ⟨i, rfl, rfl⟩
  refine ⟨fun i j a b hi hj hab => ?_, fun k q hk => ?_⟩
  · obtain ⟨x, hx, ex⟩ := key i a hi
    obtain ⟨y, hy, ey⟩ := key j b hj
    have e := h x (List.mem_of_getElem? hx) y (List.mem_of_getElem? hy) (ex.trans (hab.trans ey.symm))
    subst e
    exact (List.getElem?_inj (List.getElem?_eq_some_iff.mp hx).1 (x_nodup _)).mp (hx.trans hy.symm)
  · obtain ⟨x, hx, ex⟩ := key k q hk
    exact Or.inl ⟨x, List.mem_of_getElem? hx, ex⟩
abbrev xTys (w : xW) : List (ClassId × FieldType) := [(w.2.1 0, .int), (w.2.1 1, .boolean), (w.2.1 2, .object RX2), (w.2.1 3, .object RX3), (w.2.1 4, .object RX0)]
abbrev xRm (lv : Nat) : Room := { frames := lv, cells := 0, slots := 0, locals := 40 * lv }
def xQ (w : xW) (v : Option Value) (τ : xS) : Array Value → State → Outcome → State → Prop := fun _ st oc t => oc = .returned v ∧ va_P w.1.1 vwCl (xC w τ) t.heap ∧ va_F (xA w st.heap.size) st t
def xAmb (w : xW) (M : xM) (p : Program) (R : Room) (s : State) (m : MethodId) (args : Array Value) (meth : Method) (c : Code) : Prop :=
  p.tables.exec = Jvm.exec ∧ c.code = M.2.1 ∧ meth.sig.returnType = M.2.2.2.1 ∧ c.maxLocals = M.2.2.1 ∧ (∀ x ∈ xT, x.before args s = true) ∧ s.vm.findClass M.1 = some m.cls ∧ va_K w.1.1 vwCl (xTys w) s ∧ meth.locks = false ∧ xInj w ∧ M.2.2.2.2 ≤ R.frames ∧ 40 * M.2.2.2.2 ≤ R.locals
/-- from here the method ends with v and the store τ -/
def xAt (l : Launch) (w : xW) (M : xM) (pc : Nat) (L : List (Nat × Value)) (st : List Value) (σ : xS) (v : Option Value) (τ : xS) : Prop :=
  ∀ (p : Program) (e : Env) (R : Room) (s : State) (m : MethodId) (args : Array Value) (below : List Frame) (meth : Method) (c : Code) (H : Heap) (locs : List Loc) (ls : Array Slot), xAmb w M p R s m args meth c → va_P w.1.1 vwCl (xC w σ) H → va_S (xA w s.heap.size) s.heap H locs → lv_has ls M.2.2.1 L → W p l e R s m args below meth c H locs 0 0 (MQ below (xQ w v τ) args s 0 0 (xA w s.heap.size)) (F0 m pc ls st)
def xPre (w : xW) (σ : xS) (sz : Nat) (U : State) : Prop := xInj w ∧ U.heap.size = sz ∧ va_P w.1.1 vwCl (xC w σ) U.heap ∧ va_K w.1.1 vwCl (xTys w) U
/-- a method's contract: from the store σ with the arguments av it ends with v and the store τ -/
def xEV (l : Launch) (w : xW) (y : MethodName) (M : xM) (av : List Value) (σ : xS) (v : Option Value) (τ : xS) : Prop :=
  ∀ sz : Nat, Met l y (Cond.code y M.2.1 M.2.2.1 M.2.2.2.1 :: xT) (xRm M.2.2.2.2) (va_Pc av (xPre w σ sz)) (xQ w v τ) 0 0 (xA w sz)
theorem x_enter {l : Launch} {w : xW} {y : MethodName} {M : xM} {av : List Value} {σ τ : xS} {v : Option Value} (hy : plainName y.cls = true) (hc : y.cls = M.1) (hn : (lg_sl av).length ≤ M.2.2.1) (h : xAt l w M 0 (lv_args 0 av) [] σ v τ) : xEV l w y M av σ v τ := by
  intro sz
  refine Met.ofW (cc := M.2.1) (maxL := M.2.2.1) (ret := M.2.2.2.1) hy rfl ?_
  intro p e s m args below meth c s₁ B hml hv
  obtain ⟨rfl, hinj, hsz, hP, hK⟩ := hv
  have hts := atoms_spec (ws := Cond.code y M.2.1 M.2.2.1 M.2.2.2.1 :: xT) B.pre
  have hown : s.vm.findClass M.1 = some m.cls := by rw [← hc]; exact findClass_of_methodNamed B.named
  subst hsz
  have hl := lv_entry av (n := M.2.2.1) hn
  rw [lg_entry_eq]
  exact h p e _ s m _ below meth c s.heap [] _ ⟨B.exec, B.bytes, B.returns, hml, fun x hx => hts x (List.mem_cons_of_mem _ hx), hown, hK, B.notSynchronized, hinj, Nat.le_refl _, Nat.le_refl _⟩ hP va_S.rf hl
