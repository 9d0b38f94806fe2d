def lw_P (b : Addr) (xs : List Int32) (args : Array Value) (s : State) : Prop := args = #[.ref b] ∧ s.IntsAt b xs ∧ xs.length ≤ 2560 ∧ (Jvm.Cond.and given_1 narrow_1).before args s = true
def lw_Q (_ : Array Value) (s : State) (o : Outcome) (t : State) : Prop := o = .returned (some (.int 1)) ∧ Framed s o t [] 600000 7302250
def lw_Z (below : List Frame) (a : Array Value) (s : State) : State → Prop := fun t => ∃ o, t.status = .running ∧ Ended t below o ∧ lw_Q a s o t
/-- the law's own end, with 1 on the stack, nothing written that was there before, its room as the claim has it -/
theorem lw_ret {p : Program} {l : Launch} {e : Env} {s : State} {m : MethodId} {below : List Frame} {meth : Method} {c : Code} {b : Nat} (hx : p.tables.exec = Jvm.exec) (hb : c.code = code) (hr : meth.sig.returnType = ret) (hlocks : meth.locks = false) {pc : Nat} {H : Heap} {ls : Array Slot} (hdg : decode code pc = .ok (.ireturn, 1)) : W p l e room_1 s m #[Value.ref b] below meth c H [] 600000 7302250 (lw_Z below #[Value.ref b] s) (F0 m pc ls [.int 1]) := by
  intro T hT X
  obtain ⟨fs, hret, hrun, hended, hW, hframe⟩ := X.leave (v := some (.int 1)) (hlocks := hlocks) (fun h => by rw [hr] at h; cases h)
  have hmeth' : T.vm.method? m = some meth := X.method'
  refine ⟨T.setFrames fs, ?_, .returned (some (.int 1)), hrun, hended, rfl, ⟨_, rfl⟩, hW, hframe⟩
  jvm_step X.here [X.here.top, hx, hb, hdg, hmeth', hr, ret, narrow_b1]
  (try refine ⟨rfl, ?_⟩); (try refine ⟨rfl, ?_⟩)
  first | (intro acts; rw [hret _ acts rfl rfl rfl]) | rw [hret _ _ rfl rfl rfl]
  exact Steps.refl _
/-- what holds at the law's entry: the machine, the code, the tables' words (any of lw_tbl by 'hts w (by decide +kernel)'), the script of L ints xs at the cell b, what the Statement gives of the start (any of its parts by flat_of_before) -/
def lw_At (p : Program) (s : State) (m : MethodId) (meth : Method) (c : Code) (b L : Nat) (xs : Nat → Int32) : Prop :=
  p.tables.exec = Jvm.exec ∧ c.code = code ∧ meth.sig.returnType = ret ∧ c.maxLocals = 4 ∧ s.vm.findClass R_law = some m.cls ∧ (∀ w ∈ lw_tbl, w.before #[Value.ref b] s = true) ∧ va_X b L xs s s.heap ∧ b < s.heap.size ∧ meth.locks = false ∧ (Jvm.Cond.and given_1 narrow_1).before #[Value.ref b] s = true
theorem wend {l : Launch} {w : xW} {p : Program} {e : Env} {s : State} {m : MethodId} {below : List Frame} {meth : Method} {c : Code} {b LL : Nat} {xs : Nat → Int32} {kc ns : Nat} {L : List (Nat × Value)} {σ : xS} (C : wAmb w p s m c b LL xs) (hr : meth.sig.returnType = ret) (hlocks : meth.locks = false) (hroom : kc ≤ 600000 ∧ ns ≤ 7302250) : wAt l w p e s m below meth c b (lw_Z below #[Value.ref b] s) kc ns 1877 L [] σ := by
  refine w_iconst C (x := 1) dL_law_1877 rfl ?_
  intro H locs ls hP hS hl
  refine va_forget hS.2.2 ?_
  refine W.widen (k := 600000) (n := 7302250) hroom.1 hroom.2 ?_
  exact lw_ret C.1 C.2.1 hr hlocks dL_law_1878
theorem w_lt5 {a n : Nat} (ha : a ≤ 2560) (hn : n ≤ 2560) : nI a - 5 < nI n ↔ a < n + 5 := by
  have h1 : (nI a - nI 5).toInt = (a : Int) - (5 : Nat) := pk_sub_toInt (by omega) (by omega)
  have h2 : (nI n).toInt = (n : Int) := nI_toInt (by omega)
  have h3 : nI a - 5 < nI n ↔ (nI a - nI 5).toInt < (nI n).toInt := Int32.lt_iff_toInt_lt
  rw [h3, h1, h2]
  omega
set_option maxRecDepth 100000 in
set_option maxHeartbeats 4000000 in
theorem wloop {l : Launch} {w : xW} {p : Program} {e : Env} {s : State} {m : MethodId} {below : List Frame} {meth : Method} {c : Code} {b LL : Nat} {xs : Nat → Int32} {kc ns : Nat} {Inv : Nat → xS → Prop} (hOK : xOK Inv) (hOK0 : ∀ n σ, Inv n σ → Inv (n + 1) σ) (C : wAmb w p s m c b LL xs) (hr : meth.sig.returnType = ret) (hlocks : meth.locks = false) (hL : LL ≤ 2560) (hroom : kc ≤ 600000 ∧ ns ≤ 7302250) : ∀ (k n : Nat) (σ : xS), LL < 5 * n + 5 * k + 5 → 5 * n ≤ LL → Inv n σ → wAt l w p e s m below meth c b (lw_Z below #[Value.ref b] s) kc ns 18 [(0, .ref b), (1, .ref (w.2.2 4 20 0 0)), (2, .ref (w.2.2 5 30 0 0)), (3, .int (nI (5 * n)))] [] σ := by
  intro k
  induction k with
  | zero =>
    intro n σ hk hn hI
    refine w_iload_n C dL_law_18 rfl 3 rfl ?_
    refine w_aload_n C dL_law_19 rfl 0 rfl ?_
    refine w_slen C dL_law_20 ?_
    refine w_iconst C (x := 5) dL_law_21 rfl ?_
    refine w_isub C dL_law_22 ?_
    refine w_gt_t C (tgt := 1877) ((w_lt5 hL (by omega)).mpr (by omega)) dL_law_23 rfl ?_
    exact wend C hr hlocks hroom
  | succ k ih =>
    intro n σ hk hn hI
    refine w_iload_n C dL_law_18 rfl 3 rfl ?_
    refine w_aload_n C dL_law_19 rfl 0 rfl ?_
    refine w_slen C dL_law_20 ?_
    refine w_iconst C (x := 5) dL_law_21 rfl ?_
    refine w_isub C dL_law_22 ?_
    by_cases hend : LL < 5 * n + 5
    · refine w_gt_t C (tgt := 1877) ((w_lt5 hL (by omega)).mpr hend) dL_law_23 rfl ?_
      exact wend C hr hlocks hroom
    · refine w_gt_f C (tgt := 1877) (fun q => hend ((w_lt5 hL (by omega)).mp q)) dL_law_23 rfl ?_
      have step : ∀ σ2, Inv (n + 1) σ2 → wAt l w p e s m below meth c b (lw_Z below #[Value.ref b] s) kc ns 1871 [(0, .ref b), (1, .ref (w.2.2 4 20 0 0)), (2, .ref (w.2.2 5 30 0 0)), (3, .int (nI (5 * n)))] [] σ2 := by
        intro σ2 h2
        refine w_iinc C (nI (5 * (n + 1))) (nI_add (5 * n) 5) dL_law_1871 3 rfl (Nat.le_of_ble_eq_true rfl) [(3, .int (nI (5 * (n + 1)))), (0, .ref b), (1, .ref (w.2.2 4 20 0 0)), (2, .ref (w.2.2 5 30 0 0))] rfl ?_
        refine w_goto C (tgt := 18) dL_law_1874 rfl ?_
        refine w_sub [1, 2, 3, 0] rfl ?_
        exact ih (n + 1) σ2 (by omega) (by omega) h2
      have skip : ∀ σ2, Inv n σ2 → wAt l w p e s m below meth c b (lw_Z below #[Value.ref b] s) kc ns 1871 [(0, .ref b), (1, .ref (w.2.2 4 20 0 0)), (2, .ref (w.2.2 5 30 0 0)), (3, .int (nI (5 * n)))] [] σ2 := by
        intro σ2 h2
        refine w_iinc C (nI (5 * (n + 1))) (nI_add (5 * n) 5) dL_law_1871 3 rfl (Nat.le_of_ble_eq_true rfl) [(3, .int (nI (5 * (n + 1)))), (0, .ref b), (1, .ref (w.2.2 4 20 0 0)), (2, .ref (w.2.2 5 30 0 0))] rfl ?_
        refine w_goto C (tgt := 18) dL_law_1874 rfl ?_
        refine w_sub [1, 2, 3, 0] rfl ?_
        exact ih (n + 1) σ2 (by omega) (by omega) (hOK0 n σ2 h2)
      refine w_aload_n C dL_law_26 rfl 0 rfl ?_
      refine w_iload_n C dL_law_27 rfl 3 rfl ?_
      refine w_sld C (5 * n) rfl (by omega) (by omega) dL_law_28 ?_
      refine w_bipush C (x := 63) dL_law_29 rfl ?_
      refine w_iand C dL_law_31 ?_
      obtain ⟨j, hj1, hj⟩ := pk_andE (xs (5 * n)) (m := 63) 6 rfl
      · match j, hj1, hj with
        | 0, _, hj => exact w_tableIn C (off := 232) (tgt := 264) dL_law_32 (by rw [hj]; decide) (by rw [hj]; decide) (by rw [hj]; first | done | rfl) rfl (wc0 hOK.1 C (by omega) (by omega) hroom hI (by omega) (fun σ2 h2 => step σ2 h2))
        | 1, _, hj => exact w_tableIn C (off := 265) (tgt := 297) dL_law_32 (by rw [hj]; decide) (by rw [hj]; decide) (by rw [hj]; first | done | rfl) rfl (wc1 hOK.2.1 C (by omega) (by omega) hroom hI (by omega) (fun σ2 h2 => step σ2 h2))
        | 2, _, hj => exact w_tableIn C (off := 298) (tgt := 330) dL_law_32 (by rw [hj]; decide) (by rw [hj]; decide) (by rw [hj]; first | done | rfl) rfl (wc2 hOK.2.2.1 C (by omega) (by omega) hroom hI (by omega) (fun σ2 h2 => step σ2 h2))
        | 3, _, hj => exact w_tableIn C (off := 331) (tgt := 363) dL_law_32 (by rw [hj]; decide) (by rw [hj]; decide) (by rw [hj]; first | done | rfl) rfl (wc3 hOK.2.2.2.1 C (by omega) (by omega) hroom hI (by omega) (fun σ2 h2 => step σ2 h2))
        | 4, _, hj => exact w_tableIn C (off := 374) (tgt := 406) dL_law_32 (by rw [hj]; decide) (by rw [hj]; decide) (by rw [hj]; first | done | rfl) rfl (wc4 hOK.2.2.2.2.1 C (by omega) (by omega) hroom hI (by omega) (fun σ2 h2 => step σ2 h2))
        | 5, _, hj => exact w_tableIn C (off := 427) (tgt := 459) dL_law_32 (by rw [hj]; decide) (by rw [hj]; decide) (by rw [hj]; first | done | rfl) rfl (wc5 hOK.2.2.2.2.2.1 C (by omega) (by omega) hroom hI (by omega) (fun σ2 h2 => step σ2 h2))
        | 6, _, hj => exact w_tableIn C (off := 486) (tgt := 518) dL_law_32 (by rw [hj]; decide) (by rw [hj]; decide) (by rw [hj]; first | done | rfl) rfl (wc6 hOK.2.2.2.2.2.2.1 C (by omega) (by omega) hroom hI (by omega) (fun σ2 h2 => step σ2 h2))
        | 7, _, hj => exact w_tableIn C (off := 545) (tgt := 577) dL_law_32 (by rw [hj]; decide) (by rw [hj]; decide) (by rw [hj]; first | done | rfl) rfl (wc7 hOK.2.2.2.2.2.2.2.1 C (by omega) (by omega) hroom hI (by omega) (fun σ2 h2 => step σ2 h2))
        | 8, _, hj => exact w_tableIn C (off := 588) (tgt := 620) dL_law_32 (by rw [hj]; decide) (by rw [hj]; decide) (by rw [hj]; first | done | rfl) rfl (wc8 hOK.2.2.2.2.2.2.2.2.1 C (by omega) (by omega) hroom hI (by omega) (fun σ2 h2 => step σ2 h2))
        | 9, _, hj => exact w_tableIn C (off := 627) (tgt := 659) dL_law_32 (by rw [hj]; decide) (by rw [hj]; decide) (by rw [hj]; first | done | rfl) rfl (wc9 hOK.2.2.2.2.2.2.2.2.2.1 C (by omega) (by omega) hroom hI (by omega) (fun σ2 h2 => step σ2 h2))
        | 10, _, hj => exact w_tableIn C (off := 660) (tgt := 692) dL_law_32 (by rw [hj]; decide) (by rw [hj]; decide) (by rw [hj]; first | done | rfl) rfl (wc10 hOK.2.2.2.2.2.2.2.2.2.2.1 C (by omega) (by omega) hroom hI (by omega) (fun σ2 h2 => step σ2 h2))
        | 11, _, hj => exact w_tableIn C (off := 683) (tgt := 715) dL_law_32 (by rw [hj]; decide) (by rw [hj]; decide) (by rw [hj]; first | done | rfl) rfl (wc11 hOK.2.2.2.2.2.2.2.2.2.2.2.1 C (by omega) (by omega) hroom hI (by omega) (fun σ2 h2 => step σ2 h2))
        | 12, _, hj => exact w_tableIn C (off := 726) (tgt := 758) dL_law_32 (by rw [hj]; decide) (by rw [hj]; decide) (by rw [hj]; first | done | rfl) rfl (wc12 hOK.2.2.2.2.2.2.2.2.2.2.2.2.1 C (by omega) (by omega) hroom hI (by omega) (fun σ2 h2 => step σ2 h2))
        | 13, _, hj => exact w_tableIn C (off := 749) (tgt := 781) dL_law_32 (by rw [hj]; decide) (by rw [hj]; decide) (by rw [hj]; first | done | rfl) rfl (wc13 hOK.2.2.2.2.2.2.2.2.2.2.2.2.2.1 C (by omega) (by omega) hroom hI (by omega) (fun σ2 h2 => step σ2 h2))
        | 14, _, hj => exact w_tableIn C (off := 772) (tgt := 804) dL_law_32 (by rw [hj]; decide) (by rw [hj]; decide) (by rw [hj]; first | done | rfl) rfl (wc14 hOK.2.2.2.2.2.2.2.2.2.2.2.2.2.2.1 C (by omega) (by omega) hroom hI (by omega) (fun σ2 h2 => step σ2 h2))
        | 15, _, hj => exact w_tableIn C (off := 815) (tgt := 847) dL_law_32 (by rw [hj]; decide) (by rw [hj]; decide) (by rw [hj]; first | done | rfl) rfl (wc15 hOK.2.2.2.2.2.2.2.2.2.2.2.2.2.2.2.1 C (by omega) (by omega) hroom hI (by omega) (fun σ2 h2 => step σ2 h2))
        | 16, _, hj => exact w_tableIn C (off := 828) (tgt := 860) dL_law_32 (by rw [hj]; decide) (by rw [hj]; decide) (by rw [hj]; first | done | rfl) rfl (wc16 hOK.2.2.2.2.2.2.2.2.2.2.2.2.2.2.2.2.1 C (by omega) (by omega) hroom hI (by omega) (fun σ2 h2 => step σ2 h2))
        | 17, _, hj => exact w_tableIn C (off := 841) (tgt := 873) dL_law_32 (by rw [hj]; decide) (by rw [hj]; decide) (by rw [hj]; first | done | rfl) rfl (wc17 hOK.2.2.2.2.2.2.2.2.2.2.2.2.2.2.2.2.2.1 C (by omega) (by omega) hroom hI (by omega) (fun σ2 h2 => step σ2 h2))
        | 18, _, hj => exact w_tableIn C (off := 864) (tgt := 896) dL_law_32 (by rw [hj]; decide) (by rw [hj]; decide) (by rw [hj]; first | done | rfl) rfl (wc18 hOK.2.2.2.2.2.2.2.2.2.2.2.2.2.2.2.2.2.2.1 C (by omega) (by omega) hroom hI (by omega) (fun σ2 h2 => step σ2 h2))
        | 19, _, hj => exact w_tableIn C (off := 887) (tgt := 919) dL_law_32 (by rw [hj]; decide) (by rw [hj]; decide) (by rw [hj]; first | done | rfl) rfl (wc19 hOK.2.2.2.2.2.2.2.2.2.2.2.2.2.2.2.2.2.2.2.1 C (by omega) (by omega) hroom hI (by omega) (fun σ2 h2 => step σ2 h2))
        | 20, _, hj => exact w_tableIn C (off := 920) (tgt := 952) dL_law_32 (by rw [hj]; decide) (by rw [hj]; decide) (by rw [hj]; first | done | rfl) rfl (wc20 hOK.2.2.2.2.2.2.2.2.2.2.2.2.2.2.2.2.2.2.2.2.1 C (by omega) (by omega) hroom hI (by omega) (fun σ2 h2 => step σ2 h2))
        | 21, _, hj => exact w_tableIn C (off := 953) (tgt := 985) dL_law_32 (by rw [hj]; decide) (by rw [hj]; decide) (by rw [hj]; first | done | rfl) rfl (wc21 hOK.2.2.2.2.2.2.2.2.2.2.2.2.2.2.2.2.2.2.2.2.2.1 C (by omega) (by omega) hroom hI (by omega) (fun σ2 h2 => step σ2 h2))
        | 22, _, hj => exact w_tableIn C (off := 986) (tgt := 1018) dL_law_32 (by rw [hj]; decide) (by rw [hj]; decide) (by rw [hj]; first | done | rfl) rfl (wc22 hOK.2.2.2.2.2.2.2.2.2.2.2.2.2.2.2.2.2.2.2.2.2.2.1 C (by omega) (by omega) hroom hI (by omega) (fun σ2 h2 => step σ2 h2))
        | 23, _, hj => exact w_tableIn C (off := 1019) (tgt := 1051) dL_law_32 (by rw [hj]; decide) (by rw [hj]; decide) (by rw [hj]; first | done | rfl) rfl (wc23 hOK.2.2.2.2.2.2.2.2.2.2.2.2.2.2.2.2.2.2.2.2.2.2.2.1 C (by omega) (by omega) hroom hI (by omega) (fun σ2 h2 => step σ2 h2))
        | 24, _, hj => exact w_tableIn C (off := 1052) (tgt := 1084) dL_law_32 (by rw [hj]; decide) (by rw [hj]; decide) (by rw [hj]; first | done | rfl) rfl (wc24 hOK.2.2.2.2.2.2.2.2.2.2.2.2.2.2.2.2.2.2.2.2.2.2.2.2.1 C (by omega) (by omega) hroom hI (by omega) (fun σ2 h2 => step σ2 h2))
        | 25, _, hj => exact w_tableIn C (off := 1085) (tgt := 1117) dL_law_32 (by rw [hj]; decide) (by rw [hj]; decide) (by rw [hj]; first | done | rfl) rfl (wc25 hOK.2.2.2.2.2.2.2.2.2.2.2.2.2.2.2.2.2.2.2.2.2.2.2.2.2.1 C (by omega) (by omega) hroom hI (by omega) (fun σ2 h2 => step σ2 h2))
        | 26, _, hj => exact w_tableIn C (off := 1118) (tgt := 1150) dL_law_32 (by rw [hj]; decide) (by rw [hj]; decide) (by rw [hj]; first | done | rfl) rfl (wc26 hOK.2.2.2.2.2.2.2.2.2.2.2.2.2.2.2.2.2.2.2.2.2.2.2.2.2.2.1 C (by omega) (by omega) hroom hI (by omega) (fun σ2 h2 => step σ2 h2))
        | 27, _, hj => exact w_tableIn C (off := 1141) (tgt := 1173) dL_law_32 (by rw [hj]; decide) (by rw [hj]; decide) (by rw [hj]; first | done | rfl) rfl (wc27 hOK.2.2.2.2.2.2.2.2.2.2.2.2.2.2.2.2.2.2.2.2.2.2.2.2.2.2.2.1 C (by omega) (by omega) hroom hI (by omega) (fun σ2 h2 => step σ2 h2))
        | 28, _, hj => exact w_tableIn C (off := 1174) (tgt := 1206) dL_law_32 (by rw [hj]; decide) (by rw [hj]; decide) (by rw [hj]; first | done | rfl) rfl (wc28 hOK.2.2.2.2.2.2.2.2.2.2.2.2.2.2.2.2.2.2.2.2.2.2.2.2.2.2.2.2.1 C (by omega) (by omega) hroom hI (by omega) (fun σ2 h2 => step σ2 h2))
        | 29, _, hj => exact w_tableIn C (off := 1207) (tgt := 1239) dL_law_32 (by rw [hj]; decide) (by rw [hj]; decide) (by rw [hj]; first | done | rfl) rfl (wc29 hOK.2.2.2.2.2.2.2.2.2.2.2.2.2.2.2.2.2.2.2.2.2.2.2.2.2.2.2.2.2.1 C (by omega) (by omega) hroom hI (by omega) (fun σ2 h2 => step σ2 h2))
        | 30, _, hj => exact w_tableIn C (off := 1230) (tgt := 1262) dL_law_32 (by rw [hj]; decide) (by rw [hj]; decide) (by rw [hj]; first | done | rfl) rfl (wc30 hOK.2.2.2.2.2.2.2.2.2.2.2.2.2.2.2.2.2.2.2.2.2.2.2.2.2.2.2.2.2.2.1 C (by omega) (by omega) hroom hI (by omega) (fun σ2 h2 => step σ2 h2))
        | 31, _, hj => exact w_tableIn C (off := 1253) (tgt := 1285) dL_law_32 (by rw [hj]; decide) (by rw [hj]; decide) (by rw [hj]; first | done | rfl) rfl (wc31 hOK.2.2.2.2.2.2.2.2.2.2.2.2.2.2.2.2.2.2.2.2.2.2.2.2.2.2.2.2.2.2.2.1 C (by omega) (by omega) hroom hI (by omega) (fun σ2 h2 => step σ2 h2))
        | 32, _, hj => exact w_tableIn C (off := 1276) (tgt := 1308) dL_law_32 (by rw [hj]; decide) (by rw [hj]; decide) (by rw [hj]; first | done | rfl) rfl (wc32 hOK.2.2.2.2.2.2.2.2.2.2.2.2.2.2.2.2.2.2.2.2.2.2.2.2.2.2.2.2.2.2.2.2.1 C (by omega) (by omega) hroom hI (by omega) (fun σ2 h2 => step σ2 h2))
        | 33, _, hj => exact w_tableIn C (off := 1289) (tgt := 1321) dL_law_32 (by rw [hj]; decide) (by rw [hj]; decide) (by rw [hj]; first | done | rfl) rfl (wc33 hOK.2.2.2.2.2.2.2.2.2.2.2.2.2.2.2.2.2.2.2.2.2.2.2.2.2.2.2.2.2.2.2.2.2.1 C (by omega) (by omega) hroom hI (by omega) (fun σ2 h2 => step σ2 h2))
        | 34, _, hj => exact w_tableIn C (off := 1302) (tgt := 1334) dL_law_32 (by rw [hj]; decide) (by rw [hj]; decide) (by rw [hj]; first | done | rfl) rfl (wc34 hOK.2.2.2.2.2.2.2.2.2.2.2.2.2.2.2.2.2.2.2.2.2.2.2.2.2.2.2.2.2.2.2.2.2.2.1 C (by omega) (by omega) hroom hI (by omega) (fun σ2 h2 => step σ2 h2))
        | 35, _, hj => exact w_tableIn C (off := 1335) (tgt := 1367) dL_law_32 (by rw [hj]; decide) (by rw [hj]; decide) (by rw [hj]; first | done | rfl) rfl (wc35 hOK.2.2.2.2.2.2.2.2.2.2.2.2.2.2.2.2.2.2.2.2.2.2.2.2.2.2.2.2.2.2.2.2.2.2.2.1 C (by omega) (by omega) hroom hI (by omega) (fun σ2 h2 => step σ2 h2))
        | 36, _, hj => exact w_tableIn C (off := 1378) (tgt := 1410) dL_law_32 (by rw [hj]; decide) (by rw [hj]; decide) (by rw [hj]; first | done | rfl) rfl (wc36 hOK.2.2.2.2.2.2.2.2.2.2.2.2.2.2.2.2.2.2.2.2.2.2.2.2.2.2.2.2.2.2.2.2.2.2.2.2.1 C (by omega) (by omega) hroom hI (by omega) (fun σ2 h2 => step σ2 h2))
        | 37, _, hj => exact w_tableIn C (off := 1401) (tgt := 1433) dL_law_32 (by rw [hj]; decide) (by rw [hj]; decide) (by rw [hj]; first | done | rfl) rfl (wc37 hOK.2.2.2.2.2.2.2.2.2.2.2.2.2.2.2.2.2.2.2.2.2.2.2.2.2.2.2.2.2.2.2.2.2.2.2.2.2.1 C (by omega) (by omega) hroom hI (by omega) (fun σ2 h2 => step σ2 h2))
        | 38, _, hj => exact w_tableIn C (off := 1434) (tgt := 1466) dL_law_32 (by rw [hj]; decide) (by rw [hj]; decide) (by rw [hj]; first | done | rfl) rfl (wc38 hOK.2.2.2.2.2.2.2.2.2.2.2.2.2.2.2.2.2.2.2.2.2.2.2.2.2.2.2.2.2.2.2.2.2.2.2.2.2.2.1 C (by omega) (by omega) hroom hI (by omega) (fun σ2 h2 => step σ2 h2))
        | 39, _, hj => exact w_tableIn C (off := 1467) (tgt := 1499) dL_law_32 (by rw [hj]; decide) (by rw [hj]; decide) (by rw [hj]; first | done | rfl) rfl (wc39 hOK.2.2.2.2.2.2.2.2.2.2.2.2.2.2.2.2.2.2.2.2.2.2.2.2.2.2.2.2.2.2.2.2.2.2.2.2.2.2.2.1 C (by omega) (by omega) hroom hI (by omega) (fun σ2 h2 => step σ2 h2))
        | 40, _, hj => exact w_tableIn C (off := 1480) (tgt := 1512) dL_law_32 (by rw [hj]; decide) (by rw [hj]; decide) (by rw [hj]; first | done | rfl) rfl (wc40 hOK.2.2.2.2.2.2.2.2.2.2.2.2.2.2.2.2.2.2.2.2.2.2.2.2.2.2.2.2.2.2.2.2.2.2.2.2.2.2.2.2.1 C (by omega) (by omega) hroom hI (by omega) (fun σ2 h2 => step σ2 h2))
        | 41, _, hj => exact w_tableIn C (off := 1503) (tgt := 1535) dL_law_32 (by rw [hj]; decide) (by rw [hj]; decide) (by rw [hj]; first | done | rfl) rfl (wc41 hOK.2.2.2.2.2.2.2.2.2.2.2.2.2.2.2.2.2.2.2.2.2.2.2.2.2.2.2.2.2.2.2.2.2.2.2.2.2.2.2.2.2.1 C (by omega) (by omega) hroom hI (by omega) (fun σ2 h2 => step σ2 h2))
        | 42, _, hj => exact w_tableIn C (off := 1526) (tgt := 1558) dL_law_32 (by rw [hj]; decide) (by rw [hj]; decide) (by rw [hj]; first | done | rfl) rfl (wc42 hOK.2.2.2.2.2.2.2.2.2.2.2.2.2.2.2.2.2.2.2.2.2.2.2.2.2.2.2.2.2.2.2.2.2.2.2.2.2.2.2.2.2.2.1 C (by omega) (by omega) hroom hI (by omega) (fun σ2 h2 => step σ2 h2))
        | 43, _, hj => exact w_tableIn C (off := 1569) (tgt := 1601) dL_law_32 (by rw [hj]; decide) (by rw [hj]; decide) (by rw [hj]; first | done | rfl) rfl (wc43 hOK.2.2.2.2.2.2.2.2.2.2.2.2.2.2.2.2.2.2.2.2.2.2.2.2.2.2.2.2.2.2.2.2.2.2.2.2.2.2.2.2.2.2.2.1 C (by omega) (by omega) hroom hI (by omega) (fun σ2 h2 => step σ2 h2))
        | 44, _, hj => exact w_tableIn C (off := 1602) (tgt := 1634) dL_law_32 (by rw [hj]; decide) (by rw [hj]; decide) (by rw [hj]; first | done | rfl) rfl (wc44 hOK.2.2.2.2.2.2.2.2.2.2.2.2.2.2.2.2.2.2.2.2.2.2.2.2.2.2.2.2.2.2.2.2.2.2.2.2.2.2.2.2.2.2.2.2.1 C (by omega) (by omega) hroom hI (by omega) (fun σ2 h2 => step σ2 h2))
        | 45, _, hj => exact w_tableIn C (off := 1645) (tgt := 1677) dL_law_32 (by rw [hj]; decide) (by rw [hj]; decide) (by rw [hj]; first | done | rfl) rfl (wc45 hOK.2.2.2.2.2.2.2.2.2.2.2.2.2.2.2.2.2.2.2.2.2.2.2.2.2.2.2.2.2.2.2.2.2.2.2.2.2.2.2.2.2.2.2.2.2.1 C (by omega) (by omega) hroom hI (by omega) (fun σ2 h2 => step σ2 h2))
        | 46, _, hj => exact w_tableIn C (off := 1668) (tgt := 1700) dL_law_32 (by rw [hj]; decide) (by rw [hj]; decide) (by rw [hj]; first | done | rfl) rfl (wc46 hOK.2.2.2.2.2.2.2.2.2.2.2.2.2.2.2.2.2.2.2.2.2.2.2.2.2.2.2.2.2.2.2.2.2.2.2.2.2.2.2.2.2.2.2.2.2.2.1 C (by omega) (by omega) hroom hI (by omega) (fun σ2 h2 => step σ2 h2))
        | 47, _, hj => exact w_tableIn C (off := 1717) (tgt := 1749) dL_law_32 (by rw [hj]; decide) (by rw [hj]; decide) (by rw [hj]; first | done | rfl) rfl (wc47 hOK.2.2.2.2.2.2.2.2.2.2.2.2.2.2.2.2.2.2.2.2.2.2.2.2.2.2.2.2.2.2.2.2.2.2.2.2.2.2.2.2.2.2.2.2.2.2.2.1 C (by omega) (by omega) hroom hI (by omega) (fun σ2 h2 => step σ2 h2))
        | 48, _, hj => exact w_tableIn C (off := 1740) (tgt := 1772) dL_law_32 (by rw [hj]; decide) (by rw [hj]; decide) (by rw [hj]; first | done | rfl) rfl (wc48 hOK.2.2.2.2.2.2.2.2.2.2.2.2.2.2.2.2.2.2.2.2.2.2.2.2.2.2.2.2.2.2.2.2.2.2.2.2.2.2.2.2.2.2.2.2.2.2.2.2.1 C (by omega) (by omega) hroom hI (by omega) (fun σ2 h2 => step σ2 h2))
        | 49, _, hj => exact w_tableIn C (off := 1753) (tgt := 1785) dL_law_32 (by rw [hj]; decide) (by rw [hj]; decide) (by rw [hj]; first | done | rfl) rfl (wc49 hOK.2.2.2.2.2.2.2.2.2.2.2.2.2.2.2.2.2.2.2.2.2.2.2.2.2.2.2.2.2.2.2.2.2.2.2.2.2.2.2.2.2.2.2.2.2.2.2.2.2.1 C (by omega) (by omega) hroom hI (by omega) (fun σ2 h2 => step σ2 h2))
        | 50, _, hj => exact w_tableIn C (off := 1766) (tgt := 1798) dL_law_32 (by rw [hj]; decide) (by rw [hj]; decide) (by rw [hj]; first | done | rfl) rfl (wc50 hOK.2.2.2.2.2.2.2.2.2.2.2.2.2.2.2.2.2.2.2.2.2.2.2.2.2.2.2.2.2.2.2.2.2.2.2.2.2.2.2.2.2.2.2.2.2.2.2.2.2.2.1 C (by omega) (by omega) hroom hI (by omega) (fun σ2 h2 => step σ2 h2))
        | 51, _, hj => exact w_tableIn C (off := 1779) (tgt := 1811) dL_law_32 (by rw [hj]; decide) (by rw [hj]; decide) (by rw [hj]; first | done | rfl) rfl (wc51 hOK.2.2.2.2.2.2.2.2.2.2.2.2.2.2.2.2.2.2.2.2.2.2.2.2.2.2.2.2.2.2.2.2.2.2.2.2.2.2.2.2.2.2.2.2.2.2.2.2.2.2.2.1 C (by omega) (by omega) hroom hI (by omega) (fun σ2 h2 => step σ2 h2))
        | 52, _, hj => exact w_tableIn C (off := 1802) (tgt := 1834) dL_law_32 (by rw [hj]; decide) (by rw [hj]; decide) (by rw [hj]; first | done | rfl) rfl (wc52 hOK.2.2.2.2.2.2.2.2.2.2.2.2.2.2.2.2.2.2.2.2.2.2.2.2.2.2.2.2.2.2.2.2.2.2.2.2.2.2.2.2.2.2.2.2.2.2.2.2.2.2.2.2.1 C (by omega) (by omega) hroom hI (by omega) (fun σ2 h2 => step σ2 h2))
        | 53, _, hj => exact w_tableIn C (off := 1825) (tgt := 1857) dL_law_32 (by rw [hj]; decide) (by rw [hj]; decide) (by rw [hj]; first | done | rfl) rfl (wc53 hOK.2.2.2.2.2.2.2.2.2.2.2.2.2.2.2.2.2.2.2.2.2.2.2.2.2.2.2.2.2.2.2.2.2.2.2.2.2.2.2.2.2.2.2.2.2.2.2.2.2.2.2.2.2 C (by omega) (by omega) hroom hI (by omega) (fun σ2 h2 => step σ2 h2))
        | j + 54, h1, hj =>
          refine w_tableOut C (tgt := 1871) dL_law_32 (Or.inr ?_) rfl (skip σ hI)
          rw [hj, nI_toInt (by omega)]
          omega
theorem kAd_lo : ∀ i ∈ x_ids false, kAd 0 i.1 i.2.1 i.2.2.1 i.2.2.2 < 201 := by decide +kernel
theorem kBd_add (n0 d : Nat) : kBd n0 d = n0 + kBd 0 d := by
  unfold kBd
  split <;> omega
theorem kAd_add (n0 d K p r : Nat) : kAd n0 d K p r = n0 + kAd 0 d K p r := by
  unfold kAd
  rw [kBd_add n0 d]
  split
  · omega
  · split <;> omega
theorem kAd_inj : ∀ i ∈ x_ids false, ∀ j ∈ x_ids false, kAd 0 i.1 i.2.1 i.2.2.1 i.2.2.2 = kAd 0 j.1 j.2.1 j.2.2.1 j.2.2.2 → i = j := by
  have h : ((x_ids false).map fun i => kAd 0 i.1 i.2.1 i.2.2.1 i.2.2.2).Nodup := by decide +kernel
  intro i hi j hj hij
  obtain ⟨a, ha⟩ := List.getElem?_of_mem hi
  obtain ⟨b, hb⟩ := List.getElem?_of_mem hj
  have h1 : ((x_ids false).map fun i => kAd 0 i.1 i.2.1 i.2.2.1 i.2.2.2)[a]? = ((x_ids false).map fun i => kAd 0 i.1 i.2.1 i.2.2.1 i.2.2.2)[b]? := by
    rw [List.getElem?_map, List.getElem?_map, ha, hb]
    simp only [Option.map_some, hij]
  have hl : a < ((x_ids false).map fun i => kAd 0 i.1 i.2.1 i.2.2.1 i.2.2.2).length := by rw [List.length_map]; exact (List.getElem?_eq_some_iff.mp ha).1
  have := (List.getElem?_inj hl h).mp h1
  subst this
  rw [ha] at hb
  exact Option.some.inj hb
theorem mdl_ids : ∀ i ∈ x_ids true, i ∈ x_ids false ∨ (i.1 = 5 ∧ i.2.2.1 = 0 ∧ i.2.2.2 = 0 ∧ 30 ≤ i.2.1 ∧ i.2.1 ≤ 37) := by decide +kernel
theorem mdl_in : ∀ i ∈ x_ids false, i ∈ x_ids true := by decide +kernel

theorem x_cell_eq (w1 w2 : xW) (σ τ : xS) (d K p r : Nat) (hc : w2.2.1 = w1.2.1) (hs : ∀ k, τ d K p r k = σ d K p r k) (hr : ∀ k j, x_ref d K p r k = some j → x_ad w2 j = x_ad w1 j) : x_cell w2 τ d K p r = x_cell w1 σ d K p r := by
  have h1 : ∀ k, x_fv w2 τ d K p r k = x_fv w1 σ d K p r k := by
    intro k
    unfold x_fv
    cases hk : x_ref d K p r k with
    | none => simp only [hs k]
    | some j => simp only [hr k j hk]
  have h2 : τ d K p r = σ d K p r := funext hs
  have h3 : (fun j => (x_ref d K p r j).map (x_ad w2)) = (fun j => (x_ref d K p r j).map (x_ad w1)) := by
    funext k
    cases hk : x_ref d K p r k with
    | none => rfl
    | some j => simp only [Option.map_some, hr k j hk]
  unfold x_cell
  simp only [h1, h2, h3, hc]
theorem ids_K : ∀ i ∈ x_ids false, i.2.1 < 30 := by decide +kernel
theorem kref {d K p r k : Nat} {j : xI} (hd : d ≠ 5) (hK : K < 30) (h : x_ref d K p r k = some j) : ¬ (j.1 = 5 ∧ 30 ≤ j.2.1) := by
  unfold x_ref at h
  split at h
  · split at h <;> first | (cases h; intro q; exact hd q.1) | cases h
  · split at h
    · cases h
    · cases h; intro q; exact hd q.1
  · cases h; intro q; exact hd q.1
  · split at h <;> first | (cases h; intro q; exact hd q.1) | cases h
  · cases h; intro q; exact hd q.1
  · split at h <;> (cases h; intro q; have := q.1; omega)
  · cases h; intro q; have q2 : 30 ≤ 0 := q.2; omega
  · split at h <;> first | (cases h; intro q; have := q.1; omega) | cases h
  · omega
  · cases h
def kAd2 (n0 n1 : Nat) (d K p r : Nat) : Nat := if d = 5 ∧ 30 ≤ K then n1 + (K - 30) else kAd n0 d K p r
theorem x_e_eq (D : va_G) (cA : Nat → ClassId) (n0 n1 : Nat) (σ : xS) (i : xI) (hi : i ∈ x_ids false) : x_e ((D, true), cA, kAd2 n0 n1) (kZ σ) i = x_e ((D, false), cA, kAd n0) σ i := by
  have hne := mdl_not i hi
  have hK := ids_K i hi
  refine x_cell_eq ((D, false), cA, kAd n0) ((D, true), cA, kAd2 n0 n1) σ (kZ σ) i.1 i.2.1 i.2.2.1 i.2.2.2 rfl (fun k => by simp only [kZ, if_neg hne]) (fun k j hj => ?_)
  show kAd2 n0 n1 j.1 j.2.1 j.2.2.1 j.2.2.2 = kAd n0 j.1 j.2.1 j.2.2.1 j.2.2.2
  rw [kAd2, if_neg (kref hne hK hj)]
theorem x_ad_eq (D : va_G) (cA : Nat → ClassId) (n0 n1 : Nat) (i : xI) (hi : i ∈ x_ids false) : x_ad ((D, true), cA, kAd2 n0 n1) i = x_ad ((D, false), cA, kAd n0) i := by
  have hne := mdl_not i hi
  show kAd2 n0 n1 i.1 i.2.1 i.2.2.1 i.2.2.2 = kAd n0 i.1 i.2.1 i.2.2.1 i.2.2.2
  rw [kAd2, if_neg (fun q => hne q.1)]
theorem inj1 (D : va_G) (cA : Nat → ClassId) (n0 : Nat) : xInj ((D, false), cA, kAd n0) := by
  intro i hi j hj hij
  have h : kAd n0 i.1 i.2.1 i.2.2.1 i.2.2.2 = kAd n0 j.1 j.2.1 j.2.2.1 j.2.2.2 := hij
  rw [kAd_add, kAd_add n0 j.1] at h
  exact kAd_inj i hi j hj (by omega)
theorem inj2 (D : va_G) (cA : Nat → ClassId) (n0 n1 : Nat) (hn : n0 + 201 ≤ n1) : xInj ((D, true), cA, kAd2 n0 n1) := by
  have lo : ∀ i ∈ x_ids false, x_ad ((D, true), cA, kAd2 n0 n1) i < n1 := fun i hi => by
    rw [x_ad_eq D cA n0 n1 i hi]
    show kAd n0 i.1 i.2.1 i.2.2.1 i.2.2.2 < n1
    rw [kAd_add]
    have := kAd_lo i hi
    omega
  have hi2 : ∀ i ∈ x_ids true, (i.1 = 5 ∧ i.2.2.1 = 0 ∧ i.2.2.2 = 0 ∧ 30 ≤ i.2.1 ∧ i.2.1 ≤ 37) → x_ad ((D, true), cA, kAd2 n0 n1) i = n1 + (i.2.1 - 30) := fun i _ h => by
    show kAd2 n0 n1 i.1 i.2.1 i.2.2.1 i.2.2.2 = _
    rw [kAd2, if_pos ⟨h.1, h.2.2.2.1⟩]
  intro i hi j hj hij
  rcases mdl_ids i hi with h1 | h1 <;> rcases mdl_ids j hj with h2 | h2
  · rw [x_ad_eq D cA n0 n1 i h1, x_ad_eq D cA n0 n1 j h2] at hij
    exact inj1 D cA n0 i h1 j h2 hij
  · have a1 := lo i h1
    rw [hij, hi2 j hj h2] at a1
    omega
  · have a1 := lo j h2
    rw [← hij, hi2 i hi h1] at a1
    omega
  · rw [hi2 i hi h1, hi2 j hj h2] at hij
    obtain ⟨a, b, x, y⟩ := i
    obtain ⟨a', b', x', y'⟩ := j
    simp only at h1 h2 hij
    have e1 : b = b' := by omega
    rw [h1.1, h1.2.1, h1.2.2.1, h2.1, h2.2.1, h2.2.2.1, e1]
/-- a constructor's call in the law -/
theorem w_ctor {p : Program} {l : Launch} {e : Env} {s : State} {m : MethodId} {args : Array Value} {below : List Frame} {meth : Method} {c : Code} {H : Heap} {locs : List Loc} {cells slots mc ms pc : Nat} {Q : State → Prop} {ls : Array Slot} {rest st0 : List Value} {w : xW} {B : Nat → Prop} {wF : va_W} {bb : Bool} {a : Array Value} (hr : va_Run p l e room_1 s m args below meth c H locs cells slots mc ms (F0 m pc ls st0) rest (kQ w B wF mc bb a) B) (hS : va_S (fun q => s.heap.size ≤ q) s.heap H locs) (hB : ∀ q, B q → s.heap.size ≤ q)
    (kk : ∀ (H1 : Heap) (locs1 : List Loc), va_P w.1.1 vwCl wF H1 → va_D B wF → H.size ≤ H1.size → va_S (fun q => s.heap.size ≤ q) s.heap H1 locs1 → W p l e room_1 s m args below meth c H1 locs1 (cells + mc) (slots + ms) Q (F0 m (pc + 3) ls rest)) : W p l e room_1 s m args below meth c H locs cells slots Q (F0 m pc ls st0) := by
  intro T hT XS
  obtain ⟨v0, st₀, t, T', Lx, hh0, X', hL, e1, e2, ⟨hv, hP2, hD2, -, hz, hkk⟩, stp⟩ := hr T hT XS
  cases hv
  rw [hh0] at hz hkk
  obtain ⟨t2, a1, b1⟩ := kk T'.heap (locs ++ Lx) (by rw [e1]; exact hP2) hD2 (by rw [e1]; exact hz) ⟨Nat.le_trans hS.1 (by rw [e1]; exact hz), fun q q1 q2 => by rw [e1, hkk q (Nat.lt_of_lt_of_le q1 hS.1) (fun z => q2 (hB q z))]; exact hS.2.1 q q1 q2, fun q hq => by
      rcases List.mem_append.mp hq with q3 | q3
      · exact hS.2.2 q q3
      · exact hB _ (hL q q3)⟩ T' rfl X'
  exact ⟨t2, stp t2 a1, b1⟩
set_option maxRecDepth 100000 in
set_option maxHeartbeats 4000000 in
/-- the law, out of what the pure side owes -/
theorem whole_open {p : Program} {e : Env} {s : State} {m : MethodId} {below : List Frame} {meth : Method} {c : Code} (l : Launch) {b L : Nat} {xs : Nat → Int32} (hL : L ≤ 2560) (C0 : lw_At p s m meth c b L xs) {Inv : Nat → xS → Prop} {σ1 σ2 : xS} (hs1 : fX0_startAnew 0 64 4 kS0 = some ((), σ1)) (hs2 : fX6_starts 64 4 (kZ σ1) = some ((), σ2)) (hI : Inv 0 σ2) (hOK0 : ∀ n σ, Inv n σ → Inv (n + 1) σ) (hOK : xOK Inv) : W p l e room_1 s m #[Value.ref b] below meth c s.heap [] 0 0 (lw_Z below #[Value.ref b] s) (entryFrame m ([Value.ref b] : List Value).toArray 4) := by
  obtain ⟨hx, hb, hr, hml, hown, hts0, hX, hbl, hlocks, hgv⟩ := id C0
  have hts : ∀ x ∈ xT, x.before #[Value.ref b] s = true := fun x hx => hts0 x (xT_in hx)
  obtain ⟨c0, i0, hk0⟩ := u_known (C := RX0) (T := TX0) (N := 13) (n := 13) hts inxX0 (hts _ (xT_t1 (List.mem_of_getElem? (i := 19) rfl) rfl))
  obtain ⟨c1, i1, hk1⟩ := u_known (C := RX1) (T := TX1) (N := 9) (n := 9) hts inxX1 (hts _ (xT_t1 (List.mem_of_getElem? (i := 25) rfl) rfl))
  obtain ⟨c2, i2, hk2⟩ := u_known (C := RX2) (T := TX2) (N := 12) (n := 12) hts inxX2 (hts _ (xT_t1 (List.mem_of_getElem? (i := 65) rfl) rfl))
  obtain ⟨c3, i3, hk3⟩ := u_known (C := RX3) (T := TX3) (N := 16) (n := 16) hts inxX3 (hts _ (xT_t1 (List.mem_of_getElem? (i := 72) rfl) rfl))
  obtain ⟨c4, i4, hk4⟩ := u_known (C := RX4) (T := TX4) (N := 9) (n := 9) hts inxX4 (hts _ (xT_t2 (List.mem_of_getElem? (i := 28) rfl) rfl))
  obtain ⟨c5, i5, hk5⟩ := u_known (C := RX5) (T := TX5) (N := 5) (n := 5) hts inxX5 (hts _ (xT_t1 (List.mem_of_getElem? (i := 11) rfl) rfl))
  obtain ⟨c6, i6, hk6⟩ := u_known (C := RX6) (T := TX6) (N := 13) (n := 13) hts inxX6 (hts _ (xT_t4 (List.mem_of_getElem? (i := 174) rfl) rfl))
  obtain ⟨dC, dI, hKc⟩ : ∃ (dC : Nat → ClassId) (dI : Nat → Nat → Nat), ∀ (k : Nat) (q : vw_C), vwCl[k]? = some q → u_Kn s q.1 q.2.1 q.2.2 (dC k) (dI k) := by
    refine ⟨fun k => if k = 0 then c0 else if k = 1 then c1 else if k = 2 then c2 else if k = 3 then c3 else if k = 4 then c4 else if k = 5 then c5 else c6, fun k => if k = 0 then i0 else if k = 1 then i1 else if k = 2 then i2 else if k = 3 then i3 else if k = 4 then i4 else if k = 5 then i5 else i6, ?_⟩
    intro k q hq
    match k, hq with
    | 0, hq => cases hq; exact hk0
    | 1, hq => cases hq; exact hk1
    | 2, hq => cases hq; exact hk2
    | 3, hq => cases hq; exact hk3
    | 4, hq => cases hq; exact hk4
    | 5, hq => cases hq; exact hk5
    | 6, hq => cases hq; exact hk6
    | k + 7, hq => simp [vwCl] at hq
  obtain ⟨a0, ka0, co0, fa0, ga0, ha0⟩ := Cond.arrayClass_spec (hts _ (xT_t1 (List.mem_of_getElem? (i := 62) rfl) rfl))
  obtain ⟨a1, ka1, co1, fa1, ga1, ha1⟩ := Cond.arrayClass_spec (hts _ (xT_t1 (List.mem_of_getElem? (i := 61) rfl) rfl))
  have hao2 : va_AO RX2 s := hts0 _ (List.mem_append_right _ (List.mem_append_left _ (List.mem_of_getElem? (i := 64) rfl)))
  have hao3 : va_AO RX3 s := hts0 _ (List.mem_append_right _ (List.mem_append_left _ (List.mem_of_getElem? (i := 71) rfl)))
  have hao4 : va_AO RX0 s := hts0 _ (List.mem_append_right _ (List.mem_append_right _ (List.mem_append_left _ (List.mem_of_getElem? (i := 26) rfl))))
  obtain ⟨co2, a2, ka2, fc2, -, ga2, ha2, fa2⟩ := Cond.arrayOver_spec hao2
  obtain ⟨co3, a3, ka3, fc3, -, ga3, ha3, fa3⟩ := Cond.arrayOver_spec hao3
  obtain ⟨co4, a4, ka4, fc4, -, ga4, ha4, fa4⟩ := Cond.arrayOver_spec hao4
  obtain ⟨cA, hcA⟩ : ∃ cA : Nat → ClassId, cA = fun k => if k = 0 then a0 else if k = 1 then a1 else if k = 2 then a2 else if k = 3 then a3 else a4 := ⟨_, rfl⟩
  have hKt : ∀ (k : Nat) (q : ClassId × FieldType), ([(cA 0, .int), (cA 1, .boolean), (cA 2, .object RX2), (cA 3, .object RX3), (cA 4, .object RX0)] : List (ClassId × FieldType))[k]? = some q → ArrOfT s q.1 q.2 ∧ va_RA s q.1 q.2 := by
    intro k q hq
    subst hcA
    match k, hq with
    | 0, hq => cases hq; exact ⟨fun n z => ⟨fun k h => (by cases h), ka0, ga0, co0, ha0⟩, fa0⟩
    | 1, hq => cases hq; exact ⟨fun n z => ⟨fun k h => (by cases h), ka1, ga1, co1, ha1⟩, fa1⟩
    | 2, hq => cases hq; exact ⟨fun n z => ⟨fun k h => (by cases h), ka2, ga2, co2, ha2⟩, ka2, co2, ga2, ha2, fc2, fa2⟩
    | 3, hq => cases hq; exact ⟨fun n z => ⟨fun k h => (by cases h), ka3, ga3, co3, ha3⟩, ka3, co3, ga3, ha3, fc3, fa3⟩
    | 4, hq => cases hq; exact ⟨fun n z => ⟨fun k h => (by cases h), ka4, ga4, co4, ha4⟩, ka4, co4, ga4, ha4, fc4, fa4⟩
    | k + 5, hq => simp at hq
  have hK1 : va_K ((dC, dI) : va_G) vwCl (xTys ((((dC, dI), false), cA, kAd s.heap.size) : xW)) s := ⟨hKc, hKt⟩
  have hAO : kAO s := ⟨hao2, hao3, hao4⟩
  have hl := lv_entry ([.ref b]) (n := 4) (Nat.le_of_ble_eq_true rfl)
  rw [lg_entry_eq]
  generalize (lg_sl ([.ref b]) ++ List.replicate (4 - (lg_sl ([.ref b])).length) Slot.unset).toArray = ls at hl ⊢
  have hl : lv_has ls 4 [(0, .ref b)] := hl
  -- new SharedPacketBuffer()
  refine W.newcK hx hb hown (hts _ (xT_t1 (List.mem_of_getElem? (i := 10) rfl) rfl)) (hts _ (xT_t1 (List.mem_of_getElem? (i := 11) rfl) rfl)) (hts _ (xT_t1 (List.mem_of_getElem? (i := 1) rfl) rfl)) rfl dL_law_0 (Nat.le_of_ble_eq_true rfl) (Nat.le_of_ble_eq_true rfl) (hKc 5 _ rfl).2.1 (h := s.heap.size) rfl fun H1 kcl hkC e1 z1 o1 => ?_
  refine lv_dup hx hb dL_law_3 rfl ?_
  have hP1 : va_P ((dC, dI) : va_G) vwCl [(s.heap.size, .inr (5, [.null, .null, .null, .null, .null]))] H1 := fun i x hi => by
    have hz : i < 1 := (List.getElem?_eq_some_iff.mp hi).1
    rw [show i = 0 by omega] at hi
    cases hi
    exact ⟨_, rfl, (u_born tyX5 hts inxX5 (hKc 5 _ rfl) hkC e1 tyX5_ok).to (by decide)⟩
  have hS1 : va_S (fun q => s.heap.size ≤ q) s.heap H1 [] := ⟨by omega, fun x q1 q2 => o1 x q1, fun _ h => by cases h⟩
  have hE1 := kX5 (l := l) (w := (((dC, dI), false), cA, kAd s.heap.size)) (sz := s.heap.size + 1) (σ1 := σ1) rfl rfl (fun i hi => rfl) (fun d K p r hd => by show kAd _ _ _ _ _ = _; unfold kAd; rw [if_pos hd]; rfl) rfl rfl rfl rfl (inj1 _ _ _) hs1
  have hr1 := va_runI (p := p) (e := e) (below := below) (meth := meth) (H := H1) (locs := []) (cells := 0 + 1) (slots := 0 + 5) (g := F0 m 4 ls [.ref s.heap.size, .ref s.heap.size]) (As := []) (rest := [.ref s.heap.size]) (R := room_1) (own := R_law) ⟨hx, hb, hml, hown, hts⟩ hE1 ⟨callB_of 0 hts (x_GoodIn (xT_t1 (List.mem_of_getElem? (i := 14) rfl) rfl)) rfl rfl rfl (hts _ (xT_t1 (List.mem_of_getElem? (i := 1) rfl) rfl)) (hts _ (xT_t1 (List.mem_of_getElem? (i := 12) rfl) rfl)) (by decide +kernel) ⟨(Nat.le_of_ble_eq_true rfl), (Nat.le_of_ble_eq_true rfl)⟩, rfl, hts _ (xT_t1 (List.mem_of_getElem? (i := 13) rfl) rfl)⟩ ⟨k_blind _ _ _ _, fun U hU hW => ⟨rfl, by rw [hU]; exact z1, by rw [hU]; exact hP1, va_K.moved hW.alike hK1, hAO.moved hW.alike⟩⟩ rfl rfl hl.1 rfl (lv_room (Nat.le_of_ble_eq_true rfl)) dL_law_4 ⟨(Nat.le_of_ble_eq_true rfl), (Nat.le_of_ble_eq_true rfl)⟩
  refine w_ctor hr1 hS1 (fun q hq => hq.elim (fun z => Nat.le_of_eq z.symm) (fun z => by omega)) (fun H2 locs2 hP2 hD2 hz2 hS2 => ?_)
  refine lv_astore_n (lv' := [(1, .ref s.heap.size), (0, .ref b)]) hx hb dL_law_7 rfl hl (by decide) rfl (fun ls hl => ?_)
  -- new SharedPacketBufferModel()
  have hlt : s.heap.size + 201 ≤ H2.size := by
    obtain ⟨q0, hq, he⟩ := x_pos ((((dC, dI), false), cA, kAd s.heap.size) : xW) σ1 (d := 4) (K := 24) (p := 0) (r := 0) rfl
    have := (hP2 q0 _ he).lt
    have h9 : kAd s.heap.size 4 24 0 0 = s.heap.size + 200 := rfl
    simp only [h9] at this
    omega
  refine W.newcK hx hb hown (hts _ (xT_t4 (List.mem_of_getElem? (i := 173) rfl) rfl)) (hts _ (xT_t4 (List.mem_of_getElem? (i := 174) rfl) rfl)) (hts _ (xT_t1 (List.mem_of_getElem? (i := 7) rfl) rfl)) rfl dL_law_8 (Nat.le_of_ble_eq_true rfl) (Nat.le_of_ble_eq_true rfl) (hKc 6 _ rfl).2.1 (h := H2.size) rfl fun H3 kC3 hkC3 e3 z3 o3 => ?_
  refine lv_dup hx hb dL_law_11 rfl ?_
  have hinj2 := inj2 (dC, dI) cA s.heap.size H2.size hlt
  have hnew : ∀ i ∈ x_ids true, s.heap.size ≤ x_ad ((((dC, dI), true), cA, kAd2 s.heap.size H2.size) : xW) i := by
    intro i hi
    rcases mdl_ids i hi with h1 | h1
    · rw [x_ad_eq (dC, dI) cA _ _ i h1]
      show s.heap.size ≤ kAd _ _ _ _ _
      rw [kAd_add]
      omega
    · show s.heap.size ≤ kAd2 _ _ _ _ _ _
      rw [kAd2, if_pos ⟨h1.1, h1.2.2.2.1⟩]
      omega
  have hPr : va_P ((dC, dI) : va_G) vwCl ((x_ids false).map (kC ((((dC, dI), true), cA, kAd2 s.heap.size H2.size) : xW) (kZ σ1))) H3 := by
    have hq : (x_ids false).map (kC ((((dC, dI), true), cA, kAd2 s.heap.size H2.size) : xW) (kZ σ1)) = xC ((((dC, dI), false), cA, kAd s.heap.size) : xW) σ1 := by
      refine List.map_congr_left (fun i hi => ?_)
      show (x_ad _ i, x_e _ _ i) = (x_ad _ i, x_e _ _ i)
      rw [x_ad_eq (dC, dI) cA _ _ i hi, x_e_eq (dC, dI) cA _ _ σ1 i hi]
    rw [hq]
    exact hP2.kept (fun k q hk => o3 q.1 ((hP2 k q hk).lt))
  have hP3 : va_P ((dC, dI) : va_G) vwCl ([(H2.size, .inr (6, [.null, .null, .null, .null, .null, .int 0, .null, .int 0, .null, .int 0, .int 0, .int 0, .int 0]))] ++ (x_ids false).map (kC ((((dC, dI), true), cA, kAd2 s.heap.size H2.size) : xW) (kZ σ1))) H3 := va_P.app (fun i x hi => by
    have hz : i < 1 := (List.getElem?_eq_some_iff.mp hi).1
    rw [show i = 0 by omega] at hi
    cases hi
    exact ⟨_, rfl, (u_born tyX6 hts inxX6 (hKc 6 _ rfl) hkC3 e3 tyX6_ok).to (by decide)⟩) hPr
  have hD3 : va_D (fun q => s.heap.size ≤ q) ([(H2.size, .inr (6, [.null, .null, .null, .null, .null, .int 0, .null, .int 0, .null, .int 0, .int 0, .int 0, .int 0]))] ++ (x_ids false).map (kC ((((dC, dI), true), cA, kAd2 s.heap.size H2.size) : xW) (kZ σ1))) := by
    have key : ∀ (k : Nat) (q : Nat × va_E), ((x_ids false).map (kC ((((dC, dI), true), cA, kAd2 s.heap.size H2.size) : xW) (kZ σ1)))[k]? = some q → ∃ i, (x_ids false)[k]? = some i ∧ x_ad ((((dC, dI), true), cA, kAd2 s.heap.size H2.size) : xW) i = q.1 := by
      intro k q hk
      rw [List.getElem?_map] at hk
      cases hi : (x_ids false)[k]? with
      | none => rw [hi] at hk; cases hk
      | some i => rw [hi] at hk; cases hk; exact ⟨i, rfl, rfl⟩
    refine va_D.app ⟨fun i j x y hi hj _ => ?_, fun i x hi => ?_⟩ ⟨fun i j x y hi hj hxy => ?_, fun i x hi => ?_⟩ (fun i j x y hi hj hxy => ?_)
    · have hi1 : i < 1 := (List.getElem?_eq_some_iff.mp hi).1
      have hj1 : j < 1 := (List.getElem?_eq_some_iff.mp hj).1
      omega
    · have hi1 : i < 1 := (List.getElem?_eq_some_iff.mp hi).1
      rw [show i = 0 by omega] at hi
      cases hi
      exact hS2.1
    · obtain ⟨u, hu, eu⟩ := key i x hi
      obtain ⟨v, hv, ev⟩ := key j y hj
      have := hinj2 u (mdl_in u (List.mem_of_getElem? hu)) v (mdl_in v (List.mem_of_getElem? hv)) (eu.trans (hxy.trans ev.symm))
      subst this
      exact (List.getElem?_inj (List.getElem?_eq_some_iff.mp hu).1 (x_nodup false)).mp (hu.trans hv.symm)
    · obtain ⟨u, hu, eu⟩ := key i x hi
      rw [← eu]
      exact hnew u (mdl_in u (List.mem_of_getElem? hu))
    · have hi1 : i < 1 := (List.getElem?_eq_some_iff.mp hi).1
      rw [show i = 0 by omega] at hi
      cases hi
      obtain ⟨v, hv, ev⟩ := key j y hj
      have a1 : x_ad ((((dC, dI), true), cA, kAd2 s.heap.size H2.size) : xW) v = H2.size := ev.trans hxy.symm
      rw [x_ad_eq (dC, dI) cA _ _ v (List.mem_of_getElem? hv)] at a1
      have a2 : kAd s.heap.size v.1 v.2.1 v.2.2.1 v.2.2.2 = H2.size := a1
      rw [kAd_add] at a2
      have := kAd_lo v (List.mem_of_getElem? hv)
      omega
  have hK2 : va_K ((dC, dI) : va_G) vwCl (xTys ((((dC, dI), true), cA, kAd2 s.heap.size H2.size) : xW)) s := ⟨hKc, hKt⟩
  have hS3 : va_S (fun q => s.heap.size ≤ q) s.heap H3 locs2 := ⟨by have := hS2.1; omega, fun x q1 q2 => (o3 x (by have := hS2.1; omega)).trans (hS2.2.1 x q1 q2), hS2.2.2⟩
  have hE2 := kX6 (l := l) (w := (((dC, dI), true), cA, kAd2 s.heap.size H2.size)) (sz := H2.size + 1) (σ := σ1) (σ1 := σ2) (B := fun q => s.heap.size ≤ q) rfl (fun K h1 h2 => by show kAd2 _ _ _ _ _ _ = _; rw [kAd2, if_pos ⟨rfl, by omega⟩]; omega) hinj2 (fun q hq => by have := hS2.1; omega) hD3 hs2
  have hr2 := va_runI (p := p) (e := e) (below := below) (meth := meth) (H := H3) (locs := locs2) (cells := 0 + 1 + 200 + 1) (slots := 0 + 5 + 6125 + 13) (g := F0 m 12 ls [.ref H2.size, .ref H2.size]) (As := []) (rest := [.ref H2.size]) (R := room_1) (own := R_law) ⟨hx, hb, hml, hown, hts⟩ hE2 ⟨callB_of 0 hts (x_GoodIn (xT_t4 (List.mem_of_getElem? (i := 177) rfl) rfl)) rfl rfl rfl (hts _ (xT_t1 (List.mem_of_getElem? (i := 7) rfl) rfl)) (hts _ (xT_t4 (List.mem_of_getElem? (i := 175) rfl) rfl)) (by decide +kernel) ⟨(Nat.le_of_ble_eq_true rfl), (Nat.le_of_ble_eq_true rfl)⟩, rfl, hts _ (xT_t4 (List.mem_of_getElem? (i := 176) rfl) rfl)⟩ ⟨k_blind _ _ _ _, fun U hU hW => ⟨rfl, by rw [hU]; exact z3, by rw [hU]; exact hP3, va_K.moved hW.alike hK2, hAO.moved hW.alike⟩⟩ rfl rfl hl.1 rfl (lv_room (Nat.le_of_ble_eq_true rfl)) dL_law_12 ⟨(Nat.le_of_ble_eq_true rfl), (Nat.le_of_ble_eq_true rfl)⟩
  refine w_ctor hr2 hS3 (fun q hq => hq) (fun H4 locs4 hP4 hD4 hz4 hS4 => ?_)
  refine lv_astore_n (lv' := [(2, .ref H2.size), (1, .ref s.heap.size), (0, .ref b)]) hx hb dL_law_15 rfl hl (by decide) rfl (fun ls hl => ?_)
  refine lv_iconst (v := 0) hx hb dL_law_16 rfl ?_
  refine lv_istore_n (lv' := [(3, .int 0), (2, .ref H2.size), (1, .ref s.heap.size), (0, .ref b)]) hx hb dL_law_17 rfl hl (by decide) rfl (fun ls hl => ?_)
  have C : wAmb ((((dC, dI), true), cA, kAd2 s.heap.size H2.size) : xW) p s m c b L xs := ⟨hx, hb, hml, hown, hts, hK2, hX, hbl, hinj2, rfl, hnew⟩
  exact wloop hOK hOK0 C hr hlocks hL ⟨(Nat.le_of_ble_eq_true rfl), (Nat.le_of_ble_eq_true rfl)⟩ (L / 5 + 1) 0 σ2 (by omega) (by omega) hI H4 locs4 ls hP4 hS4 (lv_sub hl [3, 2, 1, 0] rfl)
