section XR
variable {l : Launch} {w : xW} {M : xM} {pc : Nat} {L : List (Nat × Value)} {st : List Value} {σ τ : xS} {v : Option Value}
theorem x_iload_n {k : Fin 4} {i : Nat} {x : Int32} (hd : decode M.2.1 pc = .ok (.iload_n k, 1)) (hi : (k : Nat) = i) (j : Nat) (hj : L[j]? = some (i, .int x)) (h : xAt l w M (pc + 1) L (.int x :: st) σ v τ) : xAt l w M pc L st σ v τ := fun p e R s m args below meth c H locs ls A hP hS hl => lv_iload_n A.1 A.2.1 hd hi (lv_at hl j hj) (h p e R s m args below meth c H locs ls A hP hS hl)
theorem x_iload {i : Nat} {x : Int32} (hd : decode M.2.1 pc = .ok (.iload i, 2)) (j : Nat) (hj : L[j]? = some (i, .int x)) (h : xAt l w M (pc + 2) L (.int x :: st) σ v τ) : xAt l w M pc L st σ v τ := fun p e R s m args below meth c H locs ls A hP hS hl => lv_iload A.1 A.2.1 hd (lv_at hl j hj) (h p e R s m args below meth c H locs ls A hP hS hl)
theorem x_aload_n {k : Fin 4} {i : Nat} {x : Nat} (hd : decode M.2.1 pc = .ok (.aload_n k, 1)) (hi : (k : Nat) = i) (j : Nat) (hj : L[j]? = some (i, .ref x)) (h : xAt l w M (pc + 1) L (.ref x :: st) σ v τ) : xAt l w M pc L st σ v τ := fun p e R s m args below meth c H locs ls A hP hS hl => lv_aload_n A.1 A.2.1 hd hi (lv_at hl j hj) (h p e R s m args below meth c H locs ls A hP hS hl)
theorem x_aload {i : Nat} {x : Nat} (hd : decode M.2.1 pc = .ok (.aload i, 2)) (j : Nat) (hj : L[j]? = some (i, .ref x)) (h : xAt l w M (pc + 2) L (.ref x :: st) σ v τ) : xAt l w M pc L st σ v τ := fun p e R s m args below meth c H locs ls A hP hS hl => lv_aload A.1 A.2.1 hd (lv_at hl j hj) (h p e R s m args below meth c H locs ls A hP hS hl)
theorem x_lload_n {k : Fin 4} {i : Nat} {x : Int64} (hd : decode M.2.1 pc = .ok (.lload_n k, 1)) (hi : (k : Nat) = i) (j : Nat) (hj : L[j]? = some (i, .long x)) (h : xAt l w M (pc + 1) L (.long x :: st) σ v τ) : xAt l w M pc L st σ v τ := fun p e R s m args below meth c H locs ls A hP hS hl => lv_lload_n A.1 A.2.1 hd hi (lv_at hl j hj) (h p e R s m args below meth c H locs ls A hP hS hl)
theorem x_lload {i : Nat} {x : Int64} (hd : decode M.2.1 pc = .ok (.lload i, 2)) (j : Nat) (hj : L[j]? = some (i, .long x)) (h : xAt l w M (pc + 2) L (.long x :: st) σ v τ) : xAt l w M pc L st σ v τ := fun p e R s m args below meth c H locs ls A hP hS hl => lv_lload A.1 A.2.1 hd (lv_at hl j hj) (h p e R s m args below meth c H locs ls A hP hS hl)
theorem x_aload_nN {k : Fin 4} {i : Nat} (hd : decode M.2.1 pc = .ok (.aload_n k, 1)) (hi : (k : Nat) = i) (j : Nat) (hj : L[j]? = some (i, .null)) (h : xAt l w M (pc + 1) L (.null :: st) σ v τ) : xAt l w M pc L st σ v τ := fun p e R s m args below meth c H locs ls A hP hS hl => lv_aload_nN A.1 A.2.1 hd hi (lv_at hl j hj) (h p e R s m args below meth c H locs ls A hP hS hl)
theorem x_aloadN {i : Nat} (hd : decode M.2.1 pc = .ok (.aload i, 2)) (j : Nat) (hj : L[j]? = some (i, .null)) (h : xAt l w M (pc + 2) L (.null :: st) σ v τ) : xAt l w M pc L st σ v τ := fun p e R s m args below meth c H locs ls A hP hS hl => lv_aloadN A.1 A.2.1 hd (lv_at hl j hj) (h p e R s m args below meth c H locs ls A hP hS hl)
theorem x_istore_n {k : Fin 4} {i : Nat} {x : Int32} (t : Int32) (he : t = x) (hd : decode M.2.1 pc = .ok (.istore_n k, 1)) (hi : (k : Nat) = i) (hn : i < M.2.2.1) (L1 : List (Nat × Value)) (hL : (i, Value.int t) :: L.filter (fun q => !(q.1 == i) && !(q.1 + 1 == i && q.2.category == 2)) = L1) (h : xAt l w M (pc + 1) L1 st σ v τ) : xAt l w M pc L (.int x :: st) σ v τ := fun p e R s m args below meth c H locs ls A hP hS hl => by subst he; exact lv_istore_n A.1 A.2.1 hd hi hl hn hL fun ls1 hl1 => h p e R s m args below meth c H locs ls1 A hP hS hl1
theorem x_istore {i : Nat} {x : Int32} (t : Int32) (he : t = x) (hd : decode M.2.1 pc = .ok (.istore i, 2)) (hn : i < M.2.2.1) (L1 : List (Nat × Value)) (hL : (i, Value.int t) :: L.filter (fun q => !(q.1 == i) && !(q.1 + 1 == i && q.2.category == 2)) = L1) (h : xAt l w M (pc + 2) L1 st σ v τ) : xAt l w M pc L (.int x :: st) σ v τ := fun p e R s m args below meth c H locs ls A hP hS hl => by subst he; exact lv_istore A.1 A.2.1 hd hl hn hL fun ls1 hl1 => h p e R s m args below meth c H locs ls1 A hP hS hl1
theorem x_astore_n {k : Fin 4} {i : Nat} {t : Nat} (hd : decode M.2.1 pc = .ok (.astore_n k, 1)) (hi : (k : Nat) = i) (hn : i < M.2.2.1) (L1 : List (Nat × Value)) (hL : (i, Value.ref t) :: L.filter (fun q => !(q.1 == i) && !(q.1 + 1 == i && q.2.category == 2)) = L1) (h : xAt l w M (pc + 1) L1 st σ v τ) : xAt l w M pc L (.ref t :: st) σ v τ := fun p e R s m args below meth c H locs ls A hP hS hl => lv_astore_n A.1 A.2.1 hd hi hl hn hL fun ls1 hl1 => h p e R s m args below meth c H locs ls1 A hP hS hl1
theorem x_astore {i : Nat} {t : Nat} (hd : decode M.2.1 pc = .ok (.astore i, 2)) (hn : i < M.2.2.1) (L1 : List (Nat × Value)) (hL : (i, Value.ref t) :: L.filter (fun q => !(q.1 == i) && !(q.1 + 1 == i && q.2.category == 2)) = L1) (h : xAt l w M (pc + 2) L1 st σ v τ) : xAt l w M pc L (.ref t :: st) σ v τ := fun p e R s m args below meth c H locs ls A hP hS hl => lv_astore A.1 A.2.1 hd hl hn hL fun ls1 hl1 => h p e R s m args below meth c H locs ls1 A hP hS hl1
theorem x_lstore_n {k : Fin 4} {i : Nat} {x : Int64} (t : Int64) (he : t = x) (hd : decode M.2.1 pc = .ok (.lstore_n k, 1)) (hi : (k : Nat) = i) (hn : i + 1 < M.2.2.1) (L1 : List (Nat × Value)) (hL : (i, Value.long t) :: L.filter (fun q => !(q.1 == i) && (!(q.1 == i + 1) && !(q.1 + 1 == i && q.2.category == 2))) = L1) (h : xAt l w M (pc + 1) L1 st σ v τ) : xAt l w M pc L (.long x :: st) σ v τ := fun p e R s m args below meth c H locs ls A hP hS hl => by subst he; exact lv_lstore_n A.1 A.2.1 hd hi hl hn hL fun ls1 hl1 => h p e R s m args below meth c H locs ls1 A hP hS hl1
theorem x_lstore {i : Nat} {x : Int64} (t : Int64) (he : t = x) (hd : decode M.2.1 pc = .ok (.lstore i, 2)) (hn : i + 1 < M.2.2.1) (L1 : List (Nat × Value)) (hL : (i, Value.long t) :: L.filter (fun q => !(q.1 == i) && (!(q.1 == i + 1) && !(q.1 + 1 == i && q.2.category == 2))) = L1) (h : xAt l w M (pc + 2) L1 st σ v τ) : xAt l w M pc L (.long x :: st) σ v τ := fun p e R s m args below meth c H locs ls A hP hS hl => by subst he; exact lv_lstore A.1 A.2.1 hd hl hn hL fun ls1 hl1 => h p e R s m args below meth c H locs ls1 A hP hS hl1
theorem x_astore_nN {k : Fin 4} {i : Nat} (hd : decode M.2.1 pc = .ok (.astore_n k, 1)) (hi : (k : Nat) = i) (hn : i < M.2.2.1) (L1 : List (Nat × Value)) (hL : (i, Value.null) :: L.filter (fun q => !(q.1 == i) && !(q.1 + 1 == i && q.2.category == 2)) = L1) (h : xAt l w M (pc + 1) L1 st σ v τ) : xAt l w M pc L (.null :: st) σ v τ := fun p e R s m args below meth c H locs ls A hP hS hl => lv_astore_nN A.1 A.2.1 hd hi hl hn hL fun ls1 hl1 => h p e R s m args below meth c H locs ls1 A hP hS hl1
theorem x_astoreN {i : Nat} (hd : decode M.2.1 pc = .ok (.astore i, 2)) (hn : i < M.2.2.1) (L1 : List (Nat × Value)) (hL : (i, Value.null) :: L.filter (fun q => !(q.1 == i) && !(q.1 + 1 == i && q.2.category == 2)) = L1) (h : xAt l w M (pc + 2) L1 st σ v τ) : xAt l w M pc L (.null :: st) σ v τ := fun p e R s m args below meth c H locs ls A hP hS hl => lv_astoreN A.1 A.2.1 hd hl hn hL fun ls1 hl1 => h p e R s m args below meth c H locs ls1 A hP hS hl1
theorem x_iinc {i : Nat} {n : Int} {x : Int32} (t k : Int32) (hk : Int32.ofInt n = k) (he : t = x + k) (hd : decode M.2.1 pc = .ok (.iinc i n, 3)) (j : Nat) (hj : L[j]? = some (i, .int x)) (hn : i < M.2.2.1) (L1 : List (Nat × Value)) (hL : (i, Value.int t) :: L.filter (fun q => !(q.1 == i) && !(q.1 + 1 == i && q.2.category == 2)) = L1) (h : xAt l w M (pc + 3) L1 st σ v τ) : xAt l w M pc L st σ v τ := fun p e R s m args below meth c H locs ls A hP hS hl => lv_iinc A.1 A.2.1 hd hl hj (by rw [hk]; exact he.symm) hn hL fun ls1 hl1 => h p e R s m args below meth c H locs ls1 A hP hS hl1
theorem x_iconst {n : Int} {x : Int32} (hd : decode M.2.1 pc = .ok (.iconst n, 1)) (hx : Int32.ofInt n = x) (h : xAt l w M (pc + 1) L (.int x :: st) σ v τ) : xAt l w M pc L st σ v τ := fun p e R s m args below meth c H locs ls A hP hS hl => lv_iconst A.1 A.2.1 hd hx (h p e R s m args below meth c H locs ls A hP hS hl)
theorem x_bipush {n : Int} {x : Int32} (hd : decode M.2.1 pc = .ok (.bipush n, 2)) (hx : (Int8.ofInt n).toInt32 = x) (h : xAt l w M (pc + 2) L (.int x :: st) σ v τ) : xAt l w M pc L st σ v τ := fun p e R s m args below meth c H locs ls A hP hS hl => lv_bipush A.1 A.2.1 hd hx (h p e R s m args below meth c H locs ls A hP hS hl)
theorem x_sipush {n : Int} {x : Int32} (hd : decode M.2.1 pc = .ok (.sipush n, 3)) (hx : (Int16.ofInt n).toInt32 = x) (h : xAt l w M (pc + 3) L (.int x :: st) σ v τ) : xAt l w M pc L st σ v τ := fun p e R s m args below meth c H locs ls A hP hS hl => lv_sipush A.1 A.2.1 hd hx (h p e R s m args below meth c H locs ls A hP hS hl)
theorem x_ldcw {ix : Nat} {x : Int32} (hd : decode M.2.1 pc = .ok (.ldc_w ix, 3)) (hc : Cond.constant M.1 ix x ∈ xT) (h : xAt l w M (pc + 3) L (.int x :: st) σ v τ) : xAt l w M pc L st σ v τ := fun p e R s m args below meth c H locs ls A hP hS hl => lv_ldcw A.1 A.2.1 A.2.2.2.2.2.1 (A.2.2.2.2.1 _ hc) hd (h p e R s m args below meth c H locs ls A hP hS hl)
theorem x_ldc2 {ix : Nat} {x : Int64} (hd : decode M.2.1 pc = .ok (.ldc2_w ix, 3)) (hc : Cond.constantLong M.1 ix x ∈ xT) (h : xAt l w M (pc + 3) L (.long x :: st) σ v τ) : xAt l w M pc L st σ v τ := fun p e R s m args below meth c H locs ls A hP hS hl => lv_ldc2 A.1 A.2.1 A.2.2.2.2.2.1 (A.2.2.2.2.1 _ hc) hd (h p e R s m args below meth c H locs ls A hP hS hl)
theorem x_null (hd : decode M.2.1 pc = .ok (.aconst_null, 1)) (h : xAt l w M (pc + 1) L (.null :: st) σ v τ) : xAt l w M pc L st σ v τ := fun p e R s m args below meth c H locs ls A hP hS hl => lv_null A.1 A.2.1 hd (h p e R s m args below meth c H locs ls A hP hS hl)
theorem x_iadd {x y : Int32} (hd : decode M.2.1 pc = .ok (.iadd, 1)) (h : xAt l w M (pc + 1) L (.int (x + y) :: st) σ v τ) : xAt l w M pc L (.int y :: .int x :: st) σ v τ := fun p e R s m args below meth c H locs ls A hP hS hl => lv_iadd A.1 A.2.1 hd (h p e R s m args below meth c H locs ls A hP hS hl)
theorem x_isub {x y : Int32} (hd : decode M.2.1 pc = .ok (.isub, 1)) (h : xAt l w M (pc + 1) L (.int (x - y) :: st) σ v τ) : xAt l w M pc L (.int y :: .int x :: st) σ v τ := fun p e R s m args below meth c H locs ls A hP hS hl => lv_isub A.1 A.2.1 hd (h p e R s m args below meth c H locs ls A hP hS hl)
theorem x_imul {x y : Int32} (hd : decode M.2.1 pc = .ok (.imul, 1)) (h : xAt l w M (pc + 1) L (.int (x * y) :: st) σ v τ) : xAt l w M pc L (.int y :: .int x :: st) σ v τ := fun p e R s m args below meth c H locs ls A hP hS hl => lv_imul A.1 A.2.1 hd (h p e R s m args below meth c H locs ls A hP hS hl)
theorem x_iand {x y : Int32} (hd : decode M.2.1 pc = .ok (.iand, 1)) (h : xAt l w M (pc + 1) L (.int (x &&& y) :: st) σ v τ) : xAt l w M pc L (.int y :: .int x :: st) σ v τ := fun p e R s m args below meth c H locs ls A hP hS hl => lv_iand A.1 A.2.1 hd (h p e R s m args below meth c H locs ls A hP hS hl)
theorem x_ishl {x y : Int32} (hd : decode M.2.1 pc = .ok (.ishl, 1)) (h : xAt l w M (pc + 1) L (.int (x <<< (y &&& 31)) :: st) σ v τ) : xAt l w M pc L (.int y :: .int x :: st) σ v τ := fun p e R s m args below meth c H locs ls A hP hS hl => lv_ishl A.1 A.2.1 hd (h p e R s m args below meth c H locs ls A hP hS hl)
theorem x_ishr {x y : Int32} (hd : decode M.2.1 pc = .ok (.ishr, 1)) (h : xAt l w M (pc + 1) L (.int (x >>> (y &&& 31)) :: st) σ v τ) : xAt l w M pc L (.int y :: .int x :: st) σ v τ := fun p e R s m args below meth c H locs ls A hP hS hl => lv_ishr A.1 A.2.1 hd (h p e R s m args below meth c H locs ls A hP hS hl)
theorem x_idiv {x y : Int32} (hd : decode M.2.1 pc = .ok (.idiv, 1)) (hy : ¬ y = 0) (h : xAt l w M (pc + 1) L (.int (x / y) :: st) σ v τ) : xAt l w M pc L (.int y :: .int x :: st) σ v τ := fun p e R s m args below meth c H locs ls A hP hS hl => lv_idiv A.1 A.2.1 hd hy (h p e R s m args below meth c H locs ls A hP hS hl)
theorem x_irem {x y : Int32} (hd : decode M.2.1 pc = .ok (.irem, 1)) (hy : ¬ y = 0) (h : xAt l w M (pc + 1) L (.int (x - x / y * y) :: st) σ v τ) : xAt l w M pc L (.int y :: .int x :: st) σ v τ := fun p e R s m args below meth c H locs ls A hP hS hl => lv_irem A.1 A.2.1 hd hy (h p e R s m args below meth c H locs ls A hP hS hl)
theorem x_ladd {x y : Int64} (hd : decode M.2.1 pc = .ok (.ladd, 1)) (h : xAt l w M (pc + 1) L (.long (x + y) :: st) σ v τ) : xAt l w M pc L (.long y :: .long x :: st) σ v τ := fun p e R s m args below meth c H locs ls A hP hS hl => lv_ladd A.1 A.2.1 hd (h p e R s m args below meth c H locs ls A hP hS hl)
theorem x_lmul {x y : Int64} (hd : decode M.2.1 pc = .ok (.lmul, 1)) (h : xAt l w M (pc + 1) L (.long (x * y) :: st) σ v τ) : xAt l w M pc L (.long y :: .long x :: st) σ v τ := fun p e R s m args below meth c H locs ls A hP hS hl => lv_lmul A.1 A.2.1 hd (h p e R s m args below meth c H locs ls A hP hS hl)
theorem x_ldiv {x y : Int64} (hd : decode M.2.1 pc = .ok (.ldiv, 1)) (hy : ¬ y = 0) (h : xAt l w M (pc + 1) L (.long (x / y) :: st) σ v τ) : xAt l w M pc L (.long y :: .long x :: st) σ v τ := fun p e R s m args below meth c H locs ls A hP hS hl => lv_ldiv A.1 A.2.1 hd hy (h p e R s m args below meth c H locs ls A hP hS hl)
theorem x_lrem {x y : Int64} (hd : decode M.2.1 pc = .ok (.lrem, 1)) (hy : ¬ y = 0) (h : xAt l w M (pc + 1) L (.long (x - x / y * y) :: st) σ v τ) : xAt l w M pc L (.long y :: .long x :: st) σ v τ := fun p e R s m args below meth c H locs ls A hP hS hl => lv_lrem A.1 A.2.1 hd hy (h p e R s m args below meth c H locs ls A hP hS hl)
theorem x_ineg {x : Int32} (hd : decode M.2.1 pc = .ok (.ineg, 1)) (h : xAt l w M (pc + 1) L (.int (-x) :: st) σ v τ) : xAt l w M pc L (.int x :: st) σ v τ := fun p e R s m args below meth c H locs ls A hP hS hl => lv_ineg A.1 A.2.1 hd (h p e R s m args below meth c H locs ls A hP hS hl)
theorem x_i2l {x : Int32} (hd : decode M.2.1 pc = .ok (.i2l, 1)) (h : xAt l w M (pc + 1) L (.long x.toInt64 :: st) σ v τ) : xAt l w M pc L (.int x :: st) σ v τ := fun p e R s m args below meth c H locs ls A hP hS hl => lv_i2l A.1 A.2.1 hd rfl (h p e R s m args below meth c H locs ls A hP hS hl)
theorem x_l2i {x : Int64} (hd : decode M.2.1 pc = .ok (.l2i, 1)) (h : xAt l w M (pc + 1) L (.int x.toInt32 :: st) σ v τ) : xAt l w M pc L (.long x :: st) σ v τ := fun p e R s m args below meth c H locs ls A hP hS hl => lv_l2i A.1 A.2.1 hd rfl (h p e R s m args below meth c H locs ls A hP hS hl)
theorem x_dup {a : Value} (hd : decode M.2.1 pc = .ok (.dup, 1)) (ha : a.category = 1) (h : xAt l w M (pc + 1) L (a :: a :: st) σ v τ) : xAt l w M pc L (a :: st) σ v τ := fun p e R s m args below meth c H locs ls A hP hS hl => lv_dup A.1 A.2.1 hd ha (h p e R s m args below meth c H locs ls A hP hS hl)
theorem x_dup2 {a b : Value} (hd : decode M.2.1 pc = .ok (.dup2, 1)) (ha : a.category = 1) (hb : b.category = 1) (h : xAt l w M (pc + 1) L (a :: b :: a :: b :: st) σ v τ) : xAt l w M pc L (a :: b :: st) σ v τ := fun p e R s m args below meth c H locs ls A hP hS hl => lv_dup2_11 A.1 A.2.1 hd ha hb (h p e R s m args below meth c H locs ls A hP hS hl)
theorem x_pop {a : Value} (hd : decode M.2.1 pc = .ok (.pop, 1)) (ha : a.category = 1) (h : xAt l w M (pc + 1) L st σ v τ) : xAt l w M pc L (a :: st) σ v τ := fun p e R s m args below meth c H locs ls A hP hS hl => lv_pop A.1 A.2.1 hd ha (h p e R s m args below meth c H locs ls A hP hS hl)
theorem x_goto {off : Int} {tgt : Nat} (hd : decode M.2.1 pc = .ok (.goto off, 3)) (ht : (pc : Int) + off = (tgt : Int)) (h : xAt l w M tgt L st σ v τ) : xAt l w M pc L st σ v τ := fun p e R s m args below meth c H locs ls A hP hS hl => lv_goto A.1 A.2.1 hd ht (h p e R s m args below meth c H locs ls A hP hS hl)
theorem x_ifnullR {x : Nat} {off : Int} (hd : decode M.2.1 pc = .ok (.ifnull off, 3)) (h : xAt l w M (pc + 3) L st σ v τ) : xAt l w M pc L (.ref x :: st) σ v τ := fun p e R s m args below meth c H locs ls A hP hS hl => lv_ifnull A.1 A.2.1 hd (h p e R s m args below meth c H locs ls A hP hS hl)
theorem x_ifnonnullR {x : Nat} {off : Int} {tgt : Nat} (hd : decode M.2.1 pc = .ok (.ifnonnull off, 3)) (ht : (pc : Int) + off = (tgt : Int)) (h : xAt l w M tgt L st σ v τ) : xAt l w M pc L (.ref x :: st) σ v τ := fun p e R s m args below meth c H locs ls A hP hS hl => lv_ifnonnull A.1 A.2.1 hd ht (h p e R s m args below meth c H locs ls A hP hS hl)
theorem x_ifnullN {off : Int} {tgt : Nat} (hd : decode M.2.1 pc = .ok (.ifnull off, 3)) (ht : (pc : Int) + off = (tgt : Int)) (h : xAt l w M tgt L st σ v τ) : xAt l w M pc L (.null :: st) σ v τ := fun p e R s m args below meth c H locs ls A hP hS hl => lv_ifnullN A.1 A.2.1 hd ht (h p e R s m args below meth c H locs ls A hP hS hl)
theorem x_ifnonnullN {off : Int} (hd : decode M.2.1 pc = .ok (.ifnonnull off, 3)) (h : xAt l w M (pc + 3) L st σ v τ) : xAt l w M pc L (.null :: st) σ v τ := fun p e R s m args below meth c H locs ls A hP hS hl => lv_ifnonnullN A.1 A.2.1 hd (h p e R s m args below meth c H locs ls A hP hS hl)
theorem x_if_eq {x : Int32} {off : Int} {tgt : Nat} (hd : decode M.2.1 pc = .ok (.ifCond .eq off, 3)) (ht : (pc : Int) + off = (tgt : Int)) (kt : x = 0 → xAt l w M tgt L st σ v τ) (kf : ¬ x = 0 → xAt l w M (pc + 3) L st σ v τ) : xAt l w M pc L (.int x :: st) σ v τ := fun p e R s m args below meth c H locs ls A hP hS hl => lv_if_eq A.1 A.2.1 hd ht (fun q => kt q p e R s m args below meth c H locs ls A hP hS hl) (fun q => kf q p e R s m args below meth c H locs ls A hP hS hl)
theorem x_if_ne {x : Int32} {off : Int} {tgt : Nat} (hd : decode M.2.1 pc = .ok (.ifCond .ne off, 3)) (ht : (pc : Int) + off = (tgt : Int)) (kt : ¬ x = 0 → xAt l w M tgt L st σ v τ) (kf : x = 0 → xAt l w M (pc + 3) L st σ v τ) : xAt l w M pc L (.int x :: st) σ v τ := fun p e R s m args below meth c H locs ls A hP hS hl => lv_if_ne A.1 A.2.1 hd ht (fun q => kt q p e R s m args below meth c H locs ls A hP hS hl) (fun q => kf q p e R s m args below meth c H locs ls A hP hS hl)
theorem x_if_lt {x : Int32} {off : Int} {tgt : Nat} (hd : decode M.2.1 pc = .ok (.ifCond .lt off, 3)) (ht : (pc : Int) + off = (tgt : Int)) (kt : x < 0 → xAt l w M tgt L st σ v τ) (kf : ¬ x < 0 → xAt l w M (pc + 3) L st σ v τ) : xAt l w M pc L (.int x :: st) σ v τ := fun p e R s m args below meth c H locs ls A hP hS hl => lv_if_lt A.1 A.2.1 hd ht (fun q => kt q p e R s m args below meth c H locs ls A hP hS hl) (fun q => kf q p e R s m args below meth c H locs ls A hP hS hl)
theorem x_if_ge {x : Int32} {off : Int} {tgt : Nat} (hd : decode M.2.1 pc = .ok (.ifCond .ge off, 3)) (ht : (pc : Int) + off = (tgt : Int)) (kt : 0 ≤ x → xAt l w M tgt L st σ v τ) (kf : ¬ 0 ≤ x → xAt l w M (pc + 3) L st σ v τ) : xAt l w M pc L (.int x :: st) σ v τ := fun p e R s m args below meth c H locs ls A hP hS hl => lv_if_ge A.1 A.2.1 hd ht (fun q => kt q p e R s m args below meth c H locs ls A hP hS hl) (fun q => kf q p e R s m args below meth c H locs ls A hP hS hl)
theorem x_if_gt {x : Int32} {off : Int} {tgt : Nat} (hd : decode M.2.1 pc = .ok (.ifCond .gt off, 3)) (ht : (pc : Int) + off = (tgt : Int)) (kt : 0 < x → xAt l w M tgt L st σ v τ) (kf : ¬ 0 < x → xAt l w M (pc + 3) L st σ v τ) : xAt l w M pc L (.int x :: st) σ v τ := fun p e R s m args below meth c H locs ls A hP hS hl => lv_if_gt A.1 A.2.1 hd ht (fun q => kt q p e R s m args below meth c H locs ls A hP hS hl) (fun q => kf q p e R s m args below meth c H locs ls A hP hS hl)
theorem x_if_le {x : Int32} {off : Int} {tgt : Nat} (hd : decode M.2.1 pc = .ok (.ifCond .le off, 3)) (ht : (pc : Int) + off = (tgt : Int)) (kt : x ≤ 0 → xAt l w M tgt L st σ v τ) (kf : ¬ x ≤ 0 → xAt l w M (pc + 3) L st σ v τ) : xAt l w M pc L (.int x :: st) σ v τ := fun p e R s m args below meth c H locs ls A hP hS hl => lv_if_le A.1 A.2.1 hd ht (fun q => kt q p e R s m args below meth c H locs ls A hP hS hl) (fun q => kf q p e R s m args below meth c H locs ls A hP hS hl)
theorem x_icmp_eq {x y : Int32} {off : Int} {tgt : Nat} (hd : decode M.2.1 pc = .ok (.if_icmp .eq off, 3)) (ht : (pc : Int) + off = (tgt : Int)) (kt : x = y → xAt l w M tgt L st σ v τ) (kf : ¬ x = y → xAt l w M (pc + 3) L st σ v τ) : xAt l w M pc L (.int y :: .int x :: st) σ v τ := fun p e R s m args below meth c H locs ls A hP hS hl => lv_icmp_eq A.1 A.2.1 hd ht (fun q => kt q p e R s m args below meth c H locs ls A hP hS hl) (fun q => kf q p e R s m args below meth c H locs ls A hP hS hl)
theorem x_icmp_ne {x y : Int32} {off : Int} {tgt : Nat} (hd : decode M.2.1 pc = .ok (.if_icmp .ne off, 3)) (ht : (pc : Int) + off = (tgt : Int)) (kt : ¬ x = y → xAt l w M tgt L st σ v τ) (kf : x = y → xAt l w M (pc + 3) L st σ v τ) : xAt l w M pc L (.int y :: .int x :: st) σ v τ := fun p e R s m args below meth c H locs ls A hP hS hl => lv_icmp_ne A.1 A.2.1 hd ht (fun q => kt q p e R s m args below meth c H locs ls A hP hS hl) (fun q => kf q p e R s m args below meth c H locs ls A hP hS hl)
theorem x_icmp_lt {x y : Int32} {off : Int} {tgt : Nat} (hd : decode M.2.1 pc = .ok (.if_icmp .lt off, 3)) (ht : (pc : Int) + off = (tgt : Int)) (kt : x < y → xAt l w M tgt L st σ v τ) (kf : ¬ x < y → xAt l w M (pc + 3) L st σ v τ) : xAt l w M pc L (.int y :: .int x :: st) σ v τ := fun p e R s m args below meth c H locs ls A hP hS hl => lv_icmp_lt A.1 A.2.1 hd ht (fun q => kt q p e R s m args below meth c H locs ls A hP hS hl) (fun q => kf q p e R s m args below meth c H locs ls A hP hS hl)
theorem x_icmp_ge {x y : Int32} {off : Int} {tgt : Nat} (hd : decode M.2.1 pc = .ok (.if_icmp .ge off, 3)) (ht : (pc : Int) + off = (tgt : Int)) (kt : y ≤ x → xAt l w M tgt L st σ v τ) (kf : ¬ y ≤ x → xAt l w M (pc + 3) L st σ v τ) : xAt l w M pc L (.int y :: .int x :: st) σ v τ := fun p e R s m args below meth c H locs ls A hP hS hl => lv_icmp_ge A.1 A.2.1 hd ht (fun q => kt q p e R s m args below meth c H locs ls A hP hS hl) (fun q => kf q p e R s m args below meth c H locs ls A hP hS hl)
theorem x_icmp_gt {x y : Int32} {off : Int} {tgt : Nat} (hd : decode M.2.1 pc = .ok (.if_icmp .gt off, 3)) (ht : (pc : Int) + off = (tgt : Int)) (kt : y < x → xAt l w M tgt L st σ v τ) (kf : ¬ y < x → xAt l w M (pc + 3) L st σ v τ) : xAt l w M pc L (.int y :: .int x :: st) σ v τ := fun p e R s m args below meth c H locs ls A hP hS hl => lv_icmp_gt A.1 A.2.1 hd ht (fun q => kt q p e R s m args below meth c H locs ls A hP hS hl) (fun q => kf q p e R s m args below meth c H locs ls A hP hS hl)
theorem x_icmp_le {x y : Int32} {off : Int} {tgt : Nat} (hd : decode M.2.1 pc = .ok (.if_icmp .le off, 3)) (ht : (pc : Int) + off = (tgt : Int)) (kt : x ≤ y → xAt l w M tgt L st σ v τ) (kf : ¬ x ≤ y → xAt l w M (pc + 3) L st σ v τ) : xAt l w M pc L (.int y :: .int x :: st) σ v τ := fun p e R s m args below meth c H locs ls A hP hS hl => lv_icmp_le A.1 A.2.1 hd ht (fun q => kt q p e R s m args below meth c H locs ls A hP hS hl) (fun q => kf q p e R s m args below meth c H locs ls A hP hS hl)
theorem x_sub {L1 : List (Nat × Value)} (ks : List Nat) (hk : lv_pick L ks = L1) (h : xAt l w M pc L1 st σ v τ) : xAt l w M pc L st σ v τ := fun p e R s m args below meth c H locs ls A hP hS hl => h p e R s m args below meth c H locs ls A hP hS (lv_sub hl ks hk)
theorem x_lookup {dflt : Int} {ps : Array (Int × Int)} {len : Nat} {x : Int32} {off : Int} {tgt : Nat} (hd : decode M.2.1 pc = .ok (.lookupswitch dflt ps, len)) (hp : (ps.toList.zip (ps.toList.drop 1)).all (fun (a, next) => a.1 < next.1) = true) (ho : Op.lookupswitch.offset ps.toList dflt x.toInt = off) (ht : (pc : Int) + off = (tgt : Int)) (h : xAt l w M tgt L st σ v τ) : xAt l w M pc L (.int x :: st) σ v τ := fun p e R s m args below meth c H locs ls A hP hS hl => lv_lookup A.1 A.2.1 hd hp ho ht (h p e R s m args below meth c H locs ls A hP hS hl)
theorem x_tableIn {dflt lo hi : Int} {offs : Array Int} {len : Nat} {x : Int32} {off : Int} {tgt : Nat} (hd : decode M.2.1 pc = .ok (.tableswitch dflt lo hi offs, len)) (h1 : ¬ x.toInt < lo) (h2 : ¬ hi < x.toInt) (ho : offs[(x.toInt - lo).toNat]? = some off) (ht : (pc : Int) + off = (tgt : Int)) (h : xAt l w M tgt L st σ v τ) : xAt l w M pc L (.int x :: st) σ v τ := fun p e R s m args below meth c H locs ls A hP hS hl => lv_tableIn A.1 A.2.1 hd h1 h2 ho ht (h p e R s m args below meth c H locs ls A hP hS hl)
theorem x_tableOut {dflt lo hi : Int} {offs : Array Int} {len : Nat} {x : Int32} {tgt : Nat} (hd : decode M.2.1 pc = .ok (.tableswitch dflt lo hi offs, len)) (h1 : x.toInt < lo ∨ hi < x.toInt) (ht : (pc : Int) + dflt = (tgt : Int)) (h : xAt l w M tgt L st σ v τ) : xAt l w M pc L (.int x :: st) σ v τ := fun p e R s m args below meth c H locs ls A hP hS hl => lv_tableOut A.1 A.2.1 hd h1 ht (h p e R s m args below meth c H locs ls A hP hS hl)
/-- a field by its link: kind K's field k -/
def xFl (own : String) (ix K k : Nat) : Prop := ∃ (o : Nat × Nat) (C : String) (T : u_T) (N : Nat), x_obj K = some o ∧ k < o.2 ∧ vwCl[o.1]? = some (C, T, N) ∧ k < N ∧ (∀ x ∈ u_ws C T N, x ∈ xT) ∧ Cond.fieldLink own ix (T k).1 (T k).2.1 (T k).2.2.1 ∈ xT
theorem x_get_ {ix d K p r k : Nat} {a : Value} (hf : xFl M.1 ix K k) (hok : x_ok w.1.2 d K p r = true) (ha : x_fv w σ d K p r k = a) (hd : decode M.2.1 pc = .ok (.getfield ix, 3)) (h : xAt l w M (pc + 3) L (a :: st) σ v τ) : xAt l w M pc L (.ref (w.2.2 d K p r) :: st) σ v τ := by
  intro p' e R s m args below meth c H locs ls A hP hS hl
  obtain ⟨q0, hq, he⟩ := x_pos w σ hok
  obtain ⟨o, C, T, N, ho, hk, hc, hkN, hin, hlk⟩ := hf
  have he' : (xC w σ)[q0]? = some (w.2.2 d K p r, .inr (o.1, (List.range o.2).map fun k => x_fv w σ d K p r k)) := by rw [he, x_cell, ho]
  refine va_get (D := w.1.1) (C := C) (T := T) (N := N) A.1 A.2.1 A.2.2.2.2.1 hin A.2.2.2.2.2.1 A.2.2.2.2.2.2.1 hP q0 he' hc k hkN (A.2.2.2.2.1 _ hlk) (fun _ q => q) (v := a) ?_ hd (h p' e R s m args below meth c H locs ls A hP hS hl)
  rw [List.getElem?_map, List.getElem?_range hk, ← ha]
  rfl
theorem x_getI {ix d K p r k : Nat} (hf : xFl M.1 ix K k) (hok : x_ok w.1.2 d K p r = true) (hr : x_ref d K p r k = none) (hd : decode M.2.1 pc = .ok (.getfield ix, 3)) (h : xAt l w M (pc + 3) L (.int (σ d K p r k) :: st) σ v τ) : xAt l w M pc L (.ref (w.2.2 d K p r) :: st) σ v τ :=
  x_get_ hf hok (by rw [x_fv, hr]) hd h
theorem x_getR {ix d K p r k d1 K1 p1 r1 : Nat} (hf : xFl M.1 ix K k) (hok : x_ok w.1.2 d K p r = true) (hr : x_ref d K p r k = some (d1, K1, p1, r1)) (hd : decode M.2.1 pc = .ok (.getfield ix, 3)) (h : xAt l w M (pc + 3) L (.ref (w.2.2 d1 K1 p1 r1) :: st) σ v τ) : xAt l w M pc L (.ref (w.2.2 d K p r) :: st) σ v τ :=
  x_get_ hf hok (by rw [x_fv, hr]; rfl) hd h
/-- a field that may be written: its type -/
def xFp (own : String) (ix K k : Nat) (ty : FieldType) : Prop := ∃ (o : Nat × Nat) (C : String) (T : u_T) (N : Nat) (ty0 : Nat → FieldType), x_obj K = some o ∧ k < o.2 ∧ vwCl[o.1]? = some (C, T, N) ∧ k < N ∧ (∀ x ∈ u_ws C T N, x ∈ xT) ∧ Cond.fieldLink own ix (T k).1 (T k).2.1 (T k).2.2.1 ∈ xT ∧ (∀ k, k < N → parseFieldDescriptor (T k).2.2.1 = some (ty0 k)) ∧ (∀ a, a < N → ∀ b, b < N → a ≠ b → (T a).2.1 ≠ (T b).2.1) ∧ (T k).2.2.2 = false ∧ parseFieldDescriptor (T k).2.2.1 = some ty
theorem x_fs_set (w : xW) (σ : xS) (d K p r k n : Nat) (x : Int32) (hr : x_ref d K p r k = none) (_hk : k < n) : ((List.range n).map fun k => x_fv w σ d K p r k).set k (.int x) = (List.range n).map fun j => x_fv w (x_set σ d K p r k x) d K p r j := by
  apply List.ext_getElem?
  intro j
  by_cases hj : j = k
  · subst hj
    rw [List.getElem?_set_self (by simpa using _hk), List.getElem?_map, List.getElem?_range _hk]
    simp only [Option.map_some, x_fv, hr, x_set, x_row_same, up_s]
  · rw [List.getElem?_set_ne (Ne.symm hj), List.getElem?_map, List.getElem?_map]
    by_cases hn : j < n
    · rw [List.getElem?_range hn]
      simp only [Option.map_some, x_fv, x_set, x_row_same, up_n _ _ hj]
    · rw [List.getElem?_eq_none (by simpa using Nat.le_of_not_lt hn)]
      rfl
theorem x_put_ {ix d K p r k : Nat} {x : Int32} {ty : FieldType} (σ1 : xS) (he : σ1 = x_set σ d K p r k x) (hf : xFp M.1 ix K k ty) (hok : x_ok w.1.2 d K p r = true) (hr : x_ref d K p r k = none) (hn : narrow ty (.int x) = .int x) (hfit : fits ty (.int x) = true) (hd : decode M.2.1 pc = .ok (.putfield ix, 3)) (h : xAt l w M (pc + 3) L st σ1 v τ) : xAt l w M pc L (.int x :: .ref (w.2.2 d K p r) :: st) σ v τ := by
  intro p' e R s m args below meth c H locs ls A hP hS hl
  obtain ⟨q0, hq, hc0⟩ := x_pos w σ hok
  obtain ⟨o, C, T, N, ty0, ho, hk, hc, hkN, hin, hlk, hty, hnm, hfin, hpt⟩ := hf
  have he' : (xC w σ)[q0]? = some (w.2.2 d K p r, .inr (o.1, (List.range o.2).map fun k => x_fv w σ d K p r k)) := by rw [hc0, x_cell, ho]
  refine va_put (D := w.1.1) (C := C) (T := T) (N := N) A.1 A.2.1 A.2.2.2.2.1 hin ty0 hty hnm A.2.2.2.2.2.1 A.2.2.2.2.2.2.1 hP (x_D A.2.2.2.2.2.2.2.2.1 σ s.heap.size) hS q0 he' hc k hkN (A.2.2.2.2.1 _ hlk) (fun _ q => q) hfin hpt hn hfit (by simpa using hk) hd (fun H1 locs1 hP1 _ hS1 => ?_)
  refine h p' e R s m args below meth c H1 locs1 ls A ?_ hS1 hl
  have ec : x_cell w σ1 d K p r = .inr (o.1, (List.range o.2).map fun j => x_fv w (x_set σ d K p r k x) d K p r j) := by rw [he, x_cell, ho]
  rw [x_fs_set w σ d K p r k o.2 x hr hk, ← ec, he] at hP1
  rw [x_set, xC_set w σ _ hq] at hP1
  rw [he, x_set]
  exact hP1
theorem x_putI {ix d K p r k : Nat} {x : Int32} (σ1 : xS) (he : σ1 = x_set σ d K p r k x) (hf : xFp M.1 ix K k .int) (hok : x_ok w.1.2 d K p r = true) (hr : x_ref d K p r k = none) (hd : decode M.2.1 pc = .ok (.putfield ix, 3)) (h : xAt l w M (pc + 3) L st σ1 v τ) : xAt l w M pc L (.int x :: .ref (w.2.2 d K p r) :: st) σ v τ :=
  x_put_ σ1 he hf hok hr rfl rfl hd h
theorem x_z_n {x : Int32} (h : x_z x = true) : narrow .boolean (.int x) = .int x := by rcases x_z_or h with rfl | rfl <;> rfl
theorem x_z_f {x : Int32} (h : x_z x = true) : fits .boolean (.int x) = true := by rcases x_z_or h with rfl | rfl <;> rfl
theorem x_putZ {ix d K p r k : Nat} {x : Int32} (σ1 : xS) (he : σ1 = x_set σ d K p r k x) (hz : x_z x = true) (hf : xFp M.1 ix K k .boolean) (hok : x_ok w.1.2 d K p r = true) (hr : x_ref d K p r k = none) (hd : decode M.2.1 pc = .ok (.putfield ix, 3)) (h : xAt l w M (pc + 3) L st σ1 v τ) : xAt l w M pc L (.int x :: .ref (w.2.2 d K p r) :: st) σ v τ :=
  x_put_ σ1 he hf hok hr (x_z_n hz) (x_z_f hz) hd h
theorem x_in_p {i : Int32} {n : Nat} (h : x_in i n = true) : vp_in i n := by
  unfold x_in at h
  have h2 : ¬ (i < 0 ∨ n ≤ i.toNatClampNeg) := of_decide_eq_true h
  exact h2
theorem x_in_lt {i : Int32} {n : Nat} (h : x_in i n = true) : i.toNatClampNeg < n := Nat.not_le.mp fun q => x_in_p h (Or.inr q)
theorem x_arr {d K p r : Nat} (σ : xS) (hK : x_obj K = none) (ht : x_ty K < 2) (hok : x_ok w.1.2 d K p r = true) : ∃ q0 : Nat, (x_ids w.1.2)[q0]? = some (d, K, p, r) ∧ (xC w σ)[q0]? = some (w.2.2 d K p r, .inl (w.2.1 (x_ty K), (x_len K, .inl (σ d K p r)))) := by
  obtain ⟨q0, hq, he⟩ := x_pos w σ hok
  refine ⟨q0, hq, ?_⟩
  rw [he, x_cell, hK]
  simp only [if_pos ht]
theorem x_iald {d K p r : Nat} {i : Int32} (n j : Nat) (hj : i.toNatClampNeg = j) (hK : x_obj K = none) (ht : x_ty K = 0) (hn : x_len K = n) (hok : x_ok w.1.2 d K p r = true) (hi : x_in i n = true) (hd : decode M.2.1 pc = .ok (.iaload, 1)) (h : xAt l w M (pc + 1) L (.int (σ d K p r j) :: st) σ v τ) : xAt l w M pc L (.int i :: .ref (w.2.2 d K p r) :: st) σ v τ := by
  subst hj
  intro p' e R s m args below meth c H locs ls A hP hS hl
  obtain ⟨q0, hq, he⟩ := x_arr (w := w) σ hK (by rw [ht]; decide) hok
  rw [ht, hn] at he
  exact va_iald A.1 A.2.1 A.2.2.2.2.2.2.1 hP q0 0 he rfl (x_in_p hi) hd (h p' e R s m args below meth c H locs ls A hP hS hl)
theorem x_zald {d K p r : Nat} {i : Int32} (n j : Nat) (hj : i.toNatClampNeg = j) (hK : x_obj K = none) (ht : x_ty K = 1) (hn : x_len K = n) (hok : x_ok w.1.2 d K p r = true) (hi : x_in i n = true) (hd : decode M.2.1 pc = .ok (.baload, 1)) (h : xAt l w M (pc + 1) L (.int (σ d K p r j) :: st) σ v τ) : xAt l w M pc L (.int i :: .ref (w.2.2 d K p r) :: st) σ v τ := by
  subst hj
  intro p' e R s m args below meth c H locs ls A hP hS hl
  obtain ⟨q0, hq, he⟩ := x_arr (w := w) σ hK (by rw [ht]; decide) hok
  rw [ht, hn] at he
  exact va_zald A.1 A.2.1 A.2.2.2.2.2.2.1 hP q0 1 he rfl (x_in_p hi) hd (h p' e R s m args below meth c H locs ls A hP hS hl)
theorem x_alen {d K p r : Nat} (x : Int32) (hK : x_obj K = none) (ht : x_ty K < 5) (hn : Int32.ofNat (x_len K) = x) (hok : x_ok w.1.2 d K p r = true) (hd : decode M.2.1 pc = .ok (.arraylength, 1)) (h : xAt l w M (pc + 1) L (.int x :: st) σ v τ) : xAt l w M pc L (.ref (w.2.2 d K p r) :: st) σ v τ := by
  intro p' e R s m args below meth c H locs ls A hP hS hl
  obtain ⟨q0, hq, he⟩ := x_pos w σ hok
  rw [x_cell, hK] at he
  have ht0 : ∃ ty, (xTys w)[x_ty K]? = some (w.2.1 (x_ty K), ty) := by
    have : x_ty K = 0 ∨ x_ty K = 1 ∨ x_ty K = 2 ∨ x_ty K = 3 ∨ x_ty K = 4 := by omega
    rcases this with h | h | h | h | h <;> rw [h] <;> exact ⟨_, rfl⟩
  obtain ⟨ty, ht1⟩ := ht0
  exact va_alen A.1 A.2.1 A.2.2.2.2.2.2.1 hP q0 (x_ty K) he ht1 hn hd (h p' e R s m args below meth c H locs ls A hP hS hl)
theorem x_aald {d K p r d1 K1 p1 r1 : Nat} {i : Int32} (n j : Nat) (hj : i.toNatClampNeg = j) (t : Nat) (C : String) (hK : x_obj K = none) (ht : x_ty K = t) (ht2 : 2 ≤ t) (htC : (xTys w)[t]? = some (w.2.1 t, .object C)) (hn : x_len K = n) (hok : x_ok w.1.2 d K p r = true) (hr : x_ref d K p r j = some (d1, K1, p1, r1)) (hi : x_in i n = true) (hd : decode M.2.1 pc = .ok (.aaload, 1)) (h : xAt l w M (pc + 1) L (.ref (w.2.2 d1 K1 p1 r1) :: st) σ v τ) : xAt l w M pc L (.int i :: .ref (w.2.2 d K p r) :: st) σ v τ := by
  subst hj
  intro p' e R s m args below meth c H locs ls A hP hS hl
  obtain ⟨q0, hq, he⟩ := x_pos w σ hok
  rw [x_cell, hK] at he
  simp only [ht] at he
  rw [if_neg (by omega), hn] at he
  refine va_aldq A.1 A.2.1 A.2.2.2.2.2.2.1 hP q0 t he htC (x_in_p hi) hd ?_
  rw [hr]
  exact h p' e R s m args below meth c H locs ls A hP hS hl
theorem x_rowset {d K p r : Nat} {q0 : Nat} (σ : xS) (f : Nat → Int32) (hK : x_obj K = none) (ht : x_ty K < 2) (hq : (x_ids w.1.2)[q0]? = some (d, K, p, r)) : (xC w σ).set q0 (w.2.2 d K p r, .inl (w.2.1 (x_ty K), (x_len K, .inl f))) = xC w (x_row σ d K p r f) := by
  rw [← xC_set w σ f hq]
  congr 2
  rw [x_cell, hK]
  simp only [if_pos ht, x_row_same]
theorem x_iast {d K p r : Nat} {i x : Int32} (n j : Nat) (hj : i.toNatClampNeg = j) (σ1 : xS) (he1 : σ1 = x_set σ d K p r j x) (hK : x_obj K = none) (ht : x_ty K = 0) (hn : x_len K = n) (hok : x_ok w.1.2 d K p r = true) (hi : x_in i n = true) (hd : decode M.2.1 pc = .ok (.iastore, 1)) (h : xAt l w M (pc + 1) L st σ1 v τ) : xAt l w M pc L (.int x :: .int i :: .ref (w.2.2 d K p r) :: st) σ v τ := by
  subst hj
  intro p' e R s m args below meth c H locs ls A hP hS hl
  obtain ⟨q0, hq, he⟩ := x_arr (w := w) σ hK (by rw [ht]; decide) hok
  have hs := x_rowset (w := w) σ (upd (σ d K p r) i.toNatClampNeg x) hK (by rw [ht]; decide) hq
  rw [ht, hn] at he hs
  refine va_iast A.1 A.2.1 A.2.2.2.2.2.2.1 hP (x_D A.2.2.2.2.2.2.2.2.1 σ s.heap.size) hS q0 0 he rfl (x_in_p hi) hd (fun H1 locs1 hP1 _ hS1 => ?_)
  rw [hs] at hP1
  refine h p' e R s m args below meth c H1 locs1 ls A ?_ hS1 hl
  rw [he1]
  exact hP1
theorem x_zast {d K p r : Nat} {i x : Int32} (n j : Nat) (hj : i.toNatClampNeg = j) (σ1 : xS) (he1 : σ1 = x_set σ d K p r j x) (hz : x_z x = true) (hK : x_obj K = none) (ht : x_ty K = 1) (hn : x_len K = n) (hok : x_ok w.1.2 d K p r = true) (hi : x_in i n = true) (hd : decode M.2.1 pc = .ok (.bastore, 1)) (h : xAt l w M (pc + 1) L st σ1 v τ) : xAt l w M pc L (.int x :: .int i :: .ref (w.2.2 d K p r) :: st) σ v τ := by
  subst hj
  intro p' e R s m args below meth c H locs ls A hP hS hl
  obtain ⟨q0, hq, he⟩ := x_arr (w := w) σ hK (by rw [ht]; decide) hok
  have hs := x_rowset (w := w) σ (upd (σ d K p r) i.toNatClampNeg (vp_nar .boolean x)) hK (by rw [ht]; decide) hq
  rw [ht, hn] at he hs
  refine va_zast A.1 A.2.1 A.2.2.2.2.2.2.1 hP (x_D A.2.2.2.2.2.2.2.2.1 σ s.heap.size) hS q0 1 he rfl (x_in_p hi) hd (fun H1 locs1 hP1 _ hS1 => ?_)
  rw [hs] at hP1
  refine h p' e R s m args below meth c H1 locs1 ls A ?_ hS1 hl
  have hz1 : vp_nar .boolean x = x := by rcases x_z_or hz with rfl | rfl <;> rfl
  rw [hz1] at hP1
  rw [he1]
  exact hP1
/-- System.arraycopy over int arrays of kinds K and K1, whole from 0 -/
theorem x_copy {d K p r d1 K1 p1 r1 ix : Nat} {n : Int32} (n0 n1 j : Nat) (hj : n.toNatClampNeg = j) (σ1 : xS) (he1 : σ1 = x_row σ d1 K1 p1 r1 (va_cpy (σ d K p r) (σ d1 K1 p1 r1) 0 0 j)) (hlk : Cond.methodLink M.1 ix arraycopyName ∈ xT) (hw : Cond.native arraycopyName ∈ xT ∧ Cond.static arraycopyName ∈ xT ∧ Cond.initialized "java/lang/System" ∈ xT) (hlv : 1 ≤ M.2.2.2.2) (hst : st = []) (hK : x_obj K = none) (ht : x_ty K = 0) (hn0 : x_len K = n0) (hok : x_ok w.1.2 d K p r = true) (hK1 : x_obj K1 = none) (ht1 : x_ty K1 = 0) (hn1 : x_len K1 = n1) (hok1 : x_ok w.1.2 d1 K1 p1 r1 = true) (h3 : ¬ n < 0) (h4 : n.toNatClampNeg ≤ n0) (h5 : n.toNatClampNeg ≤ n1) (hd : decode M.2.1 pc = .ok (.invokestatic ix, 3)) (h : xAt l w M (pc + 3) L st σ1 v τ) : xAt l w M pc L (.int n :: .int 0 :: .ref (w.2.2 d1 K1 p1 r1) :: .int 0 :: .ref (w.2.2 d K p r) :: st) σ v τ := by
  subst hst
  subst hj
  intro p' e R s m args below meth c H locs ls A hP hS hl
  obtain ⟨q0, hq, he⟩ := x_arr (w := w) σ hK (by rw [ht]; decide) hok
  obtain ⟨q1, hq1, he1'⟩ := x_arr (w := w) σ hK1 (by rw [ht1]; decide) hok1
  have hs := x_rowset (w := w) σ (va_cpy (σ d K p r) (σ d1 K1 p1 r1) 0 0 n.toNatClampNeg) hK1 (by rw [ht1]; decide) hq1
  rw [ht, hn0] at he
  rw [ht1, hn1] at he1' hs
  have hz : (0 : Int32).toNatClampNeg = 0 := rfl
  have hts := A.2.2.2.2.1
  have hR := A.2.2.2.2.2.2.2.2.2
  refine va_copyi (sp := 0) (dp := 0) A.1 A.2.1 (A.2.2.2.1.trans hl.1.symm) A.2.2.2.2.2.1 (hts _ hlk) (hts _ hw.1) (hts _ hw.2.1) (hts _ hw.2.2) A.2.2.2.2.2.2.1 hP (x_D A.2.2.2.2.2.2.2.2.1 σ s.heap.size) hS q0 q1 0 0 he he1' rfl rfl rfl (by decide) (by decide) h3 (by rw [hz]; omega) (by rw [hz]; omega) (fun _ _ => rfl) (Nat.le_trans hlv hR.1) ?_ hd (fun H1 locs1 hP1 _ hS1 => ?_)
  · have e1 : nativeFrameWords "java/lang/System" "arraycopy" 5 + 11 ≤ 40 := by decide
    have := hR.2
    simp only [List.map_nil, List.sum_nil]
    omega
  · rw [hz, hs] at hP1
    refine h p' e R s m args below meth c H1 locs1 ls A ?_ hS1 hl
    rw [he1]
    exact hP1
theorem x_max {ix : Nat} {x y : Int32} (hlk : Cond.methodLink M.1 ix Lib.Math.max.name ∈ xT) (hw : Cond.static Lib.Math.max.name ∈ xT ∧ Cond.initialized "java/lang/Math" ∈ xT ∧ Cond.code Lib.Math.max.name Lib.Math.max.code 2 (some .int) ∈ xT) (hlv : 1 ≤ M.2.2.2.2) (hst : (st.map fun v => v.category).sum ≤ 8) (hd : decode M.2.1 pc = .ok (.invokestatic ix, 3)) (h : xAt l w M (pc + 3) L (.int (i_max x y) :: st) σ v τ) : xAt l w M pc L (.int y :: .int x :: st) σ v τ := by
  intro p' e R s m args below meth c H locs ls A hP hS hl
  have hts := A.2.2.2.2.1
  have hR := A.2.2.2.2.2.2.2.2.2
  exact va_mmax A.1 A.2.1 (A.2.2.2.1.trans hl.1.symm) A.2.2.2.2.2.1 (hts _ hlk) (hts _ hw.1) (hts _ hw.2.1) (hts _ hw.2.2) (Nat.le_trans hlv hR.1) (by have := hR.2; omega) (Nat.zero_le _) (Nat.zero_le _) hd (h p' e R s m args below meth c H locs ls A hP hS hl)
theorem x_min {ix : Nat} {x y : Int32} (hlk : Cond.methodLink M.1 ix Lib.Math.min.name ∈ xT) (hw : Cond.static Lib.Math.min.name ∈ xT ∧ Cond.initialized "java/lang/Math" ∈ xT ∧ Cond.code Lib.Math.min.name Lib.Math.min.code 2 (some .int) ∈ xT) (hlv : 1 ≤ M.2.2.2.2) (hst : (st.map fun v => v.category).sum ≤ 8) (hd : decode M.2.1 pc = .ok (.invokestatic ix, 3)) (h : xAt l w M (pc + 3) L (.int (i_min x y) :: st) σ v τ) : xAt l w M pc L (.int y :: .int x :: st) σ v τ := by
  intro p' e R s m args below meth c H locs ls A hP hS hl
  have hts := A.2.2.2.2.1
  have hR := A.2.2.2.2.2.2.2.2.2
  exact va_mmin A.1 A.2.1 (A.2.2.2.1.trans hl.1.symm) A.2.2.2.2.2.1 (hts _ hlk) (hts _ hw.1) (hts _ hw.2.1) (hts _ hw.2.2) (Nat.le_trans hlv hR.1) (by have := hR.2; omega) (Nat.zero_le _) (Nat.zero_le _) hd (h p' e R s m args below meth c H locs ls A hP hS hl)
-- ends
theorem x_Qend {s t : State} {H : Heap} {locs : List Loc} {args : Array Value} (hP : va_P w.1.1 vwCl (xC w σ) H) (hS : va_S (xA w s.heap.size) s.heap H locs) (ht : t.heap = H) : xQ w v σ args s (.returned v) t := ⟨rfl, by rw [ht]; exact hP, hS.F ht⟩
theorem x_iret {x : Int32} (hr : M.2.2.2.1 = some .int) (hd : decode M.2.1 pc = .ok (.ireturn, 1)) (hv : v = some (.int x)) (hσ : τ = σ) : xAt l w M pc L [.int x] σ v τ := fun p e R s m args below meth c H locs ls A hP hS hl => by
  subst hv; subst hσ
  have hlocks := A.2.2.2.2.2.2.2.1
  exact W.iret A.1 A.2.1 (A.2.2.1.trans hr) (fun t ht _ => x_Qend hP hS ht) hS.2.2 hd hlocks
theorem x_zret {x : Int32} (hr : M.2.2.2.1 = some .boolean) (hz : x_z x = true) (hd : decode M.2.1 pc = .ok (.ireturn, 1)) (hv : v = some (.int x)) (hσ : τ = σ) : xAt l w M pc L [.int x] σ v τ := fun p e R s m args below meth c H locs ls A hP hS hl => by
  subst hv; subst hσ
  have hlocks := A.2.2.2.2.2.2.2.1
  exact W.zret A.1 A.2.1 (A.2.2.1.trans hr) (x_z_n hz) (fun t ht _ => x_Qend hP hS ht) hS.2.2 hd hlocks
theorem x_lret {x : Int64} (hr : M.2.2.2.1 = some .long) (hd : decode M.2.1 pc = .ok (.lreturn, 1)) (hv : v = some (.long x)) (hσ : τ = σ) : xAt l w M pc L [.long x] σ v τ := fun p e R s m args below meth c H locs ls A hP hS hl => by
  subst hv; subst hσ
  have hlocks := A.2.2.2.2.2.2.2.1
  exact W.lret A.1 A.2.1 (A.2.2.1.trans hr) (fun t ht _ => x_Qend hP hS ht) hS.2.2 hd hlocks
theorem x_vret (hr : M.2.2.2.1 = none) (hd : decode M.2.1 pc = .ok (.return_, 1)) (hv : v = none) (hσ : τ = σ) : xAt l w M pc L [] σ v τ := fun p e R s m args below meth c H locs ls A hP hS hl => by
  subst hv; subst hσ
  have hlocks := A.2.2.2.2.2.2.2.1
  exact W.vret A.1 A.2.1 (A.2.2.1.trans hr) (fun t ht _ => x_Qend hP hS ht) hS.2.2 hd hlocks
theorem x_aret {C : String} {a : Value} (hr : M.2.2.2.1 = some (.object C)) (ha : a = .null ∨ ∃ q, a = .ref q) (hd : decode M.2.1 pc = .ok (.areturn, 1)) (hv : v = some a) (hσ : τ = σ) : xAt l w M pc L [a] σ v τ := fun p e R s m args below meth c H locs ls A hP hS hl => by
  subst hv; subst hσ
  have hlocks := A.2.2.2.2.2.2.2.1
  exact W.aret A.1 A.2.1 (A.2.2.1.trans hr) (Or.inl ⟨_, rfl⟩) ha (fun t ht _ => x_Qend hP hS ht) hS.2.2 hd hlocks
theorem x_p1 {α : Type} {a r : α} {s t : xS} (h : (some (a, s) : Option (α × xS)) = some (r, t)) : r = a ∧ t = s := by cases h; exact ⟨rfl, rfl⟩
theorem x_iretH {x r : Int32} (hr : M.2.2.2.1 = some .int) (hd : decode M.2.1 pc = .ok (.ireturn, 1)) (h : (some (x, σ) : Option (Int32 × xS)) = some (r, τ)) : xAt l w M pc L [.int x] σ (some (.int r)) τ := x_iret hr hd (by rw [(x_p1 h).1]) (x_p1 h).2
theorem x_zretH {x r : Int32} (hr : M.2.2.2.1 = some .boolean) (hz : x_z x = true) (hd : decode M.2.1 pc = .ok (.ireturn, 1)) (h : (some (x, σ) : Option (Int32 × xS)) = some (r, τ)) : xAt l w M pc L [.int x] σ (some (.int r)) τ := x_zret hr hz hd (by rw [(x_p1 h).1]) (x_p1 h).2
theorem x_lretH {x r : Int64} (hr : M.2.2.2.1 = some .long) (hd : decode M.2.1 pc = .ok (.lreturn, 1)) (h : (some (x, σ) : Option (Int64 × xS)) = some (r, τ)) : xAt l w M pc L [.long x] σ (some (.long r)) τ := x_lret hr hd (by rw [(x_p1 h).1]) (x_p1 h).2
theorem x_vretH {r : Unit} (hr : M.2.2.2.1 = none) (hd : decode M.2.1 pc = .ok (.return_, 1)) (h : (some ((), σ) : Option (Unit × xS)) = some (r, τ)) : xAt l w M pc L [] σ none τ := x_vret hr hd rfl (x_p1 h).2
def x_nvP (w : xW) (o : Option (Nat × Nat)) : Value := match o with
  | none => .null
  | some t => .ref (w.2.2 t.1 13 t.2 0)
def x_nvQ (w : xW) (o : Option (Nat × Nat × Nat)) : Value := match o with
  | none => .null
  | some t => .ref (w.2.2 t.1 16 t.2.1 t.2.2)
theorem x_aretP {C : String} {q r : Option (Nat × Nat)} {a : Value} (hr : M.2.2.2.1 = some (.object C)) (ha : a = x_nvP w q) (hd : decode M.2.1 pc = .ok (.areturn, 1)) (h : (some (q, σ) : Option (Option (Nat × Nat) × xS)) = some (r, τ)) : xAt l w M pc L [a] σ (some (x_nvP w r)) τ := by
  subst ha
  have hq : x_nvP w q = .null ∨ ∃ a, x_nvP w q = .ref a := by
    cases q with
    | none => exact Or.inl rfl
    | some t => exact Or.inr ⟨_, rfl⟩
  exact x_aret hr hq hd (by rw [(x_p1 h).1]) (x_p1 h).2
theorem x_aretQ {C : String} {q r : Option (Nat × Nat × Nat)} {a : Value} (hr : M.2.2.2.1 = some (.object C)) (ha : a = x_nvQ w q) (hd : decode M.2.1 pc = .ok (.areturn, 1)) (h : (some (q, σ) : Option (Option (Nat × Nat × Nat) × xS)) = some (r, τ)) : xAt l w M pc L [a] σ (some (x_nvQ w r)) τ := by
  subst ha
  have hq : x_nvQ w q = .null ∨ ∃ a, x_nvQ w q = .ref a := by
    cases q with
    | none => exact Or.inl rfl
    | some t => exact Or.inr ⟨_, rfl⟩
  exact x_aret hr hq hd (by rw [(x_p1 h).1]) (x_p1 h).2
theorem x_st (st1 : List Value) (he : st = st1) (h : xAt l w M pc L st1 σ v τ) : xAt l w M pc L st σ v τ := by subst he; exact h
theorem x_nm {x : Int32} (t : Int32) (he : t = x) (h : xAt l w M pc L (.int t :: st) σ v τ) : xAt l w M pc L (.int x :: st) σ v τ := by subst he; exact h
theorem x_nm2 {x : Int32} {a : Value} (t : Int32) (he : t = x) (h : xAt l w M pc L (a :: .int t :: st) σ v τ) : xAt l w M pc L (a :: .int x :: st) σ v τ := by subst he; exact h
-- calls
theorem x_GoodIn {y : MethodName} {cc : ByteArray} {n : Nat} {rt : Option FieldType} (h : Cond.code y cc n rt ∈ xT) : GoodIn xT (Cond.code y cc n rt :: xT) := by
  intro x hx
  have hm : x ∈ xT := by
    rcases List.mem_cons.mp hx with rfl | hx
    · exact h
    · exact hx
  exact ⟨hm, good_of_word (xT_g hm)⟩
theorem x_blind (w : xW) (σ : xS) (sz : Nat) (av : List Value) : FrameBlind (va_Pc av (xPre w σ sz)) := fun a U g mk q => by
  obtain ⟨q0, q1, q2, qP, qK⟩ := q
  exact ⟨q0, q1, q2, qP, va_K.moved (u := U) (U := U.calling g mk a) (Vm.Alike.refl U.vm) qK⟩
theorem x_goes {p : Program} {e : Env} {R : Room} {s : State} {m : MethodId} {args : Array Value} {below : List Frame} {meth : Method} {c : Code} {H : Heap} {locs : List Loc} {ls : Array Slot} {st0 : List Value} {σ1 : xS} {v1 : Option Value} {a : Array Value} {sz : Nat} (hsz : sz = H.size)
    (hr : va_Run p l e R s m args below meth c H locs 0 0 0 0 (F0 m pc ls st0) st (xQ w v1 σ1 a) (xA w sz)) (hS : va_S (xA w s.heap.size) s.heap H locs) {Q : State → Prop}
    (kk : ∀ (H1 : Heap) (locs1 : List Loc), va_P w.1.1 vwCl (xC w σ1) H1 → va_S (xA w s.heap.size) s.heap H1 locs1 → W p l e R s m args below meth c H1 locs1 0 0 Q (F0 m (pc + 3) ls (v1.toList ++ st))) : W p l e R s m args below meth c H locs 0 0 Q (F0 m pc ls st0) := by
  subst hsz
  intro T hT X
  obtain ⟨v0, st₀, t, T', Lx, h0, X', hL, e1, e2, ⟨hv, hP1, hz, hk⟩, stp⟩ := hr T hT X
  cases hv
  rw [h0] at hz hk
  have hA : ∀ q, xA w H.size q → xA w s.heap.size q := fun q hq => hq.elim Or.inl (fun z => Or.inr (Nat.le_trans hS.1 z))
  obtain ⟨t2, a1, b1⟩ := kk T'.heap (locs ++ Lx) (by rw [e1]; exact hP1) ⟨Nat.le_trans hS.1 (by rw [e1]; exact hz), fun q h1 h2 => by rw [e1, hk q (Nat.lt_of_lt_of_le h1 hS.1) (fun z => h2 (hA q z))]; exact hS.2.1 q h1 h2, fun q hq => by
      rcases List.mem_append.mp hq with h | h
      · exact hS.2.2 q h
      · exact hA _ (hL q h)⟩ T' rfl X'
  exact ⟨t2, stp t2 a1, b1⟩
/-- what the tables say of a call of an instance method (own, ix: the place; y, N: the method; n: its arguments) -/
def xCv (own : String) (ix : Nat) (y : MethodName) (N : xM) (K n : Nat) : Prop := Cond.methodLink own ix y ∈ xT ∧ Cond.instanceMethod y ∈ xT ∧ Cond.selects y.cls y y ∈ xT ∧ Cond.initialized y.cls ∈ xT ∧ Cond.code y N.2.1 N.2.2.1 N.2.2.2.1 ∈ xT ∧ (y.cls ≠ "java/lang/invoke/MethodHandle" ∧ y.cls ≠ "java/lang/invoke/VarHandle" ∧ (parseMethodDescriptor y.desc).map (fun d => d.parameters.length) = some n) ∧ N.2.2.1 ≤ 21 ∧ ∃ (o : Nat × Nat) (T : u_T) (nf : Nat), x_obj K = some o ∧ vwCl[o.1]? = some (y.cls, T, nf)
def xCs (own : String) (ix : Nat) (y : MethodName) (N : xM) (n : Nat) : Prop := Cond.methodLink own ix y ∈ xT ∧ Cond.static y ∈ xT ∧ Cond.initialized y.cls ∈ xT ∧ Cond.code y N.2.1 N.2.2.1 N.2.2.2.1 ∈ xT ∧ (y.cls ≠ "java/lang/invoke/MethodHandle" ∧ y.cls ≠ "java/lang/invoke/VarHandle" ∧ (parseMethodDescriptor y.desc).map (fun d => d.parameters.length) = some n) ∧ N.2.2.1 ≤ 21
theorem x_callV {ix d K p r n : Nat} {y : MethodName} {N : xM} {As : List Value} {σ1 : xS} {v1 : Option Value} (hE : xEV l w y N (.ref (w.2.2 d K p r) :: As) σ v1 σ1) (hc : xCv M.1 ix y N K n) (hlv : N.2.2.2.2 < M.2.2.2.2) (hok : x_ok w.1.2 d K p r = true) (hn : As.length = n) (hst : (st.map fun v => v.category).sum ≤ 8) (st0 : List Value) (hs0 : st0 = As.reverse ++ .ref (w.2.2 d K p r) :: st) (hd : decode M.2.1 pc = .ok (.invokevirtual ix, 3)) (st1 : List Value) (hs1 : v1.toList ++ st = st1) (h : xAt l w M (pc + 3) L st1 σ1 v τ) : xAt l w M pc L st0 σ v τ := by
  subst hs0
  subst hs1
  intro p' e R s m args below meth c H locs ls A hP hS hl
  obtain ⟨h1, h2, h3, h4, h5, h6, h7, o, T, nf, ho, hcl⟩ := hc
  have hts := A.2.2.2.2.1
  have hR := A.2.2.2.2.2.2.2.2.2
  obtain ⟨q0, hq, he⟩ := x_pos w σ hok
  have he' : (xC w σ)[q0]? = some (w.2.2 d K p r, .inr (o.1, (List.range o.2).map fun k => x_fv w σ d K p r k)) := by rw [he, x_cell, ho]
  have cb : CallB R s args M.1 ix y N.2.1 N.2.2.1 N.2.2.2.1 (Cond.code y N.2.1 N.2.2.1 N.2.2.2.1 :: xT) (xRm N.2.2.2.2) 0 0 n :=
    callB_of n hts (x_GoodIn h5) rfl rfl rfl (hts _ h4) (hts _ h1) h6 ⟨by have := hR.1; show N.2.2.2.2 + 1 ≤ R.frames; omega, by have := hR.2; show 8 + (N.2.2.1 + 11) + 40 * N.2.2.2.2 ≤ R.locals; omega⟩
  refine x_goes rfl (va_runV (As := As) (rest := st) (C := y.cls) ⟨A.1, A.2.1, A.2.2.2.1, A.2.2.2.2.2.1, hts⟩ (hE H.size) ⟨cb, hts _ h2, hts _ h3⟩ ⟨x_blind w σ H.size _, va_recv A.2.2.2.2.2.2.1 hP hcl he', fun U hU hW => ⟨rfl, A.2.2.2.2.2.2.2.2.1, by rw [hU], by rw [hU]; exact hP, va_K.moved hW.alike A.2.2.2.2.2.2.1⟩⟩ rfl hn hl.1 rfl (lv_room hst) hd ⟨Nat.zero_le _, Nat.zero_le _⟩) hS (fun H1 locs1 hP1 hS1 => ?_)
  exact h p' e R s m args below meth c H1 locs1 ls A hP1 hS1 hl
theorem x_callS {ix n : Nat} {y : MethodName} {N : xM} {As : List Value} {σ1 : xS} {v1 : Option Value} (hE : xEV l w y N As σ v1 σ1) (hc : xCs M.1 ix y N n) (hlv : N.2.2.2.2 < M.2.2.2.2) (hn : As.length = n) (hst : (st.map fun v => v.category).sum ≤ 8) (st0 : List Value) (hs0 : st0 = As.reverse ++ st) (hd : decode M.2.1 pc = .ok (.invokestatic ix, 3)) (st1 : List Value) (hs1 : v1.toList ++ st = st1) (h : xAt l w M (pc + 3) L st1 σ1 v τ) : xAt l w M pc L st0 σ v τ := by
  subst hs0
  subst hs1
  intro p' e R s m args below meth c H locs ls A hP hS hl
  obtain ⟨h1, h2, h4, h5, h6, h7⟩ := hc
  have hts := A.2.2.2.2.1
  have hR := A.2.2.2.2.2.2.2.2.2
  have cb : CallB R s args M.1 ix y N.2.1 N.2.2.1 N.2.2.2.1 (Cond.code y N.2.1 N.2.2.1 N.2.2.2.1 :: xT) (xRm N.2.2.2.2) 0 0 n :=
    callB_of n hts (x_GoodIn h5) rfl rfl rfl (hts _ h4) (hts _ h1) h6 ⟨by have := hR.1; show N.2.2.2.2 + 1 ≤ R.frames; omega, by have := hR.2; show 8 + (N.2.2.1 + 11) + 40 * N.2.2.2.2 ≤ R.locals; omega⟩
  refine x_goes rfl (va_runS (As := As) (rest := st) ⟨A.1, A.2.1, A.2.2.2.1, A.2.2.2.2.2.1, hts⟩ (hE H.size) ⟨cb, hts _ h2⟩ ⟨x_blind w σ H.size _, fun U hU hW => ⟨rfl, A.2.2.2.2.2.2.2.2.1, by rw [hU], by rw [hU]; exact hP, va_K.moved hW.alike A.2.2.2.2.2.2.1⟩⟩ rfl hn hl.1 rfl (lv_room hst) hd ⟨Nat.zero_le _, Nat.zero_le _⟩) hS (fun H1 locs1 hP1 hS1 => ?_)
  exact h p' e R s m args below meth c H1 locs1 ls A hP1 hS1 hl
end XR
theorem x_ne_i {x : Int32} (c : Int32) (n : Int) (hn : c.toInt = n) (h : ¬ x = c) : x.toInt ≠ n := fun e => h (Int32.toInt_inj.mp (e.trans hn.symm))
theorem ok_a {f : Bool} {d K : Nat} (hK : K ≤ 12) (hd : d < 4) : x_ok f d K 0 0 = true := by simp [x_ok, hK, hd]
theorem ok_b {f : Bool} {d K p : Nat} (h1 : 13 ≤ K) (h2 : K ≤ 15) (hd : d < 4) (hp : p < 6) : x_ok f d K p 0 = true := by
  have : ¬ K ≤ 12 := by omega
  simp [x_ok, this, h2, hd, hp]
theorem ok_c {f : Bool} {d p r : Nat} (hd : d < 4) (hp : p < 6) (hr : r < 3) : x_ok f d 16 p r = true := by simp [x_ok, hd, hp, hr]
theorem ok_e20 {f : Bool} : x_ok f 4 20 0 0 = true := rfl
theorem ok_e21 {f : Bool} : x_ok f 4 21 0 0 = true := rfl
theorem ok_e22 {f : Bool} : x_ok f 4 22 0 0 = true := rfl
theorem ok_e23 {f : Bool} : x_ok f 4 23 0 0 = true := rfl
theorem ok_e24 {f : Bool} : x_ok f 4 24 0 0 = true := rfl
theorem ok_e30 {f : Bool} (hf : f = true) : x_ok f 5 30 0 0 = true := by subst hf; rfl
theorem ok_e31 {f : Bool} (hf : f = true) : x_ok f 5 31 0 0 = true := by subst hf; rfl
theorem ok_e32 {f : Bool} (hf : f = true) : x_ok f 5 32 0 0 = true := by subst hf; rfl
theorem ok_e33 {f : Bool} (hf : f = true) : x_ok f 5 33 0 0 = true := by subst hf; rfl
theorem ok_e34 {f : Bool} (hf : f = true) : x_ok f 5 34 0 0 = true := by subst hf; rfl
theorem ok_e35 {f : Bool} (hf : f = true) : x_ok f 5 35 0 0 = true := by subst hf; rfl
theorem ok_e36 {f : Bool} (hf : f = true) : x_ok f 5 36 0 0 = true := by subst hf; rfl
theorem ok_e37 {f : Bool} (hf : f = true) : x_ok f 5 37 0 0 = true := by subst hf; rfl
theorem ok2_d {t : Nat × Nat} (h : ok2 t = true) : t.1 < 4 := (of_decide_eq_true h).1
theorem ok2_p {t : Nat × Nat} (h : ok2 t = true) : t.2 < 6 := (of_decide_eq_true h).2
theorem ok3_d {t : Nat × Nat × Nat} (h : ok3 t = true) : t.1 < 4 := (of_decide_eq_true h).1
theorem ok3_p {t : Nat × Nat × Nat} (h : ok3 t = true) : t.2.1 < 6 := (of_decide_eq_true h).2.1
theorem ok3_r {t : Nat × Nat × Nat} (h : ok3 t = true) : t.2.2 < 3 := (of_decide_eq_true h).2.2
