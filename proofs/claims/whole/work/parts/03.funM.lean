def fX6_in (a0 : Int32) (a1 : Int32) (a2 : Int32) (σ : xS) : Option (Int32 × xS) :=
  if a0 < a1 then (some (0, σ)) else (if a2 < a0 then (some (0, σ)) else (some (1, σ)))
def fX6_least (a0 : Int32) (a1 : Int32) (σ : xS) : Option (Int32 × xS) :=
  if a1 ≤ a0 then (some (a1, σ)) else (some (a0, σ))
def fX6_most (a0 : Int32) (a1 : Int32) (σ : xS) : Option (Int32 × xS) :=
  if a0 ≤ a1 then (some (a1, σ)) else (some (a0, σ))
def fX6_port (a0 : Int32) (a1 : Int32) (σ : xS) : Option (Int32 × xS) :=
  some (((16 + (24 * a0)) + a1), σ)
def fX6_queue (a0 : Int32) (a1 : Int32) (σ : xS) : Option (Int32 × xS) :=
  some (((160 + (16 * a0)) + a1), σ)
def fX6_entry (a0 : Int32) (a1 : Int32) (σ : xS) : Option (Int32 × xS) :=
  some (((448 + (128 * a0)) + a1), σ)
def fX6_packet (a0 : Int32) (a1 : Int32) (σ : xS) : Option (Int32 × xS) :=
  some (((2752 + (28 * a0)) + a1), σ)
def fX6_isPort (a1 : Int32) (σ : xS) : Option (Int32 × xS) :=
  x_b (fX6_in a1 0 ((σ 5 31 0 0 1) - 1) σ) fun z1 s1 => x_g (x_z z1) (some (z1, s1))
def fX6_isQueue (a1 : Int32) (a2 : Int32) (σ : xS) : Option (Int32 × xS) :=
  x_b (fX6_isPort a1 σ) fun z1 s1 => if z1 = 0 then (some (0, s1)) else (x_b (fX6_in a2 0 2 s1) fun z2 s2 => if z2 = 0 then (some (0, s2)) else (some (1, s2)))
def BX6_starts_75 : Nat → Int32 → xS → Option (Unit × xS)
  | 0, _, _ => none
  | n + 1, a3, σ => if 18 ≤ a3 then (some ((), σ)) else (x_b (fX6_queue a3 0 σ) fun z3 s3 => x_g (x_in z3 6464) (x_let (x_set s3 5 31 0 0 z3.toNatClampNeg 8) fun s5 => x_b (fX6_queue a3 4 s5) fun z6 s6 => x_g (x_in z6 6464) (x_let (x_set s6 5 31 0 0 z6.toNatClampNeg 4) fun s8 => x_let (a3 + 1) fun t9 => (BX6_starts_75 n) t9 s8)))
def BX6_starts_38 : Nat → Int32 → xS → Option (Unit × xS)
  | 0, _, _ => none
  | n + 1, a3, σ => if 6 ≤ a3 then (BX6_starts_75 x_FU 0 σ) else (x_b (fX6_port a3 5 σ) fun z10 s10 => x_g (x_in z10 6464) (x_let (x_set s10 5 31 0 0 z10.toNatClampNeg 4) fun s12 => x_b (fX6_port a3 7 s12) fun z13 s13 => x_g (x_in z13 6464) (x_let (x_set s13 5 31 0 0 z13.toNatClampNeg 1) fun s15 => x_let (a3 + 1) fun t16 => (BX6_starts_38 n) t16 s15)))
def BX6_starts_2 (a1 : Int32) (a2 : Int32) : Nat → Int32 → xS → Option (Unit × xS)
  | 0, _, _ => none
  | n + 1, a3, σ => if 6464 ≤ a3 then (x_let (x_set σ 5 31 0 0 0 a1) fun s1 => x_let (x_set s1 5 31 0 0 1 a2) fun s2 => BX6_starts_38 x_FU 0 s2) else (x_g (x_in a3 6464) (x_let (x_set σ 5 31 0 0 a3.toNatClampNeg 0) fun s18 => x_let (a3 + 1) fun t19 => (BX6_starts_2 a1 a2 n) t19 s18))
def fX6_starts (a1 : Int32) (a2 : Int32) (σ : xS) : Option (Unit × xS) :=
  BX6_starts_2 a1 a2 x_FU 0 σ
def fX6_sum (a1 : Int32) (a2 : Int32) (σ : xS) : Option (Int32 × xS) :=
  x_b (fX6_queue (3 * a1) a2 σ) fun z1 s1 => x_g (x_in z1 6464) (x_b (fX6_queue ((3 * a1) + 1) a2 s1) fun z3 s3 => x_g (x_in z3 6464) (x_b (fX6_queue ((3 * a1) + 2) a2 s3) fun z5 s5 => x_g (x_in z5 6464) (some ((((s1 5 31 0 0 z1.toNatClampNeg) + (s3 5 31 0 0 z3.toNatClampNeg)) + (s5 5 31 0 0 z5.toNatClampNeg)), s5))))
def fX6_guarantee (a1 : Int32) (σ : xS) : Option (Int32 × xS) :=
  x_b (fX6_port a1 0 σ) fun z1 s1 => x_g (x_in z1 6464) (x_b (fX6_port a1 2 s1) fun z3 s3 => x_g (x_in z3 6464) (some (((s1 5 31 0 0 z1.toNatClampNeg) + (s3 5 31 0 0 z3.toNatClampNeg)), s3)))
def BX6_pool_9 : Nat → Int32 → Int32 → xS → Option (Int32 × xS)
  | 0, _, _, _ => none
  | n + 1, a1, a2, σ => if (σ 5 31 0 0 1) ≤ a2 then (some (a1, σ)) else (x_b (fX6_guarantee a2 σ) fun z2 s2 => x_b (fX6_port a2 1 s2) fun z3 s3 => x_g (x_in z3 6464) (x_let (a1 - (z2 + (s3 5 31 0 0 z3.toNatClampNeg))) fun t5 => x_let (a2 + 1) fun t6 => (BX6_pool_9 n) t5 t6 s3))
def fX6_pool (σ : xS) : Option (Int32 × xS) :=
  x_let (σ 5 31 0 0 0) fun t1 => BX6_pool_9 x_FU t1 0 σ
def BX6_free_7 : Nat → Int32 → Int32 → xS → Option (Int32 × xS)
  | 0, _, _, _ => none
  | n + 1, a1, a2, σ => if (3 * (σ 5 31 0 0 1)) ≤ a2 then (some (a1, σ)) else (x_b (fX6_queue a2 7 σ) fun z2 s2 => x_g (x_in z2 6464) (x_let (a1 - (s2 5 31 0 0 z2.toNatClampNeg)) fun t4 => x_let (a2 + 1) fun t5 => (BX6_free_7 n) t4 t5 s2))
def fX6_free (σ : xS) : Option (Int32 × xS) :=
  x_b (fX6_pool  σ) fun z1 s1 => BX6_free_7 x_FU z1 0 s1
def fX6_freeOf (a1 : Int32) (σ : xS) : Option (Int32 × xS) :=
  x_b (fX6_guarantee a1 σ) fun z1 s1 => x_b (fX6_sum a1 6 s1) fun z2 s2 => some ((z1 - z2), s2)
def fX6_limit (a1 : Int32) (σ : xS) : Option (Int32 × xS) :=
  x_b (fX6_queue a1 0 σ) fun z1 s1 => x_g (x_in z1 6464) (x_b (fX6_free  s1) fun z3 s3 => some ((((s1 5 31 0 0 z1.toNatClampNeg) * z3) / 8), s3))
def BX6_converts_2 (a1 : Int32) : Nat → Int32 → xS → Option (Unit × xS)
  | 0, _, _ => none
  | n + 1, a2, σ => if a2 < 0 then (some ((), σ)) else (x_b (fX6_freeOf a1 σ) fun z1 s1 => x_let (-z1) fun t2 => x_let ((3 * a1) + a2) fun t3 => x_b (fX6_queue t3 6 s1) fun z4 s4 => x_g (x_in z4 6464) (x_b (fX6_least t2 (s4 5 31 0 0 z4.toNatClampNeg) s4) fun z6 s6 => if z6 ≤ 0 then (x_let (a2 + (-1)) fun t7 => (BX6_converts_2 a1 n) t7 s6) else (x_b (fX6_queue t3 6 s6) fun z8 s8 => x_g (x_in z8 6464) (x_g (x_in z8 6464) (x_let (x_set s8 5 31 0 0 z8.toNatClampNeg ((s8 5 31 0 0 z8.toNatClampNeg) - z6)) fun s11 => x_b (fX6_queue t3 7 s11) fun z12 s12 => x_g (x_in z12 6464) (x_g (x_in z12 6464) (x_let (x_set s12 5 31 0 0 z12.toNatClampNeg ((s12 5 31 0 0 z12.toNatClampNeg) + z6)) fun s15 => x_let (a2 + (-1)) fun t16 => (BX6_converts_2 a1 n) t16 s15)))))))
def fX6_converts (a1 : Int32) (σ : xS) : Option (Unit × xS) :=
  BX6_converts_2 a1 x_FU 2 σ
def fX6_reset (a1 : Int32) (a2 : Int32) (σ : xS) : Option (Int32 × xS) :=
  x_b (fX6_in a1 16 128 σ) fun z1 s1 => if z1 = 0 then (some ((-2), s1)) else (x_b (fX6_in a2 1 6 s1) fun z2 s2 => if z2 = 0 then (some ((-2), s2)) else (x_let (s2 5 31 0 0 0) fun t3 => x_b (fX6_starts a1 a2 s2) fun z4 s4 => some (t3, s4)))
def fX6_setReserve (a1 : Int32) (a2 : Int32) (σ : xS) : Option (Int32 × xS) :=
  x_b (fX6_isPort a1 σ) fun z1 s1 => if z1 = 0 then (some ((-1), s1)) else (x_b (fX6_in a2 0 64 s1) fun z2 s2 => if z2 = 0 then (some ((-2), s2)) else (x_b (fX6_port a1 0 s2) fun z3 s3 => x_g (x_in z3 6464) (x_let (s3 5 31 0 0 z3.toNatClampNeg) fun t5 => x_b (fX6_free  s3) fun z6 s6 => if (a2 - t5) ≤ z6 then (x_b (fX6_port a1 0 s6) fun z7 s7 => x_g (x_in z7 6464) (x_let (x_set s7 5 31 0 0 z7.toNatClampNeg a2) fun s9 => x_b (fX6_converts a1 s9) fun z10 s10 => some (t5, s10))) else (if a2 ≤ t5 then (x_b (fX6_port a1 0 s6) fun z11 s11 => x_g (x_in z11 6464) (x_let (x_set s11 5 31 0 0 z11.toNatClampNeg a2) fun s13 => x_b (fX6_converts a1 s13) fun z14 s14 => some (t5, s14))) else (some ((-3), s6))))))
def fX6_setHeadroom (a1 : Int32) (a2 : Int32) (σ : xS) : Option (Int32 × xS) :=
  x_b (fX6_isPort a1 σ) fun z1 s1 => if z1 = 0 then (some ((-1), s1)) else (x_b (fX6_in a2 0 64 s1) fun z2 s2 => if z2 = 0 then (some ((-2), s2)) else (x_b (fX6_port a1 1 s2) fun z3 s3 => x_g (x_in z3 6464) (x_let (s3 5 31 0 0 z3.toNatClampNeg) fun t5 => x_b (fX6_sum a1 8 s3) fun z6 s6 => if z6 ≤ a2 then (if a2 ≤ t5 then (x_b (fX6_port a1 1 s6) fun z7 s7 => x_g (x_in z7 6464) (x_let (x_set s7 5 31 0 0 z7.toNatClampNeg a2) fun s9 => some (t5, s9))) else (x_b (fX6_free  s6) fun z10 s10 => if (a2 - t5) ≤ z10 then (x_b (fX6_port a1 1 s10) fun z11 s11 => x_g (x_in z11 6464) (x_let (x_set s11 5 31 0 0 z11.toNatClampNeg a2) fun s13 => some (t5, s13))) else (some ((-3), s10)))) else (some ((-4), s6)))))
def fX6_set (a1 : Int32) (a2 : Int32) (a3 : Int32) (a4 : Int32) (a5 : Int32) (a6 : Int32) (σ : xS) : Option (Int32 × xS) :=
  x_b (fX6_isQueue a1 a2 σ) fun z1 s1 => if z1 = 0 then (some ((-1), s1)) else (x_b (fX6_in a4 a5 a6 s1) fun z2 s2 => if z2 = 0 then (some ((-2), s2)) else (x_b (fX6_queue ((3 * a1) + a2) a3 s2) fun z3 s3 => x_g (x_in z3 6464) (x_let (s3 5 31 0 0 z3.toNatClampNeg) fun t5 => x_g (x_in z3 6464) (x_let (x_set s3 5 31 0 0 z3.toNatClampNeg a4) fun s7 => some (t5, s7)))))
def fX6_setAlpha (a1 : Int32) (a2 : Int32) (a3 : Int32) (σ : xS) : Option (Int32 × xS) :=
  x_b (fX6_set a1 a2 0 a3 0 64 σ) fun z1 s1 => some (z1, s1)
def fX6_setBurst (a1 : Int32) (a2 : Int32) (a3 : Int32) (a4 : Int32) (σ : xS) : Option (Int32 × xS) :=
  x_b (fX6_isQueue a1 a2 σ) fun z1 s1 => if z1 = 0 then (some ((-1), s1)) else (x_b (fX6_in a3 0 32 s1) fun z2 s2 => if z2 = 0 then (some ((-2), s2)) else (x_b (fX6_in a4 0 8 s2) fun z3 s3 => if z3 = 0 then (some ((-2), s3)) else (x_let ((3 * a1) + a2) fun t4 => x_b (fX6_queue t4 3 s3) fun z5 s5 => x_g (x_in z5 6464) (x_let (s5 5 31 0 0 z5.toNatClampNeg) fun t7 => x_b (fX6_queue t4 1 s5) fun z8 s8 => x_g (x_in z8 6464) (x_let (x_set s8 5 31 0 0 z8.toNatClampNeg a3) fun s10 => x_b (fX6_queue t4 2 s10) fun z11 s11 => x_g (x_in z11 6464) (x_let (x_set s11 5 31 0 0 z11.toNatClampNeg a4) fun s13 => x_b (fX6_queue t4 3 s13) fun z14 s14 => x_g (x_in z14 6464) (x_let (x_set s14 5 31 0 0 z14.toNatClampNeg a3) fun s16 => some (t7, s16))))))))
def BX6_setLossless_74 (a3 : Int32) (a4 : Int32) (a5 : Int32) (as0 : Int32) (as1 : Int32) (σ : xS) : Option (Int32 × xS) :=
  x_g (x_in as1 6464) (x_let (x_set σ 5 31 0 0 as1.toNatClampNeg as0) fun s8 => if a3 = 0 then (x_b (fX6_queue a4 10 s8) fun z9 s9 => x_g (x_in z9 6464) (x_let (x_set s9 5 31 0 0 z9.toNatClampNeg 0) fun s11 => some (a5, s11))) else (some (a5, s8)))
def BX6_setLossless_40 (a3 : Int32) (a4 : Int32) (σ : xS) : Option (Int32 × xS) :=
  x_b (fX6_queue a4 9 σ) fun z3 s3 => x_g (x_in z3 6464) (x_let (s3 5 31 0 0 z3.toNatClampNeg) fun t5 => x_b (fX6_queue a4 9 s3) fun z6 s6 => if a3 = 0 then (BX6_setLossless_74 a3 a4 t5 0 z6 s6) else (BX6_setLossless_74 a3 a4 t5 1 z6 s6))
def fX6_setLossless (a1 : Int32) (a2 : Int32) (a3 : Int32) (σ : xS) : Option (Int32 × xS) :=
  x_b (fX6_isQueue a1 a2 σ) fun z1 s1 => if z1 = 0 then (some ((-1), s1)) else (x_let ((3 * a1) + a2) fun t2 => if a3 = 0 then (x_b (fX6_queue t2 8 s1) fun z12 s12 => x_g (x_in z12 6464) (if (s12 5 31 0 0 z12.toNatClampNeg) ≤ 0 then (BX6_setLossless_40 a3 t2 s12) else (some ((-4), s12)))) else (BX6_setLossless_40 a3 t2 s1))
def fX6_setScheduler (a1 : Int32) (a2 : Int32) (a3 : Int32) (σ : xS) : Option (Int32 × xS) :=
  x_b (fX6_isPort a1 σ) fun z1 s1 => if z1 = 0 then (some ((-1), s1)) else (x_b (fX6_in a3 0 16 s1) fun z2 s2 => if z2 = 0 then (some ((-2), s2)) else (x_b (fX6_port a1 5 s2) fun z3 s3 => x_g (x_in z3 6464) (x_let (s3 5 31 0 0 z3.toNatClampNeg) fun t5 => x_b (fX6_port a1 5 s3) fun z6 s6 => x_g (x_in z6 6464) (x_let (x_set s6 5 31 0 0 z6.toNatClampNeg a3) fun s8 => x_b (fX6_port a1 8 s8) fun z9 s9 => if a2 = 0 then (x_g (x_in z9 6464) (x_let (x_set s9 5 31 0 0 z9.toNatClampNeg 0) fun s11 => some (t5, s11))) else (x_g (x_in z9 6464) (x_let (x_set s9 5 31 0 0 z9.toNatClampNeg 1) fun s13 => some (t5, s13)))))))
def fX6_setQuantum (a1 : Int32) (a2 : Int32) (a3 : Int32) (σ : xS) : Option (Int32 × xS) :=
  x_b (fX6_set a1 a2 4 a3 1 16 σ) fun z1 s1 => some (z1, s1)
def fX6_setPushOut (a1 : Int32) (σ : xS) : Option (Int32 × xS) :=
  x_let (σ 5 31 0 0 2) fun t1 => if a1 = 0 then (x_let (x_set σ 5 31 0 0 2 0) fun s2 => some (t1, s2)) else (x_let (x_set σ 5 31 0 0 2 1) fun s3 => some (t1, s3))
def fX6_drops (a1 : Int32) (σ : xS) : Option (Unit × xS) :=
  x_b (fX6_port a1 2 σ) fun z1 s1 => x_g (x_in z1 6464) (x_let (x_set s1 5 31 0 0 z1.toNatClampNeg 0) fun s3 => x_b (fX6_port a1 3 s3) fun z4 s4 => x_g (x_in z4 6464) (x_let (x_set s4 5 31 0 0 z4.toNatClampNeg 0) fun s6 => x_b (fX6_converts a1 s6) fun z7 s7 => some ((), s7)))
def BX6_keeps_2 : Nat → Int32 → xS → Option (Unit × xS)
  | 0, _, _ => none
  | n + 1, a1, σ => if 6464 ≤ a1 then (some ((), σ)) else (x_g (x_in a1 6464) (x_g (x_in a1 6464) (x_let (x_set σ 5 32 0 0 a1.toNatClampNeg (σ 5 31 0 0 a1.toNatClampNeg)) fun s3 => x_let (a1 + 1) fun t4 => (BX6_keeps_2 n) t4 s3)))
def fX6_keeps (σ : xS) : Option (Unit × xS) :=
  BX6_keeps_2 x_FU 0 σ
def BX6_brings_2 : Nat → Int32 → xS → Option (Unit × xS)
  | 0, _, _ => none
  | n + 1, a1, σ => if 6464 ≤ a1 then (some ((), σ)) else (x_g (x_in a1 6464) (x_g (x_in a1 6464) (x_let (x_set σ 5 31 0 0 a1.toNatClampNeg (σ 5 32 0 0 a1.toNatClampNeg)) fun s3 => x_let (a1 + 1) fun t4 => (BX6_brings_2 n) t4 s3)))
def fX6_brings (σ : xS) : Option (Unit × xS) :=
  BX6_brings_2 x_FU 0 σ
def BX6_grant_179 (a1 : Int32) (a2 : Int32) (a3 : Int32) (σ : xS) : Option (Int32 × xS) :=
  x_b (fX6_port a1 3 σ) fun z9 s9 => x_g (x_in z9 6464) (if (s9 5 31 0 0 z9.toNatClampNeg) = 0 then (x_let (x_set s9 5 31 0 0 10 ((s9 5 31 0 0 10) + 1)) fun s15 => x_b (fX6_port a1 3 s15) fun z16 s16 => x_g (x_in z16 6464) (x_let (x_set s16 5 31 0 0 z16.toNatClampNeg (s16 5 31 0 0 10)) fun s18 => x_b (fX6_port a1 2 s18) fun z19 s19 => x_g (x_in z19 6464) (x_let (x_set s19 5 31 0 0 z19.toNatClampNeg a2) fun s21 => x_b (fX6_converts a1 s21) fun z22 s22 => some (a3, s22)))) else (x_b (fX6_port a1 2 s9) fun z11 s11 => x_g (x_in z11 6464) (x_let (x_set s11 5 31 0 0 z11.toNatClampNeg a2) fun s13 => x_b (fX6_converts a1 s13) fun z14 s14 => some (a3, s14))))
def BX6_grant_144 (a1 : Int32) (a2 : Int32) (a3 : Int32) (σ : xS) : Option (Int32 × xS) :=
  x_b (fX6_port a1 2 σ) fun z6 s6 => x_g (x_in z6 6464) (x_let (a2 - (s6 5 31 0 0 z6.toNatClampNeg)) fun t8 => if t8 ≤ 0 then (BX6_grant_179 a1 a2 a3 s6) else (x_b (fX6_free  s6) fun z23 s23 => if t8 ≤ z23 then (BX6_grant_179 a1 a2 a3 s23) else (x_b (fX6_brings  s23) fun z24 s24 => some ((-3), s24))))
def BX6_grant_45 (a1 : Int32) (a2 : Int32) : Nat → Int32 → Int32 → Int32 → xS → Option (Int32 × xS)
  | 0, _, _, _, _ => none
  | n + 1, a3, a4, a5, σ => if (σ 5 31 0 0 1) ≤ a5 then (if 2 ≤ a4 then (x_b (fX6_keeps  σ) fun z25 s25 => if a3 = (-5) then (BX6_grant_144 a1 a2 a3 s25) else (x_b (fX6_drops a3 s25) fun z26 s26 => BX6_grant_144 a1 a2 a3 s26)) else (x_b (fX6_keeps  σ) fun z27 s27 => BX6_grant_144 a1 a2 (-5) s27)) else (x_b (fX6_port a5 3 σ) fun z28 s28 => x_g (x_in z28 6464) (if (s28 5 31 0 0 z28.toNatClampNeg) ≤ 0 then (x_let (a5 + 1) fun t30 => (BX6_grant_45 a1 a2 n) a3 a4 t30 s28) else (x_let (a4 + 1) fun t31 => if a3 = (-5) then (x_let (a5 + 1) fun t32 => (BX6_grant_45 a1 a2 n) a5 t31 t32 s28) else (x_b (fX6_port a5 3 s28) fun z33 s33 => x_g (x_in z33 6464) (x_b (fX6_port a3 3 s33) fun z35 s35 => x_g (x_in z35 6464) (if (s35 5 31 0 0 z35.toNatClampNeg) ≤ (s33 5 31 0 0 z33.toNatClampNeg) then (x_let (a5 + 1) fun t37 => (BX6_grant_45 a1 a2 n) a3 t31 t37 s35) else (x_let (a5 + 1) fun t38 => (BX6_grant_45 a1 a2 n) a5 t31 t38 s35)))))))
def fX6_grant (a1 : Int32) (a2 : Int32) (σ : xS) : Option (Int32 × xS) :=
  x_b (fX6_isPort a1 σ) fun z1 s1 => if z1 = 0 then (some ((-1), s1)) else (x_b (fX6_in a2 1 32 s1) fun z2 s2 => if z2 = 0 then (some ((-2), s2)) else (x_b (fX6_port a1 3 s2) fun z3 s3 => x_g (x_in z3 6464) (if (s3 5 31 0 0 z3.toNatClampNeg) = 0 then (BX6_grant_45 a1 a2 x_FU (-5) 0 0 s3) else (x_b (fX6_keeps  s3) fun z5 s5 => BX6_grant_144 a1 a2 (-5) s5))))
def fX6_withdraw (a1 : Int32) (σ : xS) : Option (Int32 × xS) :=
  x_b (fX6_isPort a1 σ) fun z1 s1 => if z1 = 0 then (some ((-1), s1)) else (x_b (fX6_port a1 3 s1) fun z2 s2 => x_g (x_in z2 6464) (if (s2 5 31 0 0 z2.toNatClampNeg) = 0 then (some ((-5), s2)) else (x_b (fX6_port a1 2 s2) fun z4 s4 => x_g (x_in z4 6464) (x_let (s4 5 31 0 0 z4.toNatClampNeg) fun t6 => x_b (fX6_drops a1 s4) fun z7 s7 => some (t6, s7)))))
def BX6_slotOf_2 (a1 : Int32) : Nat → Int32 → xS → Option (Int32 × xS)
  | 0, _, _ => none
  | n + 1, a2, σ => if 128 ≤ a2 then (some ((-1), σ)) else (x_b (fX6_packet a2 3 σ) fun z1 s1 => x_g (x_in z1 6464) (if (s1 5 31 0 0 z1.toNatClampNeg) = 1 then (x_b (fX6_packet a2 0 s1) fun z4 s4 => x_g (x_in z4 6464) (if (s4 5 31 0 0 z4.toNatClampNeg) = a1 then (some (a2, s4)) else (x_let (a2 + 1) fun t6 => (BX6_slotOf_2 a1 n) t6 s4))) else (x_let (a2 + 1) fun t3 => (BX6_slotOf_2 a1 n) t3 s1)))
def fX6_slotOf (a1 : Int32) (σ : xS) : Option (Int32 × xS) :=
  BX6_slotOf_2 a1 x_FU 0 σ
def BX6_newSlot_2 : Nat → Int32 → xS → Option (Int32 × xS)
  | 0, _, _ => none
  | n + 1, a1, σ => x_b (fX6_packet a1 3 σ) fun z1 s1 => x_g (x_in z1 6464) (if (s1 5 31 0 0 z1.toNatClampNeg) = 1 then (x_let (a1 + 1) fun t3 => (BX6_newSlot_2 n) t3 s1) else (some (a1, s1)))
def fX6_newSlot (σ : xS) : Option (Int32 × xS) :=
  BX6_newSlot_2 x_FU 0 σ
def fX6_isFree (a1 : Int32) (σ : xS) : Option (Int32 × xS) :=
  if (σ 5 31 0 0 0) ≤ a1 then (some (0, σ)) else (x_let (6336 + a1) fun t1 => x_g (x_in t1 6464) (if (σ 5 31 0 0 t1.toNatClampNeg) = 0 then (some (1, σ)) else (some (0, σ))))
def BX6_runAt_26 (a1 : Int32) : Nat → Int32 → xS → Option (Int32 × xS)
  | 0, _, _ => none
  | n + 1, a2, σ => x_b (fX6_isFree (a1 + a2) σ) fun z2 s2 => if z2 = 0 then (some (a2, s2)) else (x_let (a2 + 1) fun t3 => (BX6_runAt_26 a1 n) t3 s2)
def fX6_runAt (a1 : Int32) (σ : xS) : Option (Int32 × xS) :=
  x_b (fX6_isFree a1 σ) fun z1 s1 => if z1 = 0 then (some (0, s1)) else (if a1 ≤ 0 then (BX6_runAt_26 a1 x_FU 0 s1) else (x_b (fX6_isFree (a1 - 1) s1) fun z4 s4 => if z4 = 0 then (BX6_runAt_26 a1 x_FU 0 s4) else (some (0, s4))))
def BX6_places_185 (a1 : Int32) (a2 : Int32) (a5 : Int32) (a6 : Int32) (k11 : Int32 → xS → Option (Unit × xS)) : Nat → Int32 → xS → Option (Unit × xS)
  | 0, _, _ => none
  | n + 1, a8, σ => if (a5 + a6) ≤ a8 then (x_let (a2 - a6) fun t18 => k11 t18 σ) else (x_let (6336 + a8) fun t19 => x_g (x_in t19 6464) (x_let (x_set σ 5 31 0 0 t19.toNatClampNeg (a1 + 1)) fun s21 => x_let (a8 + 1) fun t22 => (BX6_places_185 a1 a2 a5 a6 k11 n) t22 s21))
def BX6_places_122 (a1 : Int32) (a2 : Int32) (a5 : Int32) (as0 : Int32) (k11 : Int32 → xS → Option (Unit × xS)) (σ : xS) : Option (Unit × xS) :=
  x_b (fX6_packet a1 2 σ) fun z5 s5 => x_g (x_in z5 6464) (x_let (s5 5 31 0 0 z5.toNatClampNeg) fun t7 => x_b (fX6_packet a1 (4 + t7) s5) fun z8 s8 => x_g (x_in z8 6464) (x_let (x_set s8 5 31 0 0 z8.toNatClampNeg a5) fun s10 => x_b (fX6_packet a1 (16 + t7) s10) fun z11 s11 => x_g (x_in z11 6464) (x_let (x_set s11 5 31 0 0 z11.toNatClampNeg as0) fun s13 => x_b (fX6_packet a1 2 s13) fun z14 s14 => x_g (x_in z14 6464) (x_g (x_in z14 6464) (x_let (x_set s14 5 31 0 0 z14.toNatClampNeg ((s14 5 31 0 0 z14.toNatClampNeg) + 1)) fun s17 => BX6_places_185 a1 a2 a5 as0 k11 x_FU a5 s17)))))
def BX6_places_65 (a1 : Int32) (a2 : Int32) (a3 : Int32) (a4 : Int32) (a5 : Int32) (a6 : Int32) (k11 : Int32 → xS → Option (Unit × xS)) (k23 : Int32 → Int32 → Int32 → xS → Option (Unit × xS)) (σ : xS) : Option (Unit × xS) :=
  if a6 ≤ 0 then (x_let (a5 + 1) fun t25 => k23 a3 a4 t25 σ) else (if a4 < 0 then (x_let (a5 + 1) fun t26 => k23 a3 a5 t26 σ) else (x_b (fX6_runAt a4 σ) fun z27 s27 => if a6 ≤ z27 then (x_let (a5 + 1) fun t28 => k23 a3 a4 t28 s27) else (x_let (a5 + 1) fun t29 => k23 a3 a5 t29 s27)))
def BX6_places_23 (a1 : Int32) (a2 : Int32) (k11 : Int32 → xS → Option (Unit × xS)) : Nat → Int32 → Int32 → Int32 → xS → Option (Unit × xS)
  | 0, _, _, _, _ => none
  | n + 1, a3, a4, a5, σ => if (σ 5 31 0 0 0) ≤ a5 then (if a3 < 0 then (if a3 < 0 then (x_b (fX6_runAt a4 σ) fun z4 s4 => BX6_places_122 a1 a2 a4 z4 k11 s4) else (BX6_places_122 a1 a2 a4 a2 k11 σ)) else (if a3 < 0 then (x_b (fX6_runAt a4 σ) fun z23 s23 => BX6_places_122 a1 a2 a3 z23 k11 s23) else (BX6_places_122 a1 a2 a3 a2 k11 σ))) else (x_b (fX6_runAt a5 σ) fun z24 s24 => if z24 < a2 then (BX6_places_65 a1 a2 a3 a4 a5 z24 k11 (BX6_places_23 a1 a2 k11 n) s24) else (if a3 < 0 then (BX6_places_65 a1 a2 a5 a4 a5 z24 k11 (BX6_places_23 a1 a2 k11 n) s24) else (x_b (fX6_runAt a3 s24) fun z30 s30 => if z30 ≤ z24 then (BX6_places_65 a1 a2 a3 a4 a5 z24 k11 (BX6_places_23 a1 a2 k11 n) s30) else (BX6_places_65 a1 a2 a5 a4 a5 z24 k11 (BX6_places_23 a1 a2 k11 n) s30))))
def BX6_places_11 (a1 : Int32) : Nat → Int32 → xS → Option (Unit × xS)
  | 0, _, _ => none
  | n + 1, a2, σ => if a2 ≤ 0 then (some ((), σ)) else (BX6_places_23 a1 a2 (BX6_places_11 a1 n) x_FU (-1) (-1) 0 σ)
def fX6_places (a1 : Int32) (σ : xS) : Option (Unit × xS) :=
  x_b (fX6_packet a1 1 σ) fun z1 s1 => x_g (x_in z1 6464) (x_let (s1 5 31 0 0 z1.toNatClampNeg) fun t3 => BX6_places_11 a1 x_FU t3 s1)
def fX6_enters (a1 : Int32) (a2 : Int32) (σ : xS) : Option (Unit × xS) :=
  x_b (fX6_newSlot  σ) fun z1 s1 => x_b (fX6_packet z1 0 s1) fun z2 s2 => x_g (x_in z2 6464) (x_let (x_set s2 5 31 0 0 z2.toNatClampNeg (s2 5 31 0 0 4)) fun s4 => x_b (fX6_packet z1 1 s4) fun z5 s5 => x_g (x_in z5 6464) (x_let (x_set s5 5 31 0 0 z5.toNatClampNeg a2) fun s7 => x_b (fX6_packet z1 2 s7) fun z8 s8 => x_g (x_in z8 6464) (x_let (x_set s8 5 31 0 0 z8.toNatClampNeg 0) fun s10 => x_b (fX6_packet z1 3 s10) fun z11 s11 => x_g (x_in z11 6464) (x_let (x_set s11 5 31 0 0 z11.toNatClampNeg 1) fun s13 => x_let (x_set s13 5 31 0 0 4 ((s13 5 31 0 0 4) + 1)) fun s14 => x_b (fX6_places z1 s14) fun z15 s15 => x_b (fX6_queue a1 12 s15) fun z16 s16 => x_g (x_in z16 6464) (x_b (fX6_entry a1 (s16 5 31 0 0 z16.toNatClampNeg) s16) fun z18 s18 => x_g (x_in z18 6464) (x_let (x_set s18 5 31 0 0 z18.toNatClampNeg z1) fun s20 => x_b (fX6_queue a1 12 s20) fun z21 s21 => x_g (x_in z21 6464) (x_g (x_in z21 6464) (x_let (x_set s21 5 31 0 0 z21.toNatClampNeg ((s21 5 31 0 0 z21.toNatClampNeg) + 1)) fun s24 => some ((), s24)))))))))
def fX6_hasPackets (a1 : Int32) (σ : xS) : Option (Int32 × xS) :=
  x_b (fX6_sum a1 12 σ) fun z1 s1 => if z1 ≤ 0 then (some (0, s1)) else (some (1, s1))
def BX6_leaves_171 (a1 : Int32) (a4 : Int32) : Nat → Int32 → Int32 → xS → Option (Int32 × xS)
  | 0, _, _, _ => none
  | n + 1, a5, a6, σ => if a6 < 6 then (some (a4, σ)) else (x_b (fX6_queue a1 a6 σ) fun z17 s17 => x_g (x_in z17 6464) (x_b (fX6_least a5 (s17 5 31 0 0 z17.toNatClampNeg) s17) fun z19 s19 => x_b (fX6_queue a1 a6 s19) fun z20 s20 => x_g (x_in z20 6464) (x_g (x_in z20 6464) (x_let (x_set s20 5 31 0 0 z20.toNatClampNeg ((s20 5 31 0 0 z20.toNatClampNeg) - z19)) fun s23 => x_let (a5 - z19) fun t24 => x_let (a6 + (-1)) fun t25 => (BX6_leaves_171 a1 a4 n) t24 t25 s23))))
def BX6_leaves_103 (a1 : Int32) (a3 : Int32) (a4 : Int32) : Nat → Int32 → xS → Option (Int32 × xS)
  | 0, _, _ => none
  | n + 1, a5, σ => if (σ 5 31 0 0 0) ≤ a5 then (BX6_leaves_171 a1 a4 x_FU a4 8 σ) else (x_let (6336 + a5) fun t26 => x_g (x_in t26 6464) (if (σ 5 31 0 0 t26.toNatClampNeg) = (a3 + 1) then (x_let (6336 + a5) fun t34 => x_g (x_in t34 6464) (x_let (x_set σ 5 31 0 0 t34.toNatClampNeg 0) fun s36 => x_let (a5 + 1) fun t37 => (BX6_leaves_103 a1 a3 a4 n) t37 s36)) else (x_let (6336 + a5) fun t28 => x_g (x_in t28 6464) (x_let (6336 + a5) fun t30 => x_g (x_in t30 6464) (x_let (x_set σ 5 31 0 0 t30.toNatClampNeg (σ 5 31 0 0 t28.toNatClampNeg)) fun s32 => x_let (a5 + 1) fun t33 => (BX6_leaves_103 a1 a3 a4 n) t33 s32)))))
def BX6_leaves_28 (a1 : Int32) (a3 : Int32) (a4 : Int32) : Nat → Int32 → xS → Option (Int32 × xS)
  | 0, _, _ => none
  | n + 1, a5, σ => x_b (fX6_queue a1 12 σ) fun z8 s8 => x_g (x_in z8 6464) (if (s8 5 31 0 0 z8.toNatClampNeg) ≤ a5 then (x_b (fX6_queue a1 12 s8) fun z10 s10 => x_g (x_in z10 6464) (x_g (x_in z10 6464) (x_let (x_set s10 5 31 0 0 z10.toNatClampNeg ((s10 5 31 0 0 z10.toNatClampNeg) - 1)) fun s13 => x_b (fX6_packet a3 3 s13) fun z14 s14 => x_g (x_in z14 6464) (x_let (x_set s14 5 31 0 0 z14.toNatClampNeg 0) fun s16 => BX6_leaves_103 a1 a3 a4 x_FU 0 s16)))) else (x_b (fX6_entry a1 (a5 - 1) s8) fun z38 s38 => x_b (fX6_entry a1 a5 s38) fun z39 s39 => x_g (x_in z39 6464) (x_g (x_in z38 6464) (x_let (x_set s39 5 31 0 0 z38.toNatClampNeg (s39 5 31 0 0 z39.toNatClampNeg)) fun s42 => x_let (a5 + 1) fun t43 => (BX6_leaves_28 a1 a3 a4 n) t43 s42))))
def fX6_leaves (a1 : Int32) (a2 : Int32) (σ : xS) : Option (Int32 × xS) :=
  x_b (fX6_entry a1 a2 σ) fun z1 s1 => x_g (x_in z1 6464) (x_let (s1 5 31 0 0 z1.toNatClampNeg) fun t3 => x_b (fX6_packet t3 1 s1) fun z4 s4 => x_g (x_in z4 6464) (x_let (s4 5 31 0 0 z4.toNatClampNeg) fun t6 => x_let (a2 + 1) fun t7 => BX6_leaves_28 a1 t3 t6 x_FU t7 s4))
def BX6_settles_29 (a2 : Int32) (σ : xS) : Option (Unit × xS) :=
  x_b (fX6_hasPackets a2 σ) fun z4 s4 => if z4 = 0 then (x_b (fX6_port a2 4 s4) fun z5 s5 => x_g (x_in z5 6464) (x_let (x_set s5 5 31 0 0 z5.toNatClampNeg 0) fun s7 => x_b (fX6_port a2 6 s7) fun z8 s8 => x_g (x_in z8 6464) (x_let (x_set s8 5 31 0 0 z8.toNatClampNeg 0) fun s10 => x_b (fX6_port a2 7 s10) fun z11 s11 => x_g (x_in z11 6464) (x_let (x_set s11 5 31 0 0 z11.toNatClampNeg 1) fun s13 => some ((), s13))))) else (some ((), s4))
def fX6_settles (a1 : Int32) (σ : xS) : Option (Unit × xS) :=
  x_let (a1 / 3) fun t1 => x_b (fX6_queue a1 12 σ) fun z2 s2 => x_g (x_in z2 6464) (if (s2 5 31 0 0 z2.toNatClampNeg) = 0 then (x_b (fX6_queue a1 5 s2) fun z14 s14 => x_g (x_in z14 6464) (x_let (x_set s14 5 31 0 0 z14.toNatClampNeg 0) fun s16 => BX6_settles_29 t1 s16)) else (BX6_settles_29 t1 s2))
def fX6_loses (a1 : Int32) (a2 : Int32) (a3 : Int32) (σ : xS) : Option (Unit × xS) :=
  x_b (fX6_port a1 (11 + a2) σ) fun z1 s1 => x_g (x_in z1 6464) (x_g (x_in z1 6464) (x_let (x_set s1 5 31 0 0 z1.toNatClampNeg ((s1 5 31 0 0 z1.toNatClampNeg) + 1)) fun s4 => x_b (fX6_port a1 10 s4) fun z5 s5 => x_g (x_in z5 6464) (x_g (x_in z5 6464) (x_let (x_set s5 5 31 0 0 z5.toNatClampNeg ((s5 5 31 0 0 z5.toNatClampNeg) + a3)) fun s8 => some ((), s8)))))
def fX6_early (a1 : Int32) (a2 : Int32) (σ : xS) : Option (Int32 × xS) :=
  x_b (fX6_freeOf (a1 / 3) σ) fun z1 s1 => x_b (fX6_least a2 z1 s1) fun z2 s2 => if z2 = a2 then (some (1, s2)) else (x_let (x_set s2 5 36 0 0 1 1) fun s3 => x_let (a2 - z2) fun t4 => x_b (fX6_free  s3) fun z5 s5 => if t4 ≤ z5 then (x_b (fX6_queue a1 7 s5) fun z6 s6 => x_g (x_in z6 6464) (x_b (fX6_limit a1 s6) fun z8 s8 => x_let (((s6 5 31 0 0 z6.toNatClampNeg) + t4) - z8) fun t9 => x_b (fX6_queue a1 3 s8) fun z10 s10 => x_g (x_in z10 6464) (if (s10 5 31 0 0 z10.toNatClampNeg) < t9 then (x_let (x_set s10 5 36 0 0 2 3) fun s12 => some (0, s12)) else (some (2, s10))))) else (x_let (x_set s5 5 36 0 0 2 2) fun s13 => some (0, s13)))
def BX6_lessens_6 (a1 : Int32) : Nat → Int32 → Int32 → xS → Option (Unit × xS)
  | 0, _, _, _ => none
  | n + 1, a3, a4, σ => if a4 < 6 then (some ((), σ)) else (x_b (fX6_queue a1 a4 σ) fun z1 s1 => x_g (x_in z1 6464) (x_b (fX6_least a3 (s1 5 31 0 0 z1.toNatClampNeg) s1) fun z3 s3 => x_b (fX6_queue a1 a4 s3) fun z4 s4 => x_g (x_in z4 6464) (x_g (x_in z4 6464) (x_let (x_set s4 5 31 0 0 z4.toNatClampNeg ((s4 5 31 0 0 z4.toNatClampNeg) - z3)) fun s7 => x_let (a3 - z3) fun t8 => x_let (a4 + (-1)) fun t9 => (BX6_lessens_6 a1 n) t8 t9 s7))))
def fX6_lessens (a1 : Int32) (a2 : Int32) (σ : xS) : Option (Unit × xS) :=
  BX6_lessens_6 a1 x_FU a2 8 σ
def BX6_pushes_181 (a3 : Int32) (a4 : Int32) (a5 : Int32) (a7 : Int32) (a8 : Int32) : Nat → Int32 → xS → Option (Int32 × xS)
  | 0, _, _ => none
  | n + 1, a9, σ => if 9 ≤ a9 then (x_let (x_set σ 5 36 0 0 1 a4) fun s5 => x_let (x_set s5 5 36 0 0 2 a5) fun s6 => x_let (x_set s6 5 36 0 0 4 7) fun s7 => x_let (x_set s7 5 30 0 0 7 a7) fun s8 => x_g (x_z a8) (some (a8, s8))) else (x_b (fX6_queue ((3 * a3) + (a9 / 3)) (6 + (a9 - a9 / 3 * 3)) σ) fun z10 s10 => x_g (x_in a9 9) (x_g (x_in z10 6464) (x_let (x_set s10 5 31 0 0 z10.toNatClampNeg (s10 5 37 0 0 a9.toNatClampNeg)) fun s13 => x_let (a9 + 1) fun t14 => (BX6_pushes_181 a3 a4 a5 a7 a8 n) t14 s13)))
def BX6_pushes_110 (a1 : Int32) (a2 : Int32) (a3 : Int32) (a4 : Int32) (a5 : Int32) (a9 : Int32) (k83 : Int32 → Int32 → Int32 → xS → Option (Int32 × xS)) : Nat → Int32 → Int32 → Int32 → xS → Option (Int32 × xS)
  | 0, _, _, _, _ => none
  | n + 1, a7, a8, a10, σ => if a10 < 0 then (x_let (a9 + (-1)) fun t18 => k83 a7 a8 t18 σ) else (if a8 = 0 then (x_b (fX6_entry a9 a10 σ) fun z20 s20 => x_g (x_in z20 6464) (x_b (fX6_packet (s20 5 31 0 0 z20.toNatClampNeg) 1 s20) fun z22 s22 => x_g (x_in z22 6464) (x_b (fX6_lessens a9 (s22 5 31 0 0 z22.toNatClampNeg) s22) fun z24 s24 => x_let (a7 + 1) fun t25 => x_b (fX6_early a1 a2 s24) fun z26 s26 => if z26 ≤ 0 then (x_let (a10 + (-1)) fun t27 => (BX6_pushes_110 a1 a2 a3 a4 a5 a9 k83 n) t25 0 t27 s26) else (x_let (a10 + (-1)) fun t28 => (BX6_pushes_110 a1 a2 a3 a4 a5 a9 k83 n) t25 1 t28 s26)))) else (x_let (a9 + (-1)) fun t19 => k83 a7 a8 t19 σ))
def BX6_pushes_83 (a1 : Int32) (a2 : Int32) (a3 : Int32) (a4 : Int32) (a5 : Int32) : Nat → Int32 → Int32 → Int32 → xS → Option (Int32 × xS)
  | 0, _, _, _, _ => none
  | n + 1, a7, a8, a9, σ => if a9 ≤ a1 then (BX6_pushes_181 a3 a4 a5 a7 a8 x_FU 0 σ) else (if a8 = 0 then (x_b (fX6_queue a9 12 σ) fun z15 s15 => x_g (x_in z15 6464) (x_let ((s15 5 31 0 0 z15.toNatClampNeg) - 1) fun t17 => BX6_pushes_110 a1 a2 a3 a4 a5 a9 (BX6_pushes_83 a1 a2 a3 a4 a5 n) x_FU a7 a8 t17 s15)) else (BX6_pushes_181 a3 a4 a5 a7 a8 x_FU 0 σ))
def BX6_pushes_29 (a1 : Int32) (a2 : Int32) (a3 : Int32) (a4 : Int32) (a5 : Int32) : Nat → Int32 → xS → Option (Int32 × xS)
  | 0, _, _ => none
  | n + 1, a7, σ => if 9 ≤ a7 then (x_let ((3 * a3) + 2) fun t4 => BX6_pushes_83 a1 a2 a3 a4 a5 x_FU 0 0 t4 σ) else (x_b (fX6_queue ((3 * a3) + (a7 / 3)) (6 + (a7 - a7 / 3 * 3)) σ) fun z29 s29 => x_g (x_in z29 6464) (x_g (x_in a7 9) (x_let (x_set s29 5 37 0 0 a7.toNatClampNeg (s29 5 31 0 0 z29.toNatClampNeg)) fun s32 => x_let (a7 + 1) fun t33 => (BX6_pushes_29 a1 a2 a3 a4 a5 n) t33 s32)))
def fX6_pushes (a1 : Int32) (a2 : Int32) (σ : xS) : Option (Int32 × xS) :=
  x_let (a1 / 3) fun t1 => x_let (σ 5 36 0 0 1) fun t2 => x_let (σ 5 36 0 0 2) fun t3 => BX6_pushes_29 a1 a2 t1 t2 t3 x_FU 0 σ
def BX6_decides_93 (a1 : Int32) (a2 : Int32) (σ : xS) : Option (Int32 × xS) :=
  if (σ 5 31 0 0 2) = 0 then (x_let (x_set σ 5 36 0 0 4 6) fun s13 => some (0, s13)) else (x_b (fX6_pushes a1 a2 σ) fun z12 s12 => if z12 = 0 then (some (0, s12)) else (some (4, s12)))
def fX6_decides (a1 : Int32) (a2 : Int32) (σ : xS) : Option (Int32 × xS) :=
  x_b (fX6_early a1 a2 σ) fun z1 s1 => if z1 ≤ 0 then (x_let (a1 / 3) fun t2 => x_b (fX6_freeOf t2 s1) fun z3 s3 => x_b (fX6_least a2 z3 s3) fun z4 s4 => x_let (a2 - z4) fun t5 => x_b (fX6_queue a1 9 s4) fun z6 s6 => x_g (x_in z6 6464) (if (s6 5 31 0 0 z6.toNatClampNeg) = 0 then (x_let (x_set s6 5 36 0 0 3 4) fun s14 => BX6_decides_93 a1 a2 s14) else (x_b (fX6_port t2 1 s6) fun z8 s8 => x_g (x_in z8 6464) (x_b (fX6_sum t2 8 s8) fun z10 s10 => if t5 ≤ ((s8 5 31 0 0 z8.toNatClampNeg) - z10) then (some (3, s10)) else (x_let (x_set s10 5 36 0 0 3 5) fun s11 => BX6_decides_93 a1 a2 s11))))) else (some (z1, s1))
def BX6_counts_65 (a1 : Int32) (a3 : Int32) (a4 : Int32) (a5 : Int32) (σ : xS) : Option (Unit × xS) :=
  x_b (fX6_queue a1 6 σ) fun z4 s4 => x_g (x_in z4 6464) (x_g (x_in z4 6464) (x_let (x_set s4 5 31 0 0 z4.toNatClampNeg ((s4 5 31 0 0 z4.toNatClampNeg) + a4)) fun s7 => if a3 = 3 then (x_b (fX6_queue a1 8 s7) fun z12 s12 => x_g (x_in z12 6464) (x_g (x_in z12 6464) (x_let (x_set s12 5 31 0 0 z12.toNatClampNeg ((s12 5 31 0 0 z12.toNatClampNeg) + a5)) fun s15 => x_b (fX6_queue a1 11 s15) fun z16 s16 => x_g (x_in z16 6464) (x_b (fX6_queue a1 10 s16) fun z18 s18 => x_g (x_in z18 6464) (x_g (x_in z16 6464) (x_let (x_set s18 5 31 0 0 z16.toNatClampNeg ((s16 5 31 0 0 z16.toNatClampNeg) + (1 - (s18 5 31 0 0 z18.toNatClampNeg)))) fun s21 => x_b (fX6_queue a1 10 s21) fun z22 s22 => x_g (x_in z22 6464) (x_let (x_set s22 5 31 0 0 z22.toNatClampNeg 1) fun s24 => some ((), s24)))))))) else (x_b (fX6_queue a1 7 s7) fun z8 s8 => x_g (x_in z8 6464) (x_g (x_in z8 6464) (x_let (x_set s8 5 31 0 0 z8.toNatClampNeg ((s8 5 31 0 0 z8.toNatClampNeg) + a5)) fun s11 => some ((), s11))))))
def fX6_counts (a1 : Int32) (a2 : Int32) (a3 : Int32) (σ : xS) : Option (Unit × xS) :=
  x_b (fX6_freeOf (a1 / 3) σ) fun z1 s1 => x_b (fX6_least a2 z1 s1) fun z2 s2 => x_let (a2 - z2) fun t3 => if a3 = 2 then (x_b (fX6_queue a1 7 s2) fun z25 s25 => x_g (x_in z25 6464) (x_b (fX6_limit a1 s25) fun z27 s27 => x_let (((s25 5 31 0 0 z25.toNatClampNeg) + t3) - z27) fun t28 => x_b (fX6_queue a1 3 s27) fun z29 s29 => x_g (x_in z29 6464) (x_b (fX6_most 0 t28 s29) fun z31 s31 => x_g (x_in z29 6464) (x_let (x_set s31 5 31 0 0 z29.toNatClampNeg ((s29 5 31 0 0 z29.toNatClampNeg) - z31)) fun s33 => BX6_counts_65 a1 a3 z2 t3 s33)))) else (BX6_counts_65 a1 a3 z2 t3 s2)
def BX6_removesVictims_17 (a1 : Int32) (a3 : Int32) (k13 : Int32 → Int32 → xS → Option (Unit × xS)) : Nat → Int32 → xS → Option (Unit × xS)
  | 0, _, _ => none
  | n + 1, a2, σ => if a2 ≤ 0 then (x_let (a3 + (-1)) fun t3 => k13 a2 t3 σ) else (x_b (fX6_queue a3 12 σ) fun z4 s4 => x_g (x_in z4 6464) (if (s4 5 31 0 0 z4.toNatClampNeg) ≤ 0 then (x_let (a3 + (-1)) fun t6 => k13 a2 t6 s4) else (x_b (fX6_queue a3 12 s4) fun z7 s7 => x_g (x_in z7 6464) (x_b (fX6_leaves a3 ((s7 5 31 0 0 z7.toNatClampNeg) - 1) s7) fun z9 s9 => x_b (fX6_settles a3 s9) fun z10 s10 => x_b (fX6_loses (a1 / 3) 8 z9 s10) fun z11 s11 => x_let (a2 + (-1)) fun t12 => (BX6_removesVictims_17 a1 a3 k13 n) t12 s11))))
def BX6_removesVictims_13 (a1 : Int32) : Nat → Int32 → Int32 → xS → Option (Unit × xS)
  | 0, _, _, _ => none
  | n + 1, a2, a3, σ => if a2 ≤ 0 then (some ((), σ)) else (BX6_removesVictims_17 a1 a3 (BX6_removesVictims_13 a1 n) x_FU a2 σ)
def fX6_removesVictims (a1 : Int32) (σ : xS) : Option (Unit × xS) :=
  x_let (σ 5 30 0 0 7) fun t1 => x_let ((3 * (a1 / 3)) + 2) fun t2 => BX6_removesVictims_13 a1 x_FU t1 t2 σ
def BX6_arrives_105 (a1 : Int32) (a2 : Int32) (a3 : Int32) (σ : xS) : Option (Int32 × xS) :=
  x_b (fX6_counts a1 a2 a3 σ) fun z2 s2 => x_b (fX6_enters a1 a2 s2) fun z3 s3 => some (((s3 5 31 0 0 4) - 1), s3)
def BX6_arrives_21 (a1 : Int32) (a2 : Int32) : Nat → Int32 → xS → Option (Int32 × xS)
  | 0, _, _ => none
  | n + 1, a4, σ => if 4 ≤ a4 then (x_b (fX6_queue a1 9 σ) fun z7 s7 => x_g (x_in z7 6464) (if (s7 5 31 0 0 z7.toNatClampNeg) = 1 then (x_b (fX6_loses (a1 / 3) 5 a2 s7) fun z10 s10 => some ((-6), s10)) else (x_b (fX6_loses (a1 / 3) (s7 5 36 0 0 2) a2 s7) fun z9 s9 => some ((-6), s9)))) else (x_let (4 - a4) fun t11 => x_g (x_in t11 5) (x_let (6 + a4) fun t13 => x_g (x_in t13 6464) (x_let (x_set σ 5 31 0 0 t13.toNatClampNeg (σ 5 36 0 0 t11.toNatClampNeg)) fun s15 => x_let (a4 + 1) fun t16 => (BX6_arrives_21 a1 a2 n) t16 s15)))
def fX6_arrives (a1 : Int32) (a2 : Int32) (σ : xS) : Option (Int32 × xS) :=
  x_b (fX6_decides a1 a2 σ) fun z1 s1 => if z1 = 0 then (x_let (x_set s1 5 31 0 0 5 1) fun s6 => BX6_arrives_21 a1 a2 x_FU 0 s6) else (if z1 = 4 then (x_b (fX6_removesVictims a1 s1) fun z4 s4 => x_b (fX6_early a1 a2 s4) fun z5 s5 => BX6_arrives_105 a1 a2 z5 s5) else (BX6_arrives_105 a1 a2 z1 s1))
def fX6_arrive (a1 : Int32) (a2 : Int32) (a3 : Int32) (σ : xS) : Option (Int32 × xS) :=
  x_b (fX6_isQueue a1 a2 σ) fun z1 s1 => if z1 = 0 then (some ((-1), s1)) else (x_b (fX6_in a3 1 12 s1) fun z2 s2 => if z2 = 0 then (some ((-2), s2)) else (x_b (fX6_arrives ((3 * a1) + a2) a3 s2) fun z3 s3 => some (z3, s3)))
def fX6_firstSize (a1 : Int32) (σ : xS) : Option (Int32 × xS) :=
  x_b (fX6_entry a1 0 σ) fun z1 s1 => x_g (x_in z1 6464) (x_b (fX6_packet (s1 5 31 0 0 z1.toNatClampNeg) 1 s1) fun z3 s3 => x_g (x_in z3 6464) (some ((s3 5 31 0 0 z3.toNatClampNeg), s3)))
def fX6_departs (a1 : Int32) (a2 : Int32) (σ : xS) : Option (Unit × xS) :=
  x_b (fX6_leaves a2 0 σ) fun z1 s1 => x_b (fX6_port a1 4 s1) fun z2 s2 => x_g (x_in z2 6464) (x_g (x_in z2 6464) (x_let (x_set s2 5 31 0 0 z2.toNatClampNeg ((s2 5 31 0 0 z2.toNatClampNeg) - z1)) fun s5 => x_b (fX6_port a1 9 s5) fun z6 s6 => x_g (x_in z6 6464) (x_g (x_in z6 6464) (x_let (x_set s6 5 31 0 0 z6.toNatClampNeg ((s6 5 31 0 0 z6.toNatClampNeg) + 1)) fun s9 => some ((), s9)))))
def BX6_sends_337 (a1 : Int32) (a2 : Int32) (a4 : Int32) (as0 : Int32) (k37 : Int32 → Int32 → xS → Option (Int32 × xS)) (σ : xS) : Option (Int32 × xS) :=
  if as0 = 0 then (k37 a2 as0 σ) else (x_b (fX6_departs a1 a4 σ) fun z17 s17 => x_b (fX6_settles a4 s17) fun z18 s18 => x_let (a2 + 1) fun t19 => k37 t19 as0 s18)
def BX6_sends_292 (a1 : Int32) (a2 : Int32) (k37 : Int32 → Int32 → xS → Option (Int32 × xS)) : Nat → Int32 → xS → Option (Int32 × xS)
  | 0, _, _ => none
  | n + 1, a4, σ => x_b (fX6_queue a4 12 σ) fun z12 s12 => x_g (x_in z12 6464) (if (s12 5 31 0 0 z12.toNatClampNeg) = 0 then (x_let (a4 + 1) fun t20 => (BX6_sends_292 a1 a2 k37 n) t20 s12) else (x_b (fX6_firstSize a4 s12) fun z14 s14 => x_b (fX6_port a1 4 s14) fun z15 s15 => x_g (x_in z15 6464) (if (s15 5 31 0 0 z15.toNatClampNeg) < z14 then (BX6_sends_337 a1 a2 a4 0 k37 s15) else (BX6_sends_337 a1 a2 a4 1 k37 s15))))
def BX6_sends_183 (a1 : Int32) (a2 : Int32) (a3 : Int32) (k37 : Int32 → Int32 → xS → Option (Int32 × xS)) (σ : xS) : Option (Int32 × xS) :=
  x_b (fX6_port a1 6 σ) fun z28 s28 => x_b (fX6_port a1 6 s28) fun z29 s29 => x_g (x_in z29 6464) (x_g (x_in z28 6464) (x_let (x_set s29 5 31 0 0 z28.toNatClampNeg (((s29 5 31 0 0 z29.toNatClampNeg) + 1) - ((s29 5 31 0 0 z29.toNatClampNeg) + 1) / 3 * 3)) fun s32 => x_b (fX6_port a1 7 s32) fun z33 s33 => x_g (x_in z33 6464) (x_let (x_set s33 5 31 0 0 z33.toNatClampNeg 1) fun s35 => k37 a2 a3 s35)))
def BX6_sends_148 (a1 : Int32) (a2 : Int32) (a3 : Int32) (a4 : Int32) (k37 : Int32 → Int32 → xS → Option (Int32 × xS)) (σ : xS) : Option (Int32 × xS) :=
  x_b (fX6_queue a4 12 σ) fun z26 s26 => x_g (x_in z26 6464) (if (s26 5 31 0 0 z26.toNatClampNeg) = 0 then (BX6_sends_183 a1 a2 a3 k37 s26) else (x_b (fX6_firstSize a4 s26) fun z36 s36 => x_b (fX6_queue a4 5 s36) fun z37 s37 => x_g (x_in z37 6464) (if z36 ≤ (s37 5 31 0 0 z37.toNatClampNeg) then (x_b (fX6_firstSize a4 s37) fun z39 s39 => x_b (fX6_port a1 4 s39) fun z40 s40 => x_g (x_in z40 6464) (if z39 ≤ (s40 5 31 0 0 z40.toNatClampNeg) then (x_b (fX6_queue a4 5 s40) fun z42 s42 => x_g (x_in z42 6464) (x_b (fX6_firstSize a4 s42) fun z44 s44 => x_g (x_in z42 6464) (x_let (x_set s44 5 31 0 0 z42.toNatClampNeg ((s42 5 31 0 0 z42.toNatClampNeg) - z44)) fun s46 => x_b (fX6_departs a1 a4 s46) fun z47 s47 => x_b (fX6_settles a4 s47) fun z48 s48 => x_let (a2 + 1) fun t49 => k37 t49 a3 s48))) else (k37 a2 0 s40))) else (BX6_sends_183 a1 a2 a3 k37 s37))))
def BX6_sends_37 (a1 : Int32) : Nat → Int32 → Int32 → xS → Option (Int32 × xS)
  | 0, _, _, _ => none
  | n + 1, a2, a3, σ => if a3 = 0 then (some (a2, σ)) else (x_b (fX6_hasPackets a1 σ) fun z8 s8 => if z8 = 0 then (some (a2, s8)) else (x_b (fX6_port a1 8 s8) fun z9 s9 => x_g (x_in z9 6464) (if (s9 5 31 0 0 z9.toNatClampNeg) = 1 then (x_b (fX6_port a1 6 s9) fun z21 s21 => x_g (x_in z21 6464) (x_let ((3 * a1) + (s21 5 31 0 0 z21.toNatClampNeg)) fun t23 => x_b (fX6_queue t23 12 s21) fun z24 s24 => x_g (x_in z24 6464) (if (s24 5 31 0 0 z24.toNatClampNeg) ≤ 0 then (BX6_sends_148 a1 a2 a3 t23 (BX6_sends_37 a1 n) s24) else (x_b (fX6_port a1 7 s24) fun z50 s50 => x_g (x_in z50 6464) (if (s50 5 31 0 0 z50.toNatClampNeg) = 1 then (x_b (fX6_queue t23 5 s50) fun z52 s52 => x_g (x_in z52 6464) (x_b (fX6_queue t23 4 s52) fun z54 s54 => x_g (x_in z54 6464) (x_g (x_in z52 6464) (x_let (x_set s54 5 31 0 0 z52.toNatClampNeg ((s52 5 31 0 0 z52.toNatClampNeg) + (s54 5 31 0 0 z54.toNatClampNeg))) fun s57 => x_b (fX6_port a1 7 s57) fun z58 s58 => x_g (x_in z58 6464) (x_let (x_set s58 5 31 0 0 z58.toNatClampNeg 0) fun s60 => BX6_sends_148 a1 a2 a3 t23 (BX6_sends_37 a1 n) s60))))) else (BX6_sends_148 a1 a2 a3 t23 (BX6_sends_37 a1 n) s50)))))) else (x_let (3 * a1) fun t11 => BX6_sends_292 a1 a2 (BX6_sends_37 a1 n) x_FU t11 s9))))
def fX6_sends (a1 : Int32) (σ : xS) : Option (Int32 × xS) :=
  x_b (fX6_hasPackets a1 σ) fun z1 s1 => if z1 = 0 then (some (0, s1)) else (x_b (fX6_port a1 4 s1) fun z2 s2 => x_g (x_in z2 6464) (x_b (fX6_port a1 5 s2) fun z4 s4 => x_g (x_in z4 6464) (x_g (x_in z2 6464) (x_let (x_set s4 5 31 0 0 z2.toNatClampNeg ((s2 5 31 0 0 z2.toNatClampNeg) + (s4 5 31 0 0 z4.toNatClampNeg))) fun s7 => BX6_sends_37 a1 x_FU 0 1 s7))))
def BX6_tick_94 (a1 : Int32) : Nat → Int32 → xS → Option (Int32 × xS)
  | 0, _, _ => none
  | n + 1, a2, σ => if (3 * (σ 5 31 0 0 1)) ≤ a2 then (x_let (x_set σ 5 31 0 0 3 ((σ 5 31 0 0 3) + 1)) fun s1 => some (a1, s1)) else (x_b (fX6_queue a2 10 σ) fun z2 s2 => x_g (x_in z2 6464) (if (s2 5 31 0 0 z2.toNatClampNeg) = 1 then (x_b (fX6_queue a2 8 s2) fun z5 s5 => x_g (x_in z5 6464) (if (s5 5 31 0 0 z5.toNatClampNeg) = 0 then (x_b (fX6_queue a2 7 s5) fun z8 s8 => x_g (x_in z8 6464) (x_b (fX6_limit a2 s8) fun z10 s10 => if z10 < ((s8 5 31 0 0 z8.toNatClampNeg) + 2) then (x_let (a2 + 1) fun t11 => (BX6_tick_94 a1 n) t11 s10) else (x_b (fX6_queue a2 10 s10) fun z12 s12 => x_g (x_in z12 6464) (x_let (x_set s12 5 31 0 0 z12.toNatClampNeg 0) fun s14 => x_let (a2 + 1) fun t15 => (BX6_tick_94 a1 n) t15 s14)))) else (x_let (a2 + 1) fun t7 => (BX6_tick_94 a1 n) t7 s5))) else (x_let (a2 + 1) fun t4 => (BX6_tick_94 a1 n) t4 s2)))
def BX6_tick_30 (a1 : Int32) : Nat → Int32 → xS → Option (Int32 × xS)
  | 0, _, _ => none
  | n + 1, a2, σ => if (3 * (σ 5 31 0 0 1)) ≤ a2 then (BX6_tick_94 a1 x_FU 0 σ) else (x_b (fX6_queue a2 3 σ) fun z16 s16 => x_b (fX6_queue a2 1 s16) fun z17 s17 => x_g (x_in z17 6464) (x_b (fX6_queue a2 3 s17) fun z19 s19 => x_g (x_in z19 6464) (x_b (fX6_queue a2 2 s19) fun z21 s21 => x_g (x_in z21 6464) (x_b (fX6_least (s17 5 31 0 0 z17.toNatClampNeg) ((s19 5 31 0 0 z19.toNatClampNeg) + (s21 5 31 0 0 z21.toNatClampNeg)) s21) fun z23 s23 => x_g (x_in z16 6464) (x_let (x_set s23 5 31 0 0 z16.toNatClampNeg z23) fun s25 => x_let (a2 + 1) fun t26 => (BX6_tick_30 a1 n) t26 s25)))))
def BX6_tick_4 : Nat → Int32 → Int32 → xS → Option (Int32 × xS)
  | 0, _, _, _ => none
  | n + 1, a1, a2, σ => if (σ 5 31 0 0 1) ≤ a2 then (BX6_tick_30 a1 x_FU 0 σ) else (x_b (fX6_sends a2 σ) fun z27 s27 => x_let (a1 + z27) fun t28 => x_let (a2 + 1) fun t29 => (BX6_tick_4 n) t28 t29 s27)
def fX6_tick (σ : xS) : Option (Int32 × xS) :=
  BX6_tick_4 x_FU 0 0 σ
def BX6_ticking_4 (a1 : Int32) : Nat → Int32 → Int32 → xS → Option (Int32 × xS)
  | 0, _, _, _ => none
  | n + 1, a2, a3, σ => if a1 ≤ a3 then (some (a2, σ)) else (x_b (fX6_tick  σ) fun z1 s1 => x_let (a2 + z1) fun t2 => x_let (a3 + 1) fun t3 => (BX6_ticking_4 a1 n) t2 t3 s1)
def fX6_ticking (a1 : Int32) (σ : xS) : Option (Int32 × xS) :=
  BX6_ticking_4 a1 x_FU 0 0 σ
def fX6_ticks (a1 : Int32) (σ : xS) : Option (Int32 × xS) :=
  x_b (fX6_in a1 1 20 σ) fun z1 s1 => if z1 = 0 then (some ((-2), s1)) else (x_b (fX6_ticking a1 s1) fun z2 s2 => some (z2, s2))
def BX6_flushes_15 (a1 : Int32) (a3 : Int32) (k6 : Int32 → Int32 → xS → Option (Int32 × xS)) : Nat → Int32 → xS → Option (Int32 × xS)
  | 0, _, _ => none
  | n + 1, a2, σ => x_b (fX6_queue a3 12 σ) fun z2 s2 => x_g (x_in z2 6464) (if (s2 5 31 0 0 z2.toNatClampNeg) ≤ 0 then (x_let (a3 + 1) fun t4 => k6 a2 t4 s2) else (x_b (fX6_leaves a3 0 s2) fun z5 s5 => x_b (fX6_loses a1 9 z5 s5) fun z6 s6 => x_b (fX6_settles a3 s6) fun z7 s7 => x_let (a2 + 1) fun t8 => (BX6_flushes_15 a1 a3 k6 n) t8 s7))
def BX6_flushes_6 (a1 : Int32) : Nat → Int32 → Int32 → xS → Option (Int32 × xS)
  | 0, _, _, _ => none
  | n + 1, a2, a3, σ => if ((3 * a1) + 3) ≤ a3 then (some (a2, σ)) else (BX6_flushes_15 a1 a3 (BX6_flushes_6 a1 n) x_FU a2 σ)
def fX6_flushes (a1 : Int32) (σ : xS) : Option (Int32 × xS) :=
  x_let (3 * a1) fun t1 => BX6_flushes_6 a1 x_FU 0 t1 σ
def fX6_flush (a1 : Int32) (σ : xS) : Option (Int32 × xS) :=
  x_b (fX6_isPort a1 σ) fun z1 s1 => if z1 = 0 then (some ((-1), s1)) else (x_b (fX6_flushes a1 s1) fun z2 s2 => some (z2, s2))
def BX6_traffic_45 (a2 : Int32) (a3 : Int32) (a7 : Int32) (k36 : Int64 → Int32 → Int32 → xS → Option (Int32 × xS)) : Nat → Int64 → Int32 → Int32 → xS → Option (Int32 × xS)
  | 0, _, _, _, _ => none
  | n + 1, g4, a6, a8, σ => if a3 ≤ a8 then (x_b (fX6_tick  σ) fun z4 s4 => x_let (a7 + 1) fun t5 => k36 g4 a6 t5 s4) else (x_let (((g4 * 1103515245) + 12345) - ((g4 * 1103515245) + 12345) / 2147483648 * 2147483648) fun t6 => x_let ((t6 / 65536).toInt32) fun t7 => if (σ 5 31 0 0 1) = 0 then none else x_let ((3 * (t7 - t7 / (σ 5 31 0 0 1) * (σ 5 31 0 0 1))) + ((t7 / 8) - (t7 / 8) / 3 * 3)) fun t9 => x_b (fX6_arrives t9 (((t7 / 32) - (t7 / 32) / 12 * 12) + 1) σ) fun z10 s10 => if z10 = (-6) then (x_let (a6 + 1) fun t13 => x_let (a8 + 1) fun t14 => (BX6_traffic_45 a2 a3 a7 k36 n) t6 t13 t14 s10) else (x_let (a6 + 0) fun t11 => x_let (a8 + 1) fun t12 => (BX6_traffic_45 a2 a3 a7 k36 n) t6 t11 t12 s10))
def BX6_traffic_36 (a2 : Int32) (a3 : Int32) : Nat → Int64 → Int32 → Int32 → xS → Option (Int32 × xS)
  | 0, _, _, _, _ => none
  | n + 1, g4, a6, a7, σ => if a2 ≤ a7 then (some (a6, σ)) else (BX6_traffic_45 a2 a3 a7 (BX6_traffic_36 a2 a3 n) x_FU g4 a6 0 σ)
def fX6_traffic (a1 : Int32) (a2 : Int32) (a3 : Int32) (σ : xS) : Option (Int32 × xS) :=
  if a1 < 0 then (some ((-2), σ)) else (x_b (fX6_in a2 1 16 σ) fun z1 s1 => if z1 = 0 then (some ((-2), s1)) else (x_b (fX6_in a3 1 3 s1) fun z2 s2 => if z2 = 0 then (some ((-2), s2)) else (x_let a1.toInt64 fun t3 => BX6_traffic_36 a2 a3 x_FU t3 0 0 s2)))
def fX6_freeShared (σ : xS) : Option (Int32 × xS) :=
  x_b (fX6_free  σ) fun z1 s1 => some (z1, s1)
def fX6_sharedPool (σ : xS) : Option (Int32 × xS) :=
  x_b (fX6_pool  σ) fun z1 s1 => some (z1, s1)
def fX6_freeGuarantee (a1 : Int32) (σ : xS) : Option (Int32 × xS) :=
  x_b (fX6_isPort a1 σ) fun z1 s1 => if z1 = 0 then (some ((-1), s1)) else (x_b (fX6_freeOf a1 s1) fun z2 s2 => some (z2, s2))
def fX6_ofPort (a1 : Int32) (a2 : Int32) (σ : xS) : Option (Int32 × xS) :=
  x_b (fX6_isPort a1 σ) fun z1 s1 => if z1 = 0 then (some ((-1), s1)) else (x_b (fX6_port a1 a2 s1) fun z2 s2 => x_g (x_in z2 6464) (some ((s2 5 31 0 0 z2.toNatClampNeg), s2)))
def fX6_ofQueue (a1 : Int32) (a2 : Int32) (a3 : Int32) (σ : xS) : Option (Int32 × xS) :=
  x_b (fX6_isQueue a1 a2 σ) fun z1 s1 => if z1 = 0 then (some ((-1), s1)) else (x_b (fX6_queue ((3 * a1) + a2) a3 s1) fun z2 s2 => x_g (x_in z2 6464) (some ((s2 5 31 0 0 z2.toNatClampNeg), s2)))
def fX6_grantOf (a1 : Int32) (σ : xS) : Option (Int32 × xS) :=
  x_b (fX6_ofPort a1 2 σ) fun z1 s1 => some (z1, s1)
def fX6_threshold (a1 : Int32) (a2 : Int32) (σ : xS) : Option (Int32 × xS) :=
  x_b (fX6_isQueue a1 a2 σ) fun z1 s1 => if z1 = 0 then (some ((-1), s1)) else (x_b (fX6_limit ((3 * a1) + a2) s1) fun z2 s2 => some (z2, s2))
def fX6_guaranteedCells (a1 : Int32) (a2 : Int32) (σ : xS) : Option (Int32 × xS) :=
  x_b (fX6_ofQueue a1 a2 6 σ) fun z1 s1 => some (z1, s1)
def fX6_sharedCells (a1 : Int32) (a2 : Int32) (σ : xS) : Option (Int32 × xS) :=
  x_b (fX6_ofQueue a1 a2 7 σ) fun z1 s1 => some (z1, s1)
def fX6_headroomCells (a1 : Int32) (a2 : Int32) (σ : xS) : Option (Int32 × xS) :=
  x_b (fX6_ofQueue a1 a2 8 σ) fun z1 s1 => some (z1, s1)
def fX6_burstTank (a1 : Int32) (a2 : Int32) (σ : xS) : Option (Int32 × xS) :=
  x_b (fX6_ofQueue a1 a2 3 σ) fun z1 s1 => some (z1, s1)
def fX6_isPaused (a1 : Int32) (a2 : Int32) (σ : xS) : Option (Int32 × xS) :=
  x_b (fX6_ofQueue a1 a2 10 σ) fun z1 s1 => some (z1, s1)
def fX6_pauses (a1 : Int32) (a2 : Int32) (σ : xS) : Option (Int32 × xS) :=
  x_b (fX6_ofQueue a1 a2 11 σ) fun z1 s1 => some (z1, s1)
def fX6_credit (a1 : Int32) (σ : xS) : Option (Int32 × xS) :=
  x_b (fX6_ofPort a1 4 σ) fun z1 s1 => some (z1, s1)
def fX6_deficit (a1 : Int32) (a2 : Int32) (σ : xS) : Option (Int32 × xS) :=
  x_b (fX6_ofQueue a1 a2 5 σ) fun z1 s1 => some (z1, s1)
def BX6_losses_42 (a1 : Int32) (a2 : Int32) (as0 : Int32) (σ : xS) : Option (Int32 × xS) :=
  if as0 = 0 then (some ((-2), σ)) else (x_b (fX6_port a1 (11 + a2) σ) fun z2 s2 => x_g (x_in z2 6464) (some ((s2 5 31 0 0 z2.toNatClampNeg), s2)))
def fX6_losses (a1 : Int32) (a2 : Int32) (σ : xS) : Option (Int32 × xS) :=
  x_b (fX6_isPort a1 σ) fun z1 s1 => if z1 = 0 then (some ((-1), s1)) else (if a2 = 2 then (BX6_losses_42 a1 a2 1 s1) else (if a2 = 3 then (BX6_losses_42 a1 a2 1 s1) else (if a2 = 5 then (BX6_losses_42 a1 a2 1 s1) else (if a2 = 8 then (BX6_losses_42 a1 a2 1 s1) else (if a2 = 9 then (BX6_losses_42 a1 a2 1 s1) else (BX6_losses_42 a1 a2 0 s1))))))
def fX6_lostCells (a1 : Int32) (σ : xS) : Option (Int32 × xS) :=
  x_b (fX6_ofPort a1 10 σ) fun z1 s1 => some (z1, s1)
def fX6_lossCause (a1 : Int32) (σ : xS) : Option (Int32 × xS) :=
  x_b (fX6_in a1 0 3 σ) fun z1 s1 => if z1 = 0 then (some ((-1), s1)) else (if (s1 5 31 0 0 5) = 1 then (x_let (6 + a1) fun t2 => x_g (x_in t2 6464) (some ((s1 5 31 0 0 t2.toNatClampNeg), s1))) else (some ((-5), s1)))
def fX6_departed (a1 : Int32) (σ : xS) : Option (Int32 × xS) :=
  x_b (fX6_ofPort a1 9 σ) fun z1 s1 => some (z1, s1)
def fX6_admitted (σ : xS) : Option (Int32 × xS) :=
  some ((σ 5 31 0 0 4), σ)
def fX6_time (σ : xS) : Option (Int32 × xS) :=
  some ((σ 5 31 0 0 3), σ)
def fX6_queueLength (a1 : Int32) (a2 : Int32) (σ : xS) : Option (Int32 × xS) :=
  x_b (fX6_ofQueue a1 a2 12 σ) fun z1 s1 => some (z1, s1)
def fX6_packetAt (a1 : Int32) (a2 : Int32) (a3 : Int32) (σ : xS) : Option (Int32 × xS) :=
  x_b (fX6_isQueue a1 a2 σ) fun z1 s1 => if z1 = 0 then (some ((-1), s1)) else (x_b (fX6_queue ((3 * a1) + a2) 12 s1) fun z2 s2 => x_g (x_in z2 6464) (x_b (fX6_in a3 0 ((s2 5 31 0 0 z2.toNatClampNeg) - 1) s2) fun z4 s4 => if z4 = 0 then (some ((-1), s4)) else (x_b (fX6_entry ((3 * a1) + a2) a3 s4) fun z5 s5 => x_g (x_in z5 6464) (x_b (fX6_packet (s5 5 31 0 0 z5.toNatClampNeg) 0 s5) fun z7 s7 => x_g (x_in z7 6464) (some ((s7 5 31 0 0 z7.toNatClampNeg), s7))))))
def fX6_fragments (a1 : Int32) (σ : xS) : Option (Int32 × xS) :=
  x_b (fX6_slotOf a1 σ) fun z1 s1 => if 0 ≤ z1 then (x_b (fX6_packet z1 2 s1) fun z2 s2 => x_g (x_in z2 6464) (some ((s2 5 31 0 0 z2.toNatClampNeg), s2))) else (some ((-1), s1))
def fX6_ofFragment (a1 : Int32) (a2 : Int32) (a3 : Int32) (σ : xS) : Option (Int32 × xS) :=
  x_b (fX6_slotOf a1 σ) fun z1 s1 => if z1 < 0 then (some ((-1), s1)) else (x_b (fX6_packet z1 2 s1) fun z2 s2 => x_g (x_in z2 6464) (x_b (fX6_in a2 0 ((s2 5 31 0 0 z2.toNatClampNeg) - 1) s2) fun z4 s4 => if z4 = 0 then (some ((-1), s4)) else (x_b (fX6_packet z1 (a3 + a2) s4) fun z5 s5 => x_g (x_in z5 6464) (some ((s5 5 31 0 0 z5.toNatClampNeg), s5)))))
def fX6_fragmentStart (a1 : Int32) (a2 : Int32) (σ : xS) : Option (Int32 × xS) :=
  x_b (fX6_ofFragment a1 a2 4 σ) fun z1 s1 => some (z1, s1)
def fX6_fragmentLength (a1 : Int32) (a2 : Int32) (σ : xS) : Option (Int32 × xS) :=
  x_b (fX6_ofFragment a1 a2 16 σ) fun z1 s1 => some (z1, s1)
def BX6_freeRuns_4 : Nat → Int32 → Int32 → xS → Option (Int32 × xS)
  | 0, _, _, _ => none
  | n + 1, a1, a2, σ => if (σ 5 31 0 0 0) ≤ a2 then (some (a1, σ)) else (x_b (fX6_runAt a2 σ) fun z1 s1 => if z1 ≤ 0 then (x_let (a1 + 0) fun t2 => x_let (a2 + 1) fun t3 => (BX6_freeRuns_4 n) t2 t3 s1) else (x_let (a1 + 1) fun t4 => x_let (a2 + 1) fun t5 => (BX6_freeRuns_4 n) t4 t5 s1))
def fX6_freeRuns (σ : xS) : Option (Int32 × xS) :=
  BX6_freeRuns_4 x_FU 0 0 σ
def BX6_beginOf_4 : Nat → Int32 → Int32 → xS → Option (Int32 × xS)
  | 0, _, _, _ => none
  | n + 1, a2, a3, σ => if (σ 5 31 0 0 0) ≤ a3 then (some ((-1), σ)) else (x_b (fX6_runAt a3 σ) fun z1 s1 => if z1 ≤ 0 then (x_let (a3 + 1) fun t2 => (BX6_beginOf_4 n) a2 t2 s1) else (if a2 = 0 then (some (a3, s1)) else (x_let (a2 + (-1)) fun t3 => x_let (a3 + 1) fun t4 => (BX6_beginOf_4 n) t3 t4 s1)))
def fX6_beginOf (a1 : Int32) (σ : xS) : Option (Int32 × xS) :=
  BX6_beginOf_4 x_FU a1 0 σ
def fX6_runStart (a1 : Int32) (σ : xS) : Option (Int32 × xS) :=
  if 0 ≤ a1 then (x_b (fX6_beginOf a1 σ) fun z1 s1 => if 0 ≤ z1 then (x_b (fX6_beginOf a1 s1) fun z2 s2 => some (z2, s2)) else (some ((-1), s1))) else (some ((-1), σ))
def fX6_runLength (a1 : Int32) (σ : xS) : Option (Int32 × xS) :=
  if 0 ≤ a1 then (x_b (fX6_beginOf a1 σ) fun z1 s1 => if 0 ≤ z1 then (x_b (fX6_runAt z1 s1) fun z2 s2 => some (z2, s2)) else (some ((-1), s1))) else (some ((-1), σ))
def fX6_stageFor (a1 : Int32) (a2 : Int32) (a3 : Int32) (σ : xS) : Option (Int32 × xS) :=
  x_b (fX6_isQueue a1 a2 σ) fun z1 s1 => if z1 = 0 then (some ((-1), s1)) else (x_b (fX6_in a3 1 12 s1) fun z2 s2 => if z2 = 0 then (some ((-2), s2)) else (x_b (fX6_decides ((3 * a1) + a2) a3 s2) fun z3 s3 => if z3 = 0 then (some ((-6), s3)) else (some (z3, s3))))
def BX6_largestAdmissible_14 (a1 : Int32) (a2 : Int32) : Nat → Int32 → xS → Option (Int32 × xS)
  | 0, _, _ => none
  | n + 1, a3, σ => if a3 ≤ 0 then (some (a3, σ)) else (x_b (fX6_decides ((3 * a1) + a2) a3 σ) fun z2 s2 => if z2 = 0 then (x_let (a3 + (-1)) fun t3 => (BX6_largestAdmissible_14 a1 a2 n) t3 s2) else (some (a3, s2)))
def fX6_largestAdmissible (a1 : Int32) (a2 : Int32) (σ : xS) : Option (Int32 × xS) :=
  x_b (fX6_isQueue a1 a2 σ) fun z1 s1 => if z1 = 0 then (some ((-1), s1)) else (BX6_largestAdmissible_14 a1 a2 x_FU 12 s1)
def BX6_burstCapacity_54 (a3 : Int32) (a4 : Int32) : Nat → Int32 → Int32 → xS → Option (Int32 × xS)
  | 0, _, _, _ => none
  | n + 1, a5, a6, σ => if a6 ≤ 0 then (x_b (fX6_brings  σ) fun z7 s7 => some (a5, s7)) else (x_b (fX6_counts a4 a3 a6 σ) fun z8 s8 => x_let (a5 + 1) fun t9 => x_b (fX6_decides a4 a3 s8) fun z10 s10 => (BX6_burstCapacity_54 a3 a4 n) t9 z10 s10)
def fX6_burstCapacity (a1 : Int32) (a2 : Int32) (a3 : Int32) (σ : xS) : Option (Int32 × xS) :=
  x_b (fX6_isQueue a1 a2 σ) fun z1 s1 => if z1 = 0 then (some ((-1), s1)) else (x_b (fX6_in a3 1 12 s1) fun z2 s2 => if z2 = 0 then (some ((-2), s2)) else (x_let ((3 * a1) + a2) fun t3 => x_b (fX6_keeps  s2) fun z4 s4 => x_let (x_set s4 5 31 0 0 2 0) fun s5 => x_b (fX6_decides t3 a3 s5) fun z6 s6 => BX6_burstCapacity_54 a3 t3 x_FU 0 z6 s6))
def BX6_drainTicks_16 (a1 : Int32) : Nat → Int32 → xS → Option (Int32 × xS)
  | 0, _, _ => none
  | n + 1, a2, σ => x_b (fX6_hasPackets a1 σ) fun z3 s3 => if z3 = 0 then (x_b (fX6_brings  s3) fun z4 s4 => if 0 ≤ a2 then (some (a2, s4)) else (some ((-5), s4))) else (if a2 < 0 then (x_b (fX6_brings  s3) fun z5 s5 => if 0 ≤ a2 then (some (a2, s5)) else (some ((-5), s5))) else (x_b (fX6_sends a1 s3) fun z6 s6 => x_b (fX6_hasPackets a1 s6) fun z7 s7 => if z7 = 0 then (x_let (a2 + 1) fun t8 => (BX6_drainTicks_16 a1 n) t8 s7) else (x_b (fX6_port a1 5 s7) fun z9 s9 => x_g (x_in z9 6464) (if (s9 5 31 0 0 z9.toNatClampNeg) = 0 then ((BX6_drainTicks_16 a1 n) (-1) s9) else (x_let (a2 + 1) fun t11 => (BX6_drainTicks_16 a1 n) t11 s9)))))
def fX6_drainTicks (a1 : Int32) (σ : xS) : Option (Int32 × xS) :=
  x_b (fX6_isPort a1 σ) fun z1 s1 => if z1 = 0 then (some ((-1), s1)) else (x_b (fX6_keeps  s1) fun z2 s2 => BX6_drainTicks_16 a1 x_FU 0 s2)
def BX6_equilibrium_90 (a2 : Int32) (a3 : Int32) (a4 : Int32) : Nat → Int32 → Int32 → xS → Option (Int32 × xS)
  | 0, _, _, _ => none
  | n + 1, a5, a6, σ => if a6 = 0 then (if a2 = 0 then (if a5 = 0 then none else some ((a4 / a5), σ)) else (if a5 = 0 then none else some ((a3 / a5), σ))) else (if a6 = 0 then none else x_let (a5 - a5 / a6 * a6) fun t6 => (BX6_equilibrium_90 a2 a3 a4 n) a6 t6 σ)
def BX6_equilibrium_27 (a1 : Int32) (a2 : Int32) : Nat → Int32 → Int32 → xS → Option (Int32 × xS)
  | 0, _, _, _ => none
  | n + 1, a3, a4, σ => if (3 * (σ 5 31 0 0 1)) ≤ a4 then (x_b (fX6_pool  σ) fun z1 s1 => x_let (8 * z1) fun t2 => BX6_equilibrium_90 a2 a3 t2 x_FU t2 a3 s1) else (if ((a1 >>> (a4 &&& 31)) &&& 1) = 1 then (x_b (fX6_queue a4 0 σ) fun z9 s9 => x_g (x_in z9 6464) (x_let (a3 + (s9 5 31 0 0 z9.toNatClampNeg)) fun t11 => x_let (a4 + 1) fun t12 => (BX6_equilibrium_27 a1 a2 n) t11 t12 s9)) else (x_let (a3 + 0) fun t7 => x_let (a4 + 1) fun t8 => (BX6_equilibrium_27 a1 a2 n) t7 t8 σ))
def fX6_equilibrium (a1 : Int32) (a2 : Int32) (σ : xS) : Option (Int32 × xS) :=
  if a1 < 0 then (some ((-2), σ)) else (if a1 < (1 <<< ((3 * (σ 5 31 0 0 1)) &&& 31)) then (BX6_equilibrium_27 a1 a2 x_FU 8 0 σ) else (some ((-2), σ)))
def fX6_append (a1 : Int32) (σ : xS) : Option (Int32 × xS) :=
  x_b (fX6_in a1 0 127 σ) fun z1 s1 => if z1 = 0 then (some ((-2), s1)) else (if (s1 5 30 0 0 5) = 120 then (some ((-3), s1)) else (x_let (s1 5 30 0 0 5) fun t2 => x_g (x_in t2 120) (x_let (x_set s1 5 35 0 0 t2.toNatClampNeg a1) fun s4 => x_let (x_set s4 5 30 0 0 5 ((s4 5 30 0 0 5) + 1)) fun s5 => some ((s5 5 30 0 0 5), s5))))
def fX6_clearText (σ : xS) : Option (Int32 × xS) :=
  x_let (σ 5 30 0 0 5) fun t1 => x_let (x_set σ 5 30 0 0 5 0) fun s2 => some (t1, s2)
def fX6_here (σ : xS) : Option (Int32 × xS) :=
  if (σ 5 30 0 0 5) ≤ (σ 5 30 0 0 9) then (some ((-1), σ)) else (x_let (σ 5 30 0 0 9) fun t1 => x_g (x_in t1 120) (some ((σ 5 35 0 0 t1.toNatClampNeg), σ)))
def fX6_isDigit (σ : xS) : Option (Int32 × xS) :=
  x_b (fX6_here  σ) fun z1 s1 => x_b (fX6_in z1 48 57 s1) fun z2 s2 => x_g (x_z z2) (some (z2, s2))
def fX6_faults (a1 : Int32) (σ : xS) : Option (Unit × xS) :=
  if 0 ≤ (σ 5 30 0 0 10) then (x_let (x_set σ 5 30 0 0 10 (σ 5 30 0 0 10)) fun s1 => some ((), s1)) else (x_let (x_set σ 5 30 0 0 10 a1) fun s2 => some ((), s2))
def fX6_digit (a1 : Int32) (σ : xS) : Option (Int32 × xS) :=
  x_b (fX6_here  σ) fun z1 s1 => x_let (z1 - 48) fun t2 => x_b (fX6_isDigit  s1) fun z3 s3 => if z3 = 0 then (x_b (fX6_faults (s3 5 30 0 0 9) s3) fun z4 s4 => some (0, s4)) else (if t2 ≤ a1 then (x_let (x_set s3 5 30 0 0 9 ((s3 5 30 0 0 9) + 1)) fun s5 => some (t2, s5)) else (x_b (fX6_faults (s3 5 30 0 0 9) s3) fun z6 s6 => some (0, s6)))
def BX6_number_8 (a1 : Int32) (a2 : Int32) (a3 : Int32) : Nat → Int32 → xS → Option (Int32 × xS)
  | 0, _, _ => none
  | n + 1, a4, σ => x_b (fX6_isDigit  σ) fun z2 s2 => if z2 = 0 then (if (s2 5 30 0 0 9) = a3 then (x_b (fX6_faults a3 s2) fun z3 s3 => some (a4, s3)) else (x_g (x_in a3 120) (if (s2 5 35 0 0 a3.toNatClampNeg) = 48 then (x_b (fX6_faults a3 s2) fun z5 s5 => some (a4, s5)) else (if 2 < ((s2 5 30 0 0 9) - a3) then (x_b (fX6_faults a3 s2) fun z6 s6 => some (a4, s6)) else (x_b (fX6_in a4 a1 a2 s2) fun z7 s7 => if z7 = 0 then (x_b (fX6_faults a3 s7) fun z8 s8 => some (a4, s8)) else (some (a4, s7))))))) else (x_b (fX6_here  s2) fun z9 s9 => x_b (fX6_least 1000 (((10 * a4) + z9) - 48) s9) fun z10 s10 => x_let (x_set s10 5 30 0 0 9 ((s10 5 30 0 0 9) + 1)) fun s11 => (BX6_number_8 a1 a2 a3 n) z10 s11)
def fX6_number (a1 : Int32) (a2 : Int32) (σ : xS) : Option (Int32 × xS) :=
  x_let (σ 5 30 0 0 9) fun t1 => BX6_number_8 a1 a2 t1 x_FU 0 σ
def fX6_sign (a1 : Int32) (σ : xS) : Option (Unit × xS) :=
  x_b (fX6_here  σ) fun z1 s1 => if z1 = a1 then (x_let (x_set s1 5 30 0 0 9 ((s1 5 30 0 0 9) + 1)) fun s3 => some ((), s3)) else (x_b (fX6_faults (s1 5 30 0 0 9) s1) fun z2 s2 => some ((), s2))
def fX6_ends (σ : xS) : Option (Unit × xS) :=
  if 0 ≤ (σ 5 30 0 0 10) then (some ((), σ)) else (x_b (fX6_sign 59 σ) fun z1 s1 => some ((), s1))
def fX6_acts (σ : xS) : Option (Int32 × xS) :=
  if (σ 5 30 0 0 11) = 0 then (some (0, σ)) else (if 0 ≤ (σ 5 30 0 0 10) then (some (0, σ)) else (some (1, σ)))
def BX6_order_155 (a2 : Int32) (a3 : Int32) (a4 : Int32) (a5 : Int32) : Nat → Int32 → xS → Option (Unit × xS)
  | 0, _, _ => none
  | n + 1, a6, σ => if a5 ≤ a6 then (some ((), σ)) else (x_b (fX6_acts  σ) fun z5 s5 => if z5 = 0 then (some ((), s5)) else (x_b (fX6_arrives ((3 * a2) + a4) a3 s5) fun z6 s6 => if z6 = (-6) then (x_let (x_set s6 5 30 0 0 12 ((s5 5 30 0 0 12) + 1)) fun s9 => x_let (a6 + 1) fun t10 => (BX6_order_155 a2 a3 a4 a5 n) t10 s9) else (x_let (x_set s6 5 30 0 0 12 ((s5 5 30 0 0 12) + 0)) fun s7 => x_let (a6 + 1) fun t8 => (BX6_order_155 a2 a3 a4 a5 n) t8 s7)))
def BX6_order_109 (a2 : Int32) (a4 : Int32) (as0 : Int32) (σ : xS) : Option (Unit × xS) :=
  if 0 ≤ (σ 5 30 0 0 10) then (x_b (fX6_ends  σ) fun z4 s4 => BX6_order_155 a2 as0 a4 1 x_FU 0 s4) else (x_b (fX6_here  σ) fun z11 s11 => if z11 = 42 then (x_let (x_set s11 5 30 0 0 9 ((s11 5 30 0 0 9) + 1)) fun s13 => x_b (fX6_number 2 9 s13) fun z14 s14 => x_b (fX6_ends  s14) fun z15 s15 => BX6_order_155 a2 as0 a4 z14 x_FU 0 s15) else (x_b (fX6_ends  s11) fun z12 s12 => BX6_order_155 a2 as0 a4 1 x_FU 0 s12))
def BX6_order_313 (a2 : Int32) (as0 : Int32) (σ : xS) : Option (Unit × xS) :=
  x_b (fX6_ends  σ) fun z24 s24 => x_b (fX6_acts  s24) fun z25 s25 => if z25 = 0 then (some ((), s25)) else (x_b (fX6_grant a2 as0 s25) fun z26 s26 => some ((), s26))
def fX6_order (σ : xS) : Option (Unit × xS) :=
  x_b (fX6_here  σ) fun z1 s1 => x_let (x_set s1 5 30 0 0 9 ((s1 5 30 0 0 9) + 1)) fun s2 => if z1 = 97 then (x_b (fX6_digit ((s2 5 31 0 0 1) - 1) s2) fun z3 s3 => if 0 ≤ (s3 5 30 0 0 10) then (if 0 ≤ (s3 5 30 0 0 10) then (BX6_order_109 z3 0 0 s3) else (x_b (fX6_number 1 12 s3) fun z16 s16 => BX6_order_109 z3 0 z16 s16)) else (x_b (fX6_digit 2 s3) fun z17 s17 => if 0 ≤ (s17 5 30 0 0 10) then (BX6_order_109 z3 z17 0 s17) else (x_b (fX6_number 1 12 s17) fun z18 s18 => BX6_order_109 z3 z17 z18 s18))) else (if z1 = 102 then (x_b (fX6_digit ((s2 5 31 0 0 1) - 1) s2) fun z19 s19 => x_b (fX6_ends  s19) fun z20 s20 => x_b (fX6_acts  s20) fun z21 s21 => if z21 = 0 then (some ((), s21)) else (x_b (fX6_flushes z19 s21) fun z22 s22 => some ((), s22))) else (if z1 = 103 then (x_b (fX6_digit ((s2 5 31 0 0 1) - 1) s2) fun z23 s23 => if 0 ≤ (s23 5 30 0 0 10) then (if 0 ≤ (s23 5 30 0 0 10) then (BX6_order_313 z23 0 s23) else (x_b (fX6_number 1 32 s23) fun z27 s27 => BX6_order_313 z23 z27 s27)) else (x_b (fX6_sign 44 s23) fun z28 s28 => if 0 ≤ (s28 5 30 0 0 10) then (BX6_order_313 z23 0 s28) else (x_b (fX6_number 1 32 s28) fun z29 s29 => BX6_order_313 z23 z29 s29))) else (if z1 = 116 then (x_b (fX6_number 1 20 s2) fun z30 s30 => x_b (fX6_ends  s30) fun z31 s31 => x_b (fX6_acts  s31) fun z32 s32 => if z32 = 0 then (some ((), s32)) else (x_b (fX6_ticking z30 s32) fun z33 s33 => some ((), s33))) else (x_b (fX6_faults ((s2 5 30 0 0 9) - 1) s2) fun z34 s34 => some ((), s34)))))
def BX6_reads_20 : Nat → xS → Option (Unit × xS)
  | 0, _ => none
  | n + 1, σ => if (σ 5 30 0 0 5) ≤ (σ 5 30 0 0 9) then (some ((), σ)) else (if 0 ≤ (σ 5 30 0 0 10) then (some ((), σ)) else (x_b (fX6_order  σ) fun z6 s6 => (BX6_reads_20 n) s6))
def fX6_reads (a1 : Int32) (σ : xS) : Option (Unit × xS) :=
  x_let (x_set σ 5 30 0 0 9 0) fun s1 => x_let (x_set s1 5 30 0 0 10 (-1)) fun s2 => x_g (x_z a1) (x_let (x_set s2 5 30 0 0 11 a1) fun s3 => x_let (x_set s3 5 30 0 0 12 0) fun s5 => BX6_reads_20 x_FU s5)
def fX6_faultPosition (σ : xS) : Option (Int32 × xS) :=
  x_b (fX6_reads 0 σ) fun z1 s1 => if 0 ≤ (s1 5 30 0 0 10) then (some ((s1 5 30 0 0 10), s1)) else (some ((-5), s1))
def fX6_run (σ : xS) : Option (Int32 × xS) :=
  x_b (fX6_reads 0 σ) fun z1 s1 => if (s1 5 30 0 0 10) < 0 then (x_b (fX6_reads 1 s1) fun z2 s2 => some ((s2 5 30 0 0 12), s2)) else (some (((-1000) - (s1 5 30 0 0 10)), s1))
def BX6_save_13 (a1 : Int32) : Nat → Int32 → xS → Option (Int32 × xS)
  | 0, _, _ => none
  | n + 1, a2, σ => if 6464 ≤ a2 then (x_g (x_in a1 2) (x_let (x_set σ 5 34 0 0 a1.toNatClampNeg 1) fun s3 => some ((s3 5 31 0 0 3), s3))) else (x_g (x_in a2 6464) (x_let ((6464 * a1) + a2) fun t5 => x_g (x_in t5 12928) (x_let (x_set σ 5 33 0 0 t5.toNatClampNeg (σ 5 31 0 0 a2.toNatClampNeg)) fun s7 => x_let (a2 + 1) fun t8 => (BX6_save_13 a1 n) t8 s7)))
def fX6_save (a1 : Int32) (σ : xS) : Option (Int32 × xS) :=
  x_b (fX6_in a1 0 1 σ) fun z1 s1 => if z1 = 0 then (some ((-1), s1)) else (BX6_save_13 a1 x_FU 0 s1)
def BX6_restore_25 (a1 : Int32) : Nat → Int32 → xS → Option (Int32 × xS)
  | 0, _, _ => none
  | n + 1, a2, σ => if 6464 ≤ a2 then (some ((σ 5 31 0 0 3), σ)) else (x_let ((6464 * a1) + a2) fun t3 => x_g (x_in t3 12928) (x_g (x_in a2 6464) (x_let (x_set σ 5 31 0 0 a2.toNatClampNeg (σ 5 33 0 0 t3.toNatClampNeg)) fun s6 => x_let (a2 + 1) fun t7 => (BX6_restore_25 a1 n) t7 s6)))
def fX6_restore (a1 : Int32) (σ : xS) : Option (Int32 × xS) :=
  x_b (fX6_in a1 0 1 σ) fun z1 s1 => if z1 = 0 then (some ((-1), s1)) else (x_g (x_in a1 2) (if (s1 5 34 0 0 a1.toNatClampNeg) = 0 then (some ((-5), s1)) else (BX6_restore_25 a1 x_FU 0 s1)))
def fX6_sumOf (g1 : Int64) (a3 : Int32) (σ : xS) : Option (Int64 × xS) :=
  some (((31 * g1) + a3.toInt64), σ)
def BX6_sumOfQueue_155 (a3 : Int32) (a6 : Int32) (a7 : Int32) (k104 : Int64 → Int32 → xS → Option (Int64 × xS)) : Nat → Int64 → Int32 → xS → Option (Int64 × xS)
  | 0, _, _, _ => none
  | n + 1, g4, a8, σ => x_b (fX6_packet a7 2 σ) fun z21 s21 => x_g (x_in z21 6464) (if (s21 5 31 0 0 z21.toNatClampNeg) ≤ a8 then (x_let (a6 + 1) fun t23 => k104 g4 t23 s21) else (x_b (fX6_packet a7 (4 + a8) s21) fun z24 s24 => x_g (x_in z24 6464) (x_b (fX6_sumOf g4 (s24 5 31 0 0 z24.toNatClampNeg) s24) fun z26 s26 => x_let (a8 + 1) fun t27 => (BX6_sumOfQueue_155 a3 a6 a7 k104 n) z26 t27 s26)))
def BX6_sumOfQueue_104 (a3 : Int32) : Nat → Int64 → Int32 → xS → Option (Int64 × xS)
  | 0, _, _, _ => none
  | n + 1, g4, a6, σ => x_b (fX6_queue a3 12 σ) fun z13 s13 => x_g (x_in z13 6464) (if (s13 5 31 0 0 z13.toNatClampNeg) ≤ a6 then (some (g4, s13)) else (x_b (fX6_entry a3 a6 s13) fun z15 s15 => x_g (x_in z15 6464) (x_let (s15 5 31 0 0 z15.toNatClampNeg) fun t17 => x_b (fX6_packet t17 0 s15) fun z18 s18 => x_g (x_in z18 6464) (x_b (fX6_sumOf g4 (s18 5 31 0 0 z18.toNatClampNeg) s18) fun z20 s20 => BX6_sumOfQueue_155 a3 a6 t17 (BX6_sumOfQueue_104 a3 n) x_FU z20 0 s20))))
def BX6_sumOfQueue_7 (a3 : Int32) : Nat → Int64 → Int32 → xS → Option (Int64 × xS)
  | 0, _, _, _ => none
  | n + 1, g4, a6, σ => if 8 < a6 then (x_b (fX6_queue a3 3 σ) fun z1 s1 => x_g (x_in z1 6464) (x_b (fX6_sumOf g4 (s1 5 31 0 0 z1.toNatClampNeg) s1) fun z3 s3 => x_b (fX6_queue a3 10 s3) fun z4 s4 => x_g (x_in z4 6464) (x_b (fX6_sumOf z3 (s4 5 31 0 0 z4.toNatClampNeg) s4) fun z6 s6 => x_b (fX6_queue a3 5 s6) fun z7 s7 => x_g (x_in z7 6464) (x_b (fX6_sumOf z6 (s7 5 31 0 0 z7.toNatClampNeg) s7) fun z9 s9 => x_b (fX6_queue a3 12 s9) fun z10 s10 => x_g (x_in z10 6464) (x_b (fX6_sumOf z9 (s10 5 31 0 0 z10.toNatClampNeg) s10) fun z12 s12 => BX6_sumOfQueue_104 a3 x_FU z12 0 s12))))) else (x_b (fX6_queue a3 a6 σ) fun z28 s28 => x_g (x_in z28 6464) (x_b (fX6_sumOf g4 (s28 5 31 0 0 z28.toNatClampNeg) s28) fun z30 s30 => x_let (a6 + 1) fun t31 => (BX6_sumOfQueue_7 a3 n) z30 t31 s30))
def fX6_sumOfQueue (g1 : Int64) (a3 : Int32) (σ : xS) : Option (Int64 × xS) :=
  BX6_sumOfQueue_7 a3 x_FU g1 6 σ
def BX6_checksum_162 : Nat → Int64 → Int32 → xS → Option (Int64 × xS)
  | 0, _, _, _ => none
  | n + 1, g1, a3, σ => if (σ 5 31 0 0 0) ≤ a3 then (some (g1, σ)) else (x_b (fX6_runAt a3 σ) fun z7 s7 => if z7 ≤ 0 then (x_let (a3 + 1) fun t8 => (BX6_checksum_162 n) g1 t8 s7) else (x_b (fX6_sumOf g1 a3 s7) fun z9 s9 => x_b (fX6_sumOf z9 z7 s9) fun z10 s10 => x_let (a3 + 1) fun t11 => (BX6_checksum_162 n) z10 t11 s10))
def BX6_checksum_130 (a3 : Int32) (k44 : Int64 → Int32 → xS → Option (Int64 × xS)) : Nat → Int64 → Int32 → xS → Option (Int64 × xS)
  | 0, _, _, _ => none
  | n + 1, g1, a4, σ => if ((3 * a3) + 3) ≤ a4 then (x_let (a3 + 1) fun t27 => k44 g1 t27 σ) else (x_b (fX6_sumOfQueue g1 a4 σ) fun z28 s28 => x_let (a4 + 1) fun t29 => (BX6_checksum_130 a3 k44 n) z28 t29 s28)
def BX6_checksum_44 : Nat → Int64 → Int32 → xS → Option (Int64 × xS)
  | 0, _, _, _ => none
  | n + 1, g1, a3, σ => if (σ 5 31 0 0 1) ≤ a3 then (BX6_checksum_162 x_FU g1 0 σ) else (x_b (fX6_freeOf a3 σ) fun z12 s12 => x_b (fX6_sumOf g1 z12 s12) fun z13 s13 => x_b (fX6_port a3 2 s13) fun z14 s14 => x_g (x_in z14 6464) (x_b (fX6_sumOf z13 (s14 5 31 0 0 z14.toNatClampNeg) s14) fun z16 s16 => x_b (fX6_port a3 4 s16) fun z17 s17 => x_g (x_in z17 6464) (x_b (fX6_sumOf z16 (s17 5 31 0 0 z17.toNatClampNeg) s17) fun z19 s19 => x_b (fX6_port a3 9 s19) fun z20 s20 => x_g (x_in z20 6464) (x_b (fX6_sumOf z19 (s20 5 31 0 0 z20.toNatClampNeg) s20) fun z22 s22 => x_b (fX6_port a3 10 s22) fun z23 s23 => x_g (x_in z23 6464) (x_b (fX6_sumOf z22 (s23 5 31 0 0 z23.toNatClampNeg) s23) fun z25 s25 => x_let (3 * a3) fun t26 => BX6_checksum_130 a3 (BX6_checksum_44 n) x_FU z25 t26 s25)))))
def fX6_checksum (σ : xS) : Option (Int64 × xS) :=
  x_b (fX6_sumOf 7 (σ 5 31 0 0 3) σ) fun z1 s1 => x_b (fX6_sumOf z1 (s1 5 31 0 0 4) s1) fun z2 s2 => x_b (fX6_free  s2) fun z3 s3 => x_b (fX6_sumOf z2 z3 s3) fun z4 s4 => x_b (fX6_pool  s4) fun z5 s5 => x_b (fX6_sumOf z4 z5 s5) fun z6 s6 => BX6_checksum_44 x_FU z6 0 s6
