def fX3_startAnew (d0 : Nat) (p0 : Nat) (r0 : Nat) (σ : xS) : Option (Unit × xS) :=
  x_let (x_set σ d0 16 p0 r0 1 8) fun s1 => x_let (x_set s1 d0 16 p0 r0 2 0) fun s2 => x_let (x_set s2 d0 16 p0 r0 3 0) fun s3 => x_let (x_set s3 d0 16 p0 r0 4 0) fun s4 => x_let (x_set s4 d0 16 p0 r0 5 4) fun s5 => x_let (x_set s5 d0 16 p0 r0 6 0) fun s6 => x_let (x_set s6 d0 16 p0 r0 7 0) fun s7 => x_let (x_set s7 d0 16 p0 r0 8 0) fun s8 => x_let (x_set s8 d0 16 p0 r0 9 0) fun s9 => x_let (x_set s9 d0 16 p0 r0 10 0) fun s10 => x_let (x_set s10 d0 16 p0 r0 11 0) fun s11 => x_let (x_set s11 d0 16 p0 r0 12 0) fun s12 => x_let (x_set s12 d0 16 p0 r0 13 (-1)) fun s13 => x_let (x_set s13 d0 16 p0 r0 14 (-1)) fun s14 => x_let (x_set s14 d0 16 p0 r0 15 0) fun s15 => some ((), s15)
def fX3_copyFrom (d0 : Nat) (p0 : Nat) (r0 : Nat) (d1 : Nat) (p1 : Nat) (r1 : Nat) (σ : xS) : Option (Unit × xS) :=
  x_let (x_set σ d0 16 p0 r0 1 (σ d1 16 p1 r1 1)) fun s1 => x_let (x_set s1 d0 16 p0 r0 2 (s1 d1 16 p1 r1 2)) fun s2 => x_let (x_set s2 d0 16 p0 r0 3 (s2 d1 16 p1 r1 3)) fun s3 => x_let (x_set s3 d0 16 p0 r0 4 (s3 d1 16 p1 r1 4)) fun s4 => x_let (x_set s4 d0 16 p0 r0 5 (s4 d1 16 p1 r1 5)) fun s5 => x_let (x_set s5 d0 16 p0 r0 6 (s5 d1 16 p1 r1 6)) fun s6 => x_g (x_z (s6 d1 16 p1 r1 7)) (x_let (x_set s6 d0 16 p0 r0 7 (s6 d1 16 p1 r1 7)) fun s7 => x_g (x_z (s7 d1 16 p1 r1 8)) (x_let (x_set s7 d0 16 p0 r0 8 (s7 d1 16 p1 r1 8)) fun s9 => x_let (x_set s9 d0 16 p0 r0 9 (s9 d1 16 p1 r1 9)) fun s11 => x_let (x_set s11 d0 16 p0 r0 10 (s11 d1 16 p1 r1 10)) fun s12 => x_let (x_set s12 d0 16 p0 r0 11 (s12 d1 16 p1 r1 11)) fun s13 => x_let (x_set s13 d0 16 p0 r0 12 (s13 d1 16 p1 r1 12)) fun s14 => x_let (x_set s14 d0 16 p0 r0 13 (s14 d1 16 p1 r1 13)) fun s15 => x_let (x_set s15 d0 16 p0 r0 14 (s15 d1 16 p1 r1 14)) fun s16 => x_let (x_set s16 d0 16 p0 r0 15 (s16 d1 16 p1 r1 15)) fun s17 => some ((), s17)))
def fX3_limitWith (d0 : Nat) (p0 : Nat) (r0 : Nat) (a1 : Int32) (σ : xS) : Option (Int32 × xS) :=
  some ((((σ d0 16 p0 r0 1) * a1) / 8), σ)
def fX3_poolRefusal (d0 : Nat) (p0 : Nat) (r0 : Nat) (a1 : Int32) (a2 : Int32) (σ : xS) : Option (Int32 × xS) :=
  if a1 ≤ a2 then (x_b (fX3_limitWith d0 p0 r0 a2 σ) fun z1 s1 => if (s1 d0 16 p0 r0 4) < (((σ d0 16 p0 r0 11) + a1) - z1) then (some (3, s1)) else (some (0, s1))) else (some (2, σ))
def fX3_addShared (d0 : Nat) (p0 : Nat) (r0 : Nat) (a1 : Int32) (a2 : Int32) (σ : xS) : Option (Unit × xS) :=
  x_b (fX3_limitWith d0 p0 r0 a2 σ) fun z1 s1 => x_let (x_set s1 d0 16 p0 r0 4 ((σ d0 16 p0 r0 4) - (i_max 0 (((σ d0 16 p0 r0 11) + a1) - z1)))) fun s2 => x_let (x_set s2 d0 16 p0 r0 11 ((s2 d0 16 p0 r0 11) + a1)) fun s3 => some ((), s3)
def fX3_pause (d0 : Nat) (p0 : Nat) (r0 : Nat) (σ : xS) : Option (Unit × xS) :=
  if (σ d0 16 p0 r0 8) = 0 then (x_let (x_set σ d0 16 p0 r0 8 1) fun s1 => x_let (x_set s1 d0 16 p0 r0 9 ((s1 d0 16 p0 r0 9) + 1)) fun s2 => some ((), s2)) else (some ((), σ))
def fX3_giveBack (d0 : Nat) (p0 : Nat) (r0 : Nat) (a1 : Int32) (σ : xS) : Option (Unit × xS) :=
  x_let (i_min a1 (σ d0 16 p0 r0 12)) fun t1 => x_let (x_set σ d0 16 p0 r0 12 ((σ d0 16 p0 r0 12) - t1)) fun s2 => x_let (a1 - t1) fun t3 => x_let (i_min t3 (s2 d0 16 p0 r0 11)) fun t4 => x_let (x_set s2 d0 16 p0 r0 11 ((s2 d0 16 p0 r0 11) - t4)) fun s5 => x_let (t3 - t4) fun t6 => x_let (x_set s5 d0 16 p0 r0 10 ((s5 d0 16 p0 r0 10) - t6)) fun s7 => some ((), s7)
def fX2_restartSending (d0 : Nat) (p0 : Nat) (σ : xS) : Option (Unit × xS) :=
  x_let (x_set σ d0 13 p0 0 7 0) fun s1 => x_let (x_set s1 d0 13 p0 0 8 0) fun s2 => x_let (x_set s2 d0 13 p0 0 9 1) fun s3 => some ((), s3)
def BX2_startAnew_33 (d0 : Nat) (p0 : Nat) : Nat → Int32 → xS → Option (Unit × xS)
  | 0, _, _ => none
  | n + 1, a1, σ => if 10 ≤ a1 then (x_let (x_set σ d0 13 p0 0 2 0) fun s1 => x_let (x_set s1 d0 13 p0 0 3 0) fun s2 => x_let (x_set s2 d0 13 p0 0 4 0) fun s3 => x_let (x_set s3 d0 13 p0 0 5 0) fun s4 => x_let (x_set s4 d0 13 p0 0 6 4) fun s5 => x_b (fX2_restartSending d0 p0 s5) fun z6 s6 => x_let (x_set s6 d0 13 p0 0 10 0) fun s7 => x_let (x_set s7 d0 13 p0 0 11 0) fun s8 => some ((), s8)) else (x_g (x_in a1 10) (x_let (x_set σ d0 15 p0 0 a1.toNatClampNeg 0) fun s10 => x_let (a1 + 1) fun t11 => (BX2_startAnew_33 d0 p0 n) t11 s10))
def BX2_startAnew_10 (d0 : Nat) (p0 : Nat) (d1 : Nat) (p1 : Nat) (a2 : Int32) : Nat → Int32 → xS → Option (Unit × xS)
  | 0, _, _ => none
  | n + 1, a3, σ => if a2 ≤ a3 then (BX2_startAnew_33 d0 p0 x_FU 0 σ) else (x_g (x_in a3 3) (x_b (fX3_startAnew d1 p1 (a3.toNatClampNeg) σ) fun z13 s13 => x_let (a3 + 1) fun t14 => (BX2_startAnew_10 d0 p0 d1 p1 a2 n) t14 s13))
def fX2_startAnew (d0 : Nat) (p0 : Nat) (σ : xS) : Option (Unit × xS) :=
  BX2_startAnew_10 d0 p0 d0 p0 3 x_FU 0 σ
def BX2_copyFrom_2 (d0 : Nat) (p0 : Nat) (d1 : Nat) (p1 : Nat) : Nat → Int32 → xS → Option (Unit × xS)
  | 0, _, _ => none
  | n + 1, a2, σ => if 3 ≤ a2 then (x_let (x_row σ d0 15 p0 0 (va_cpy (σ d1 15 p1 0) (σ d0 15 p0 0) 0 0 10)) fun s1 => x_let (x_set s1 d0 13 p0 0 2 (s1 d1 13 p1 0 2)) fun s2 => x_let (x_set s2 d0 13 p0 0 3 (s2 d1 13 p1 0 3)) fun s3 => x_let (x_set s3 d0 13 p0 0 4 (s3 d1 13 p1 0 4)) fun s4 => x_g (x_z (s4 d1 13 p1 0 5)) (x_let (x_set s4 d0 13 p0 0 5 (s4 d1 13 p1 0 5)) fun s5 => x_let (x_set s5 d0 13 p0 0 6 (s5 d1 13 p1 0 6)) fun s7 => x_let (x_set s7 d0 13 p0 0 7 (s7 d1 13 p1 0 7)) fun s8 => x_let (x_set s8 d0 13 p0 0 8 (s8 d1 13 p1 0 8)) fun s9 => x_g (x_z (s9 d1 13 p1 0 9)) (x_let (x_set s9 d0 13 p0 0 9 (s9 d1 13 p1 0 9)) fun s10 => x_let (x_set s10 d0 13 p0 0 10 (s10 d1 13 p1 0 10)) fun s12 => x_let (x_set s12 d0 13 p0 0 11 (s12 d1 13 p1 0 11)) fun s13 => some ((), s13)))) else (x_g (x_in a2 3) (x_g (x_in a2 3) (x_b (fX3_copyFrom d0 p0 (a2.toNatClampNeg) d1 p1 (a2.toNatClampNeg) σ) fun z16 s16 => x_let (a2 + 1) fun t17 => (BX2_copyFrom_2 d0 p0 d1 p1 n) t17 s16)))
def fX2_copyFrom (d0 : Nat) (p0 : Nat) (d1 : Nat) (p1 : Nat) (σ : xS) : Option (Unit × xS) :=
  BX2_copyFrom_2 d0 p0 d1 p1 x_FU 0 σ
def fX2_guaranteedInUse (d0 : Nat) (p0 : Nat) (σ : xS) : Option (Int32 × xS) :=
  some ((((σ d0 16 p0 0 10) + (σ d0 16 p0 1 10)) + (σ d0 16 p0 2 10)), σ)
def fX2_sharedInUse (d0 : Nat) (p0 : Nat) (σ : xS) : Option (Int32 × xS) :=
  some ((((σ d0 16 p0 0 11) + (σ d0 16 p0 1 11)) + (σ d0 16 p0 2 11)), σ)
def fX2_headroomInUse (d0 : Nat) (p0 : Nat) (σ : xS) : Option (Int32 × xS) :=
  some ((((σ d0 16 p0 0 12) + (σ d0 16 p0 1 12)) + (σ d0 16 p0 2 12)), σ)
def fX2_guaranteeLeft (d0 : Nat) (p0 : Nat) (σ : xS) : Option (Int32 × xS) :=
  x_b (fX2_guaranteedInUse d0 p0 σ) fun z1 s1 => some ((((σ d0 13 p0 0 2) + (σ d0 13 p0 0 4)) - z1), s1)
def fX2_isIdle (d0 : Nat) (p0 : Nat) (σ : xS) : Option (Int32 × xS) :=
  if (((σ d0 16 p0 0 15) + (σ d0 16 p0 1 15)) + (σ d0 16 p0 2 15)) = 0 then (some (1, σ)) else (some (0, σ))
def BX2_highestBusyQueue_10 (d1 : Nat) (p1 : Nat) (a2 : Int32) : Nat → Int32 → xS → Option (Option (Nat × Nat × Nat) × xS)
  | 0, _, _ => none
  | n + 1, a3, σ => if a2 ≤ a3 then (some (none, σ)) else (x_g (x_in a3 3) (if (σ d1 16 p1 (a3.toNatClampNeg) 15) ≤ 0 then (x_let (a3 + 1) fun t2 => (BX2_highestBusyQueue_10 d1 p1 a2 n) t2 σ) else (some ((some (d1, p1, (a3.toNatClampNeg))), σ))))
def fX2_highestBusyQueue (d0 : Nat) (p0 : Nat) (σ : xS) : Option (Option (Nat × Nat × Nat) × xS) :=
  BX2_highestBusyQueue_10 d0 p0 3 x_FU 0 σ
def fX2_queueAtTurn (d0 : Nat) (p0 : Nat) (σ : xS) : Option (Option (Nat × Nat × Nat) × xS) :=
  if (σ d0 13 p0 0 8) < 0 then (some (none, σ)) else (if 3 ≤ (σ d0 13 p0 0 8) then (some (none, σ)) else (x_let (σ d0 13 p0 0 8) fun t1 => x_g (x_in t1 3) (some ((some (d0, p0, (t1.toNatClampNeg))), σ))))
def fX2_passTurn (d0 : Nat) (p0 : Nat) (σ : xS) : Option (Unit × xS) :=
  if 2 ≤ (σ d0 13 p0 0 8) then (x_let (x_set σ d0 13 p0 0 8 0) fun s1 => x_let (x_set s1 d0 13 p0 0 9 1) fun s2 => some ((), s2)) else (x_let (x_set σ d0 13 p0 0 8 ((σ d0 13 p0 0 8) + 1)) fun s3 => x_let (x_set s3 d0 13 p0 0 9 1) fun s4 => some ((), s4))
def BX2_shareBeyondGuarantee_8 (d0 : Nat) (p0 : Nat) : Nat → Int32 → Int32 → xS → Option (Unit × xS)
  | 0, _, _, _ => none
  | n + 1, a1, a2, σ => if a2 < 0 then (some ((), σ)) else (if a1 ≤ 0 then (some ((), σ)) else (x_g (x_in a2 3) (x_let (i_min a1 (σ d0 16 p0 (a2.toNatClampNeg) 10)) fun t4 => x_let (x_set σ d0 16 p0 (a2.toNatClampNeg) 10 ((σ d0 16 p0 (a2.toNatClampNeg) 10) - t4)) fun s5 => x_let (x_set s5 d0 16 p0 (a2.toNatClampNeg) 11 ((s5 d0 16 p0 (a2.toNatClampNeg) 11) + t4)) fun s6 => x_let (a1 - t4) fun t7 => x_let (a2 + (-1)) fun t8 => (BX2_shareBeyondGuarantee_8 d0 p0 n) t7 t8 s6)))
def fX2_shareBeyondGuarantee (d0 : Nat) (p0 : Nat) (σ : xS) : Option (Unit × xS) :=
  x_b (fX2_guaranteeLeft d0 p0 σ) fun z1 s1 => x_let (-z1) fun t2 => BX2_shareBeyondGuarantee_8 d0 p0 x_FU t2 2 s1
def fX2_countLoss (d0 : Nat) (p0 : Nat) (a1 : Int32) (a2 : Int32) (σ : xS) : Option (Unit × xS) :=
  if a1 < 0 then (x_let (x_set σ d0 13 p0 0 10 ((σ d0 13 p0 0 10) + a2)) fun s1 => some ((), s1)) else (if 10 ≤ a1 then (x_let (x_set σ d0 13 p0 0 10 ((σ d0 13 p0 0 10) + a2)) fun s2 => some ((), s2)) else (x_g (x_in a1 10) (x_g (x_in a1 10) (x_let (x_set σ d0 15 p0 0 a1.toNatClampNeg ((σ d0 15 p0 0 a1.toNatClampNeg) + 1)) fun s5 => x_let (x_set s5 d0 13 p0 0 10 ((s5 d0 13 p0 0 10) + a2)) fun s6 => some ((), s6)))))
def BX1_startAnew_7 (d0 : Nat) : Nat → Int32 → xS → Option (Unit × xS)
  | 0, _, _ => none
  | n + 1, a2, σ => if 128 ≤ a2 then (some ((), σ)) else (x_g (x_in a2 128) (x_let (x_set σ d0 2 0 0 a2.toNatClampNeg 0) fun s3 => x_g (x_in a2 128) (x_let (x_set s3 d0 5 0 0 a2.toNatClampNeg (-1)) fun s5 => x_let (a2 + 1) fun t6 => (BX1_startAnew_7 d0 n) t6 s5)))
def fX1_startAnew (d0 : Nat) (a1 : Int32) (σ : xS) : Option (Unit × xS) :=
  x_let (x_set σ d0 1 0 0 0 a1) fun s1 => BX1_startAnew_7 d0 x_FU 0 s1
def BX1_copyFrom_10 (d0 : Nat) (d1 : Nat) : Nat → Int32 → xS → Option (Unit × xS)
  | 0, _, _ => none
  | n + 1, a2, σ => if 128 ≤ a2 then (x_let (x_row σ d0 3 0 0 (va_cpy (σ d1 3 0 0) (σ d0 3 0 0) 0 0 128)) fun s2 => x_let (x_row s2 d0 4 0 0 (va_cpy (s2 d1 4 0 0) (s2 d0 4 0 0) 0 0 128)) fun s3 => x_let (x_row s3 d0 5 0 0 (va_cpy (s3 d1 5 0 0) (s3 d0 5 0 0) 0 0 128)) fun s4 => x_let (x_row s4 d0 6 0 0 (va_cpy (s4 d1 6 0 0) (s4 d0 6 0 0) 0 0 128)) fun s5 => x_let (x_row s5 d0 7 0 0 (va_cpy (s5 d1 7 0 0) (s5 d0 7 0 0) 0 0 128)) fun s6 => x_let (x_row s6 d0 8 0 0 (va_cpy (s6 d1 8 0 0) (s6 d0 8 0 0) 0 0 128)) fun s7 => x_let (x_row s7 d0 9 0 0 (va_cpy (s7 d1 9 0 0) (s7 d0 9 0 0) 0 0 128)) fun s8 => some ((), s8)) else (x_g (x_in a2 128) (x_g (x_in a2 128) (x_g (x_z (σ d1 2 0 0 a2.toNatClampNeg)) (x_let (x_set σ d0 2 0 0 a2.toNatClampNeg (σ d1 2 0 0 a2.toNatClampNeg)) fun s12 => x_let (a2 + 1) fun t13 => (BX1_copyFrom_10 d0 d1 n) t13 s12))))
def fX1_copyFrom (d0 : Nat) (d1 : Nat) (σ : xS) : Option (Unit × xS) :=
  x_let (x_set σ d0 1 0 0 0 (σ d1 1 0 0 0)) fun s1 => BX1_copyFrom_10 d0 d1 x_FU 0 s1
def fX1_isCell (d0 : Nat) (a1 : Int32) (σ : xS) : Option (Int32 × xS) :=
  if a1 < 0 then (some (0, σ)) else (if 128 ≤ a1 then (some (0, σ)) else (some (1, σ)))
def fX1_numberOf (d0 : Nat) (a1 : Int32) (σ : xS) : Option (Int32 × xS) :=
  x_b (fX1_isCell d0 a1 σ) fun z1 s1 => if z1 = 0 then (some ((-1), s1)) else (x_g (x_in a1 128) (some ((s1 d0 5 0 0 a1.toNatClampNeg), s1)))
def fX1_sizeOf (d0 : Nat) (a1 : Int32) (σ : xS) : Option (Int32 × xS) :=
  x_b (fX1_isCell d0 a1 σ) fun z1 s1 => if z1 = 0 then (some (0, s1)) else (x_g (x_in a1 128) (some ((s1 d0 6 0 0 a1.toNatClampNeg), s1)))
def fX1_partsOf (d0 : Nat) (a1 : Int32) (σ : xS) : Option (Int32 × xS) :=
  x_b (fX1_isCell d0 a1 σ) fun z1 s1 => if z1 = 0 then (some (0, s1)) else (x_g (x_in a1 128) (some ((s1 d0 7 0 0 a1.toNatClampNeg), s1)))
def fX1_packetAhead (d0 : Nat) (a1 : Int32) (σ : xS) : Option (Int32 × xS) :=
  x_b (fX1_isCell d0 a1 σ) fun z1 s1 => if z1 = 0 then (some ((-1), s1)) else (x_g (x_in a1 128) (some ((s1 d0 8 0 0 a1.toNatClampNeg), s1)))
def fX1_packetBehind (d0 : Nat) (a1 : Int32) (σ : xS) : Option (Int32 × xS) :=
  x_b (fX1_isCell d0 a1 σ) fun z1 s1 => if z1 = 0 then (some ((-1), s1)) else (x_g (x_in a1 128) (some ((s1 d0 9 0 0 a1.toNatClampNeg), s1)))
def fX1_partBehind (d0 : Nat) (a1 : Int32) (σ : xS) : Option (Int32 × xS) :=
  x_b (fX1_isCell d0 a1 σ) fun z1 s1 => if z1 = 0 then (some ((-1), s1)) else (x_g (x_in a1 128) (some ((s1 d0 4 0 0 a1.toNatClampNeg), s1)))
def BX1_find_8 (d0 : Nat) (a1 : Int32) : Nat → Int32 → xS → Option (Int32 × xS)
  | 0, _, _ => none
  | n + 1, a2, σ => if (σ d0 1 0 0 0) ≤ a2 then (some ((-1), σ)) else (x_g (x_in a2 128) (if (σ d0 5 0 0 a2.toNatClampNeg) = a1 then (some (a2, σ)) else (x_let (a2 + 1) fun t2 => (BX1_find_8 d0 a1 n) t2 σ)))
def fX1_find (d0 : Nat) (a1 : Int32) (σ : xS) : Option (Int32 × xS) :=
  if 0 ≤ a1 then (BX1_find_8 d0 a1 x_FU 0 σ) else (some ((-1), σ))
def BX1_partStart_20 (d0 : Nat) (a2 : Int32) : Nat → Int32 → Int32 → xS → Option (Int32 × xS)
  | 0, _, _, _ => none
  | n + 1, a3, a4, σ => if a2 ≤ a4 then (x_b (fX1_isCell d0 a3 σ) fun z2 s2 => if z2 = 0 then (some ((-1), s2)) else (some (a3, s2))) else (x_b (fX1_partBehind d0 a3 σ) fun z3 s3 => x_let (a4 + 1) fun t4 => (BX1_partStart_20 d0 a2 n) z3 t4 s3)
def fX1_partStart (d0 : Nat) (a1 : Int32) (a2 : Int32) (σ : xS) : Option (Int32 × xS) :=
  if a2 < 0 then (some ((-1), σ)) else (x_b (fX1_partsOf d0 a1 σ) fun z1 s1 => if a2 < z1 then (BX1_partStart_20 d0 a2 x_FU a1 0 s1) else (some ((-1), s1)))
def fX1_startsRun (d0 : Nat) (a1 : Int32) (σ : xS) : Option (Int32 × xS) :=
  if a1 < 0 then (some (0, σ)) else (if (σ d0 1 0 0 0) ≤ a1 then (some (0, σ)) else (x_g (x_in a1 128) (if (σ d0 2 0 0 a1.toNatClampNeg) = 0 then (if a1 = 0 then (some (1, σ)) else (x_let (a1 - 1) fun t2 => x_g (x_in t2 128) (if (σ d0 2 0 0 t2.toNatClampNeg) = 0 then (some (0, σ)) else (some (1, σ))))) else (some (0, σ)))))
def BX1_freeLength_8 (d0 : Nat) : Nat → Int32 → Int32 → xS → Option (Int32 × xS)
  | 0, _, _, _ => none
  | n + 1, a2, a3, σ => if (σ d0 1 0 0 0) ≤ a3 then (some (a2, σ)) else (x_g (x_in a3 128) (if (σ d0 2 0 0 a3.toNatClampNeg) = 0 then (x_let (a2 + 1) fun t3 => x_let (a3 + 1) fun t4 => (BX1_freeLength_8 d0 n) t3 t4 σ) else (some (a2, σ))))
def fX1_freeLength (d0 : Nat) (a1 : Int32) (σ : xS) : Option (Int32 × xS) :=
  x_let (i_max 0 a1) fun t1 => BX1_freeLength_8 d0 x_FU 0 t1 σ
def BX1_countRuns_4 (d0 : Nat) : Nat → Int32 → Int32 → xS → Option (Int32 × xS)
  | 0, _, _, _ => none
  | n + 1, a1, a2, σ => if (σ d0 1 0 0 0) ≤ a2 then (some (a1, σ)) else (x_b (fX1_startsRun d0 a2 σ) fun z1 s1 => if z1 = 0 then (x_let (a2 + 1) fun t2 => (BX1_countRuns_4 d0 n) a1 t2 s1) else (x_let (a1 + 1) fun t3 => x_let (a2 + 1) fun t4 => (BX1_countRuns_4 d0 n) t3 t4 s1))
def fX1_countRuns (d0 : Nat) (σ : xS) : Option (Int32 × xS) :=
  BX1_countRuns_4 d0 x_FU 0 0 σ
def BX1_findRun_4 (d0 : Nat) (a1 : Int32) : Nat → Int32 → Int32 → xS → Option (Int32 × xS)
  | 0, _, _, _ => none
  | n + 1, a2, a3, σ => if (σ d0 1 0 0 0) ≤ a3 then (some ((-1), σ)) else (x_b (fX1_startsRun d0 a3 σ) fun z1 s1 => if z1 = 0 then (x_let (a3 + 1) fun t2 => (BX1_findRun_4 d0 a1 n) a2 t2 s1) else (if a2 = a1 then (some (a3, s1)) else (x_let (a2 + 1) fun t3 => x_let (a3 + 1) fun t4 => (BX1_findRun_4 d0 a1 n) t3 t4 s1)))
def fX1_findRun (d0 : Nat) (a1 : Int32) (σ : xS) : Option (Int32 × xS) :=
  BX1_findRun_4 d0 a1 x_FU 0 0 σ
def fX1_suitsBetter (a0 : Int32) (a1 : Int32) (a2 : Int32) (σ : xS) : Option (Int32 × xS) :=
  if a1 < a2 then (if a0 ≤ a1 then (some (0, σ)) else (some (1, σ))) else (if a0 < a2 then (some (0, σ)) else (if a1 ≤ a0 then (some (0, σ)) else (some (1, σ))))
def BX1_chooseRun_7 (d0 : Nat) (a1 : Int32) : Nat → Int32 → Int32 → Int32 → xS → Option (Int32 × xS)
  | 0, _, _, _, _ => none
  | n + 1, a2, a3, a4, σ => if (σ d0 1 0 0 0) ≤ a4 then (some (a2, σ)) else (x_b (fX1_startsRun d0 a4 σ) fun z1 s1 => if z1 = 0 then (x_let (a4 + 1) fun t2 => (BX1_chooseRun_7 d0 a1 n) a2 a3 t2 s1) else (x_b (fX1_freeLength d0 a4 s1) fun z3 s3 => x_b (fX1_suitsBetter z3 a3 a1 s3) fun z4 s4 => if z4 = 0 then (x_let (a4 + 1) fun t5 => (BX1_chooseRun_7 d0 a1 n) a2 a3 t5 s4) else (x_let (a4 + 1) fun t6 => (BX1_chooseRun_7 d0 a1 n) a4 z3 t6 s4)))
def fX1_chooseRun (d0 : Nat) (a1 : Int32) (σ : xS) : Option (Int32 × xS) :=
  BX1_chooseRun_7 d0 a1 x_FU (-1) 0 0 σ
def BX1_occupy_2 (d0 : Nat) (a1 : Int32) (a2 : Int32) : Nat → Int32 → xS → Option (Unit × xS)
  | 0, _, _ => none
  | n + 1, a3, σ => if (a1 + a2) ≤ a3 then (x_g (x_in a1 128) (x_let (x_set σ d0 3 0 0 a1.toNatClampNeg a2) fun s2 => x_g (x_in a1 128) (x_let (x_set s2 d0 4 0 0 a1.toNatClampNeg (-1)) fun s4 => some ((), s4)))) else (if 128 ≤ a3 then (x_g (x_in a1 128) (x_let (x_set σ d0 3 0 0 a1.toNatClampNeg a2) fun s6 => x_g (x_in a1 128) (x_let (x_set s6 d0 4 0 0 a1.toNatClampNeg (-1)) fun s8 => some ((), s8)))) else (x_g (x_in a3 128) (x_let (x_set σ d0 2 0 0 a3.toNatClampNeg 1) fun s10 => x_let (a3 + 1) fun t11 => (BX1_occupy_2 d0 a1 a2 n) t11 s10)))
def fX1_occupy (d0 : Nat) (a1 : Int32) (a2 : Int32) (σ : xS) : Option (Unit × xS) :=
  BX1_occupy_2 d0 a1 a2 x_FU a1 σ
def BX1_place_111 (d0 : Nat) (a1 : Int32) (a2 : Int32) (a3 : Int32) (a6 : Int32) (σ : xS) : Option (Int32 × xS) :=
  x_b (fX1_isCell d0 a3 σ) fun z1 s1 => if z1 = 0 then (some (a3, s1)) else (x_g (x_in a3 128) (x_let (x_set s1 d0 5 0 0 a3.toNatClampNeg a1) fun s3 => x_g (x_in a3 128) (x_let (x_set s3 d0 6 0 0 a3.toNatClampNeg a2) fun s5 => x_g (x_in a3 128) (x_let (x_set s5 d0 7 0 0 a3.toNatClampNeg a6) fun s7 => some (a3, s7)))))
def BX1_place_14 (d0 : Nat) (a1 : Int32) (a2 : Int32) : Nat → Int32 → Int32 → Int32 → Int32 → Int32 → xS → Option (Int32 × xS)
  | 0, _, _, _, _, _, _ => none
  | n + 1, a3, a4, a5, a6, a7, σ => if 12 ≤ a7 then (BX1_place_111 d0 a1 a2 a3 a6 σ) else (if a5 ≤ 0 then (BX1_place_111 d0 a1 a2 a3 a6 σ) else (x_b (fX1_chooseRun d0 a5 σ) fun z8 s8 => x_b (fX1_isCell d0 z8 s8) fun z9 s9 => if z9 = 0 then (BX1_place_111 d0 a1 a2 a3 a6 s9) else (x_b (fX1_freeLength d0 z8 s9) fun z10 s10 => x_let (i_min a5 z10) fun t11 => x_b (fX1_occupy d0 z8 t11 s10) fun z12 s12 => x_b (fX1_isCell d0 a4 s12) fun z13 s13 => if z13 = 0 then (x_let (a5 - t11) fun t14 => x_let (a6 + 1) fun t15 => x_let (a7 + 1) fun t16 => (BX1_place_14 d0 a1 a2 n) z8 z8 t14 t15 t16 s13) else (x_g (x_in a4 128) (x_let (x_set s13 d0 4 0 0 a4.toNatClampNeg z8) fun s18 => x_let (a5 - t11) fun t19 => x_let (a6 + 1) fun t20 => x_let (a7 + 1) fun t21 => (BX1_place_14 d0 a1 a2 n) a3 z8 t19 t20 t21 s18)))))
def fX1_place (d0 : Nat) (a1 : Int32) (a2 : Int32) (σ : xS) : Option (Int32 × xS) :=
  BX1_place_14 d0 a1 a2 x_FU (-1) (-1) a2 0 0 σ
def BX1_release_37 (d0 : Nat) (a1 : Int32) (a2 : Int32) (a3 : Int32) (a4 : Int32) (k4 : Int32 → Int32 → xS → Option (Unit × xS)) : Nat → Int32 → xS → Option (Unit × xS)
  | 0, _, _ => none
  | n + 1, a5, σ => if a4 ≤ a5 then (x_g (x_in a2 128) (x_let (σ d0 4 0 0 a2.toNatClampNeg) fun t11 => x_let (a3 + 1) fun t12 => k4 t11 t12 σ)) else (x_g (x_in a5 128) (x_let (x_set σ d0 2 0 0 a5.toNatClampNeg 0) fun s14 => x_let (a5 + 1) fun t15 => (BX1_release_37 d0 a1 a2 a3 a4 k4 n) t15 s14))
def BX1_release_4 (d0 : Nat) (a1 : Int32) : Nat → Int32 → Int32 → xS → Option (Unit × xS)
  | 0, _, _, _ => none
  | n + 1, a2, a3, σ => if 12 ≤ a3 then (x_b (fX1_isCell d0 a1 σ) fun z1 s1 => if z1 = 0 then (some ((), s1)) else (x_g (x_in a1 128) (x_let (x_set s1 d0 5 0 0 a1.toNatClampNeg (-1)) fun s3 => some ((), s3)))) else (x_b (fX1_isCell d0 a2 σ) fun z4 s4 => if z4 = 0 then (x_b (fX1_isCell d0 a1 s4) fun z5 s5 => if z5 = 0 then (some ((), s5)) else (x_g (x_in a1 128) (x_let (x_set s5 d0 5 0 0 a1.toNatClampNeg (-1)) fun s7 => some ((), s7)))) else (x_g (x_in a2 128) (x_let (i_min 128 (a2 + (s4 d0 3 0 0 a2.toNatClampNeg))) fun t9 => BX1_release_37 d0 a1 a2 a3 t9 (BX1_release_4 d0 a1 n) x_FU a2 s4)))
def fX1_release (d0 : Nat) (a1 : Int32) (σ : xS) : Option (Unit × xS) :=
  BX1_release_4 d0 a1 x_FU a1 0 σ
def fX1_joinQueue (d0 : Nat) (d1 : Nat) (p1 : Nat) (r1 : Nat) (a2 : Int32) (σ : xS) : Option (Unit × xS) :=
  x_b (fX1_isCell d0 a2 σ) fun z1 s1 => if z1 = 0 then (some ((), s1)) else (x_g (x_in a2 128) (x_let (x_set s1 d0 8 0 0 a2.toNatClampNeg (s1 d1 16 p1 r1 14)) fun s3 => x_g (x_in a2 128) (x_let (x_set s3 d0 9 0 0 a2.toNatClampNeg (-1)) fun s5 => x_b (fX1_isCell d0 (s5 d1 16 p1 r1 14) s5) fun z6 s6 => if z6 = 0 then (x_let (x_set s6 d1 16 p1 r1 13 a2) fun s7 => x_let (x_set s7 d1 16 p1 r1 14 a2) fun s8 => x_let (x_set s8 d1 16 p1 r1 15 ((s8 d1 16 p1 r1 15) + 1)) fun s9 => some ((), s9)) else (x_let (s6 d1 16 p1 r1 14) fun t10 => x_g (x_in t10 128) (x_let (x_set s6 d0 9 0 0 t10.toNatClampNeg a2) fun s12 => x_let (x_set s12 d1 16 p1 r1 14 a2) fun s13 => x_let (x_set s13 d1 16 p1 r1 15 ((s13 d1 16 p1 r1 15) + 1)) fun s14 => some ((), s14))))))
def BX1_leaveQueue_49 (d0 : Nat) (d1 : Nat) (p1 : Nat) (r1 : Nat) (a3 : Int32) (a4 : Int32) (σ : xS) : Option (Unit × xS) :=
  x_b (fX1_isCell d0 a4 σ) fun z8 s8 => if z8 = 0 then (x_let (x_set s8 d1 16 p1 r1 14 a3) fun s9 => x_let (x_set s9 d1 16 p1 r1 15 ((s9 d1 16 p1 r1 15) - 1)) fun s10 => some ((), s10)) else (x_g (x_in a4 128) (x_let (x_set s8 d0 8 0 0 a4.toNatClampNeg a3) fun s12 => x_let (x_set s12 d1 16 p1 r1 15 ((s12 d1 16 p1 r1 15) - 1)) fun s13 => some ((), s13)))
def fX1_leaveQueue (d0 : Nat) (d1 : Nat) (p1 : Nat) (r1 : Nat) (a2 : Int32) (σ : xS) : Option (Unit × xS) :=
  x_b (fX1_isCell d0 a2 σ) fun z1 s1 => if z1 = 0 then (some ((), s1)) else (x_g (x_in a2 128) (x_let (s1 d0 8 0 0 a2.toNatClampNeg) fun t3 => x_g (x_in a2 128) (x_let (s1 d0 9 0 0 a2.toNatClampNeg) fun t5 => x_b (fX1_isCell d0 t3 s1) fun z6 s6 => if z6 = 0 then (x_let (x_set s6 d1 16 p1 r1 13 t5) fun s7 => BX1_leaveQueue_49 d0 d1 p1 r1 t3 t5 s7) else (x_g (x_in t3 128) (x_let (x_set s6 d0 9 0 0 t3.toNatClampNeg t5) fun s15 => BX1_leaveQueue_49 d0 d1 p1 r1 t3 t5 s15)))))
def fX4_rewind (σ : xS) : Option (Unit × xS) :=
  x_let (x_set σ 4 23 0 0 2 0) fun s1 => x_let (x_set s1 4 23 0 0 3 (-1)) fun s2 => some ((), s2)
def fX4_hasMore (σ : xS) : Option (Int32 × xS) :=
  if (σ 4 23 0 0 1) ≤ (σ 4 23 0 0 2) then (some (0, σ)) else (some (1, σ))
def fX4_letterHere (σ : xS) : Option (Int32 × xS) :=
  if (σ 4 23 0 0 2) < 0 then (some ((-1), σ)) else (if (σ 4 23 0 0 1) ≤ (σ 4 23 0 0 2) then (some ((-1), σ)) else (if 120 ≤ (σ 4 23 0 0 2) then (some ((-1), σ)) else (x_let (σ 4 23 0 0 2) fun t1 => x_g (x_in t1 120) (some ((σ 4 24 0 0 t1.toNatClampNeg), σ)))))
def fX4_readDigit (a1 : Int32) (σ : xS) : Option (Int32 × xS) :=
  x_b (fX4_letterHere  σ) fun z1 s1 => x_let (z1 - 48) fun t2 => if (s1 4 23 0 0 3) = (-1) then (if t2 < 0 then (x_let (x_set s1 4 23 0 0 3 (s1 4 23 0 0 2)) fun s3 => some (0, s3)) else (if t2 < a1 then (x_let (x_set s1 4 23 0 0 2 ((s1 4 23 0 0 2) + 1)) fun s4 => some (t2, s4)) else (x_let (x_set s1 4 23 0 0 3 (s1 4 23 0 0 2)) fun s5 => some (0, s5)))) else (some (0, s1))
def BX4_readNumber_87 (a1 : Int32) (a2 : Int32) (a3 : Int32) (a4 : Int32) (a5 : Int32) (σ : xS) : Option (Int32 × xS) :=
  if a4 = 48 then (x_let (x_set σ 4 23 0 0 3 a3) fun s3 => some (a5, s3)) else (if a5 < a1 then (x_let (x_set σ 4 23 0 0 3 a3) fun s4 => some (a5, s4)) else (if a5 ≤ a2 then (some (a5, σ)) else (x_let (x_set σ 4 23 0 0 3 a3) fun s5 => some (a5, s5))))
def BX4_readNumber_24 (a1 : Int32) (a2 : Int32) (a3 : Int32) (a4 : Int32) : Nat → Int32 → xS → Option (Int32 × xS)
  | 0, _, _ => none
  | n + 1, a5, σ => if (σ 4 23 0 0 1) ≤ (σ 4 23 0 0 2) then (BX4_readNumber_87 a1 a2 a3 a4 a5 σ) else (x_b (fX4_letterHere  σ) fun z6 s6 => if z6 < 48 then (BX4_readNumber_87 a1 a2 a3 a4 a5 s6) else (x_b (fX4_letterHere  s6) fun z7 s7 => if 57 < z7 then (BX4_readNumber_87 a1 a2 a3 a4 a5 s7) else (x_b (fX4_letterHere  s7) fun z8 s8 => x_let (i_min 999 (((a5 * 10) + z8) - 48)) fun t9 => x_let (x_set s8 4 23 0 0 2 ((s8 4 23 0 0 2) + 1)) fun s10 => (BX4_readNumber_24 a1 a2 a3 a4 n) t9 s10)))
def fX4_readNumber (a1 : Int32) (a2 : Int32) (σ : xS) : Option (Int32 × xS) :=
  if (σ 4 23 0 0 3) = (-1) then (x_let (σ 4 23 0 0 2) fun t1 => x_b (fX4_letterHere  σ) fun z2 s2 => BX4_readNumber_24 a1 a2 t1 z2 x_FU 0 s2) else (some (a1, σ))
def fX4_readCount (σ : xS) : Option (Unit × xS) :=
  if (σ 4 23 0 0 3) = (-1) then (x_b (fX4_letterHere  σ) fun z1 s1 => if z1 = 42 then (x_let (x_set s1 4 23 0 0 2 ((s1 4 23 0 0 2) + 1)) fun s2 => x_b (fX4_readNumber 2 9 s2) fun z3 s3 => x_let (x_set s3 4 23 0 0 8 z3) fun s4 => some ((), s4)) else (some ((), s1))) else (some ((), σ))
def fX4_expect (a1 : Int32) (σ : xS) : Option (Unit × xS) :=
  if (σ 4 23 0 0 3) = (-1) then (x_b (fX4_letterHere  σ) fun z1 s1 => if z1 = a1 then (x_let (x_set s1 4 23 0 0 2 ((s1 4 23 0 0 2) + 1)) fun s3 => some ((), s3)) else (x_let (x_set s1 4 23 0 0 3 (s1 4 23 0 0 2)) fun s2 => some ((), s2))) else (some ((), σ))
def fX4_readOrder (a1 : Int32) (σ : xS) : Option (Unit × xS) :=
  x_b (fX4_letterHere  σ) fun z1 s1 => x_let (x_set s1 4 23 0 0 4 z1) fun s2 => x_let (x_set s2 4 23 0 0 5 (-1)) fun s3 => x_let (x_set s3 4 23 0 0 8 1) fun s4 => x_let (s4 4 23 0 0 4) fun t5 => if t5 = 97 then (x_let (x_set s4 4 23 0 0 2 ((s4 4 23 0 0 2) + 1)) fun s6 => x_b (fX4_readDigit a1 s6) fun z7 s7 => x_let (x_set s7 4 23 0 0 5 z7) fun s8 => x_b (fX4_readDigit 3 s8) fun z9 s9 => x_let (x_set s9 4 23 0 0 6 z9) fun s10 => x_b (fX4_readNumber 1 12 s10) fun z11 s11 => x_let (x_set s11 4 23 0 0 7 z11) fun s12 => x_b (fX4_readCount  s12) fun z13 s13 => x_b (fX4_expect 59 s13) fun z14 s14 => some ((), s14)) else (if t5 = 102 then (x_let (x_set s4 4 23 0 0 2 ((s4 4 23 0 0 2) + 1)) fun s15 => x_b (fX4_readDigit a1 s15) fun z16 s16 => x_let (x_set s16 4 23 0 0 5 z16) fun s17 => x_b (fX4_expect 59 s17) fun z18 s18 => some ((), s18)) else (if t5 = 103 then (x_let (x_set s4 4 23 0 0 2 ((s4 4 23 0 0 2) + 1)) fun s19 => x_b (fX4_readDigit a1 s19) fun z20 s20 => x_let (x_set s20 4 23 0 0 5 z20) fun s21 => x_b (fX4_expect 44 s21) fun z22 s22 => x_b (fX4_readNumber 1 32 s22) fun z23 s23 => x_let (x_set s23 4 23 0 0 7 z23) fun s24 => x_b (fX4_expect 59 s24) fun z25 s25 => some ((), s25)) else (if t5 = 116 then (x_let (x_set s4 4 23 0 0 2 ((s4 4 23 0 0 2) + 1)) fun s26 => x_b (fX4_readNumber 1 20 s26) fun z27 s27 => x_let (x_set s27 4 23 0 0 7 z27) fun s28 => x_b (fX4_expect 59 s28) fun z29 s29 => some ((), s29)) else (x_let (x_set s4 4 23 0 0 3 (s4 4 23 0 0 2)) fun s30 => x_b (fX4_expect 59 s30) fun z31 s31 => some ((), s31)))))
def BX4_findFault_6 (a1 : Int32) : Nat → Int32 → xS → Option (Int32 × xS)
  | 0, _, _ => none
  | n + 1, a2, σ => if 120 ≤ a2 then (some ((σ 4 23 0 0 3), σ)) else (if (σ 4 23 0 0 1) ≤ (σ 4 23 0 0 2) then (some ((σ 4 23 0 0 3), σ)) else (if (σ 4 23 0 0 3) = (-1) then (x_b (fX4_readOrder a1 σ) fun z2 s2 => x_let (a2 + 1) fun t3 => (BX4_findFault_6 a1 n) t3 s2) else (some ((σ 4 23 0 0 3), σ))))
def fX4_findFault (a1 : Int32) (σ : xS) : Option (Int32 × xS) :=
  x_b (fX4_rewind  σ) fun z1 s1 => BX4_findFault_6 a1 x_FU 0 s1
def BX0_startAnew_20 (d0 : Nat) (a2 : Int32) (d3 : Nat) (a4 : Int32) : Nat → Int32 → xS → Option (Unit × xS)
  | 0, _, _ => none
  | n + 1, a5, σ => if a4 ≤ a5 then (x_let (x_set σ d0 0 0 0 2 a2) fun s2 => x_let (x_set s2 d0 0 0 0 3 0) fun s3 => x_let (x_set s3 d0 0 0 0 4 0) fun s4 => x_let (x_set s4 d0 0 0 0 5 0) fun s5 => x_let (x_set s5 d0 0 0 0 6 (-1)) fun s6 => x_let (x_set s6 d0 0 0 0 7 (-1)) fun s7 => x_let (x_set s7 d0 0 0 0 9 0) fun s8 => some ((), s8)) else (x_g (x_in a5 6) (x_b (fX2_startAnew d3 (a5.toNatClampNeg) σ) fun z10 s10 => x_let (a5 + 1) fun t11 => (BX0_startAnew_20 d0 a2 d3 a4 n) t11 s10))
def fX0_startAnew (d0 : Nat) (a1 : Int32) (a2 : Int32) (σ : xS) : Option (Unit × xS) :=
  x_b (fX1_startAnew d0 a1 σ) fun z1 s1 => BX0_startAnew_20 d0 a2 d0 6 x_FU 0 s1
def BX0_copyFrom_13 (d0 : Nat) (d1 : Nat) : Nat → Int32 → xS → Option (Unit × xS)
  | 0, _, _ => none
  | n + 1, a2, σ => if 6 ≤ a2 then (x_let (x_set σ d0 0 0 0 2 (σ d1 0 0 0 2)) fun s2 => x_g (x_z (s2 d1 0 0 0 3)) (x_let (x_set s2 d0 0 0 0 3 (s2 d1 0 0 0 3)) fun s3 => x_let (x_set s3 d0 0 0 0 4 (s3 d1 0 0 0 4)) fun s5 => x_let (x_set s5 d0 0 0 0 5 (s5 d1 0 0 0 5)) fun s6 => x_let (x_set s6 d0 0 0 0 6 (s6 d1 0 0 0 6)) fun s7 => x_let (x_set s7 d0 0 0 0 7 (s7 d1 0 0 0 7)) fun s8 => x_let (x_row s8 d0 11 0 0 (va_cpy (s8 d1 11 0 0) (s8 d0 11 0 0) 0 0 4)) fun s9 => x_g (x_z (s9 d1 0 0 0 9)) (x_let (x_set s9 d0 0 0 0 9 (s9 d1 0 0 0 9)) fun s10 => some ((), s10)))) else (x_g (x_in a2 6) (x_g (x_in a2 6) (x_b (fX2_copyFrom d0 (a2.toNatClampNeg) d1 (a2.toNatClampNeg) σ) fun z14 s14 => x_let (a2 + 1) fun t15 => (BX0_copyFrom_13 d0 d1 n) t15 s14)))
def fX0_copyFrom (d0 : Nat) (d1 : Nat) (σ : xS) : Option (Unit × xS) :=
  x_b (fX1_copyFrom d0 d1 σ) fun z1 s1 => BX0_copyFrom_13 d0 d1 x_FU 0 s1
def fX0_portAt (d0 : Nat) (a1 : Int32) (σ : xS) : Option (Option (Nat × Nat) × xS) :=
  if a1 < 0 then (some (none, σ)) else (if (σ d0 0 0 0 2) ≤ a1 then (some (none, σ)) else (x_g (x_in a1 6) (some ((some (d0, (a1.toNatClampNeg))), σ))))
def fX0_queueAt (d0 : Nat) (a1 : Int32) (a2 : Int32) (σ : xS) : Option (Option (Nat × Nat × Nat) × xS) :=
  if a1 < 0 then (some (none, σ)) else (if (σ d0 0 0 0 2) ≤ a1 then (some (none, σ)) else (if a2 < 0 then (some (none, σ)) else (if a2 < 3 then (x_g (x_in a1 6) (x_g (x_in a2 3) (some ((some (d0, (a1.toNatClampNeg), (a2.toNatClampNeg))), σ)))) else (some (none, σ)))))
def BX0_poolSize_10 (d0 : Nat) : Nat → Int32 → Int32 → xS → Option (Int32 × xS)
  | 0, _, _, _ => none
  | n + 1, a1, a2, σ => if (σ d0 0 0 0 2) ≤ a2 then (some (a1, σ)) else (x_g (x_in a2 6) (x_let (a1 - (((σ d0 13 (a2.toNatClampNeg) 0 2) + (σ d0 13 (a2.toNatClampNeg) 0 4)) + (σ d0 13 (a2.toNatClampNeg) 0 3))) fun t3 => x_let (a2 + 1) fun t4 => (BX0_poolSize_10 d0 n) t3 t4 σ))
def fX0_poolSize (d0 : Nat) (σ : xS) : Option (Int32 × xS) :=
  x_let (σ d0 1 0 0 0) fun t1 => BX0_poolSize_10 d0 x_FU t1 0 σ
def BX0_sharedLeft_7 (d0 : Nat) : Nat → Int32 → Int32 → xS → Option (Int32 × xS)
  | 0, _, _, _ => none
  | n + 1, a1, a2, σ => if (σ d0 0 0 0 2) ≤ a2 then (some (a1, σ)) else (x_g (x_in a2 6) (x_b (fX2_sharedInUse d0 (a2.toNatClampNeg) σ) fun z3 s3 => x_let (a1 - z3) fun t4 => x_let (a2 + 1) fun t5 => (BX0_sharedLeft_7 d0 n) t4 t5 s3))
def fX0_sharedLeft (d0 : Nat) (σ : xS) : Option (Int32 × xS) :=
  x_b (fX0_poolSize d0 σ) fun z1 s1 => BX0_sharedLeft_7 d0 x_FU z1 0 s1
def fX0_endGrant (d0 : Nat) (d1 : Nat) (p1 : Nat) (a2 : Int32) (σ : xS) : Option (Unit × xS) :=
  x_let (x_set σ d1 13 p1 0 4 0) fun s1 => x_b (fX2_shareBeyondGuarantee d1 p1 s1) fun z2 s2 => if (s2 d0 0 0 0 6) = a2 then (x_let (x_set s2 d0 0 0 0 6 (s2 d0 0 0 0 7)) fun s4 => x_let (x_set s4 d0 0 0 0 7 (-1)) fun s5 => some ((), s5)) else (x_let (x_set s2 d0 0 0 0 7 (-1)) fun s3 => some ((), s3))
def fX0_rememberGrant (d0 : Nat) (a1 : Int32) (σ : xS) : Option (Unit × xS) :=
  if (σ d0 0 0 0 6) = (-1) then (x_let (x_set σ d0 0 0 0 6 a1) fun s2 => some ((), s2)) else (x_let (x_set σ d0 0 0 0 7 a1) fun s1 => some ((), s1))
def BX0_giveGrant_97 (d0 : Nat) (d1 : Nat) (p1 : Nat) (a2 : Int32) (a3 : Int32) (a4 : Int32) (o5 : Option (Nat × Nat)) (σ : xS) : Option (Int32 × xS) :=
  match o5 with | none => (if (σ d1 13 p1 0 4) = 0 then (x_b (fX0_rememberGrant d0 a2 σ) fun z5 s5 => x_let (x_set s5 d1 13 p1 0 4 a3) fun s6 => x_b (fX2_shareBeyondGuarantee d1 p1 s6) fun z7 s7 => some ((-5), s7)) else (x_let (x_set σ d1 13 p1 0 4 a3) fun s3 => x_b (fX2_shareBeyondGuarantee d1 p1 s3) fun z4 s4 => some ((-5), s4))) | some w5 => x_g (ok2 w5) (if (σ d1 13 p1 0 4) = 0 then (x_b (fX0_rememberGrant d0 a2 σ) fun z10 s10 => x_let (x_set s10 d1 13 p1 0 4 a3) fun s11 => x_b (fX2_shareBeyondGuarantee d1 p1 s11) fun z12 s12 => some (a4, s12)) else (x_let (x_set σ d1 13 p1 0 4 a3) fun s8 => x_b (fX2_shareBeyondGuarantee d1 p1 s8) fun z9 s9 => some (a4, s9)))
def BX0_giveGrant_70 (d0 : Nat) (d1 : Nat) (p1 : Nat) (a2 : Int32) (a3 : Int32) (a4 : Int32) (o5 : Option (Nat × Nat)) (a6 : Int32) (σ : xS) : Option (Int32 × xS) :=
  match o5 with | none => (if (a3 - (σ d1 13 p1 0 4)) ≤ a6 then (BX0_giveGrant_97 d0 d1 p1 a2 a3 a4 none σ) else (some ((-3), σ))) | some w5 => x_g (ok2 w5) (if (a3 - (σ d1 13 p1 0 4)) ≤ a6 then (x_b (fX0_endGrant d0 w5.1 w5.2 a4 σ) fun z13 s13 => BX0_giveGrant_97 d0 d1 p1 a2 a3 a4 (some (w5.1, w5.2)) s13) else (some ((-3), σ)))
def BX0_giveGrant_23 (d0 : Nat) (d1 : Nat) (p1 : Nat) (a2 : Int32) (a3 : Int32) (as0 : Int32) (σ : xS) : Option (Int32 × xS) :=
  x_b (fX0_portAt d0 as0 σ) fun z1 s1 => match z1 with | none => (x_b (fX0_sharedLeft d0 s1) fun z2 s2 => BX0_giveGrant_70 d0 d1 p1 a2 a3 as0 none z2 s2) | some t1 => x_g (ok2 t1) (x_b (fX0_sharedLeft d0 s1) fun z14 s14 => x_b (fX2_guaranteedInUse t1.1 t1.2 s14) fun z15 s15 => x_let (z14 + ((s14 t1.1 13 t1.2 0 4) - (i_max 0 (z15 - (s15 t1.1 13 t1.2 0 2))))) fun t16 => BX0_giveGrant_70 d0 d1 p1 a2 a3 as0 (some (t1.1, t1.2)) t16 s15)
def fX0_giveGrant (d0 : Nat) (d1 : Nat) (p1 : Nat) (a2 : Int32) (a3 : Int32) (σ : xS) : Option (Int32 × xS) :=
  if (σ d1 13 p1 0 4) = 0 then (if (σ d0 0 0 0 7) = (-1) then (BX0_giveGrant_23 d0 d1 p1 a2 a3 (-1) σ) else (BX0_giveGrant_23 d0 d1 p1 a2 a3 (σ d0 0 0 0 6) σ)) else (BX0_giveGrant_23 d0 d1 p1 a2 a3 (-1) σ)
def fX0_headroomRefusal (d0 : Nat) (p0 : Nat) (d1 : Nat) (p1 : Nat) (r1 : Nat) (a2 : Int32) (σ : xS) : Option (Int32 × xS) :=
  if (σ d1 16 p1 r1 7) = 0 then (some (4, σ)) else (x_b (fX2_headroomInUse d0 p0 σ) fun z1 s1 => if a2 ≤ ((σ d0 13 p0 0 3) - z1) then (some (0, s1)) else (some (5, s1)))
def BX0_victimsNeeded_56 (d0 : Nat) (d1 : Nat) (p1 : Nat) (d2 : Nat) (p2 : Nat) (r2 : Nat) (a3 : Int32) (a9 : Int32) (d10 : Nat) (p10 : Nat) (r10 : Nat) (k14 : Int32 → Int32 → Int32 → Int32 → xS → Option (Int32 × xS)) : Nat → Int32 → Int32 → Int32 → Int32 → Int32 → Int32 → Int32 → xS → Option (Int32 × xS)
  | 0, _, _, _, _, _, _, _, _ => none
  | n + 1, a6, a7, a8, a11, a12, a13, a14, σ => if (σ d10 16 p10 r10 15) ≤ a14 then (x_let (a9 + (-1)) fun t5 => k14 a6 a7 a8 t5 σ) else (x_b (fX1_sizeOf d0 a13 σ) fun z6 s6 => x_let (i_min z6 a11) fun t7 => x_let (a11 - t7) fun t8 => x_let (z6 - t7) fun t9 => x_let (i_min t9 a12) fun t10 => x_let (a12 - t10) fun t11 => x_let (t9 - t10) fun t12 => x_let (a7 + t10) fun t13 => x_let (a6 + t12) fun t14 => x_let (a8 + 1) fun t15 => x_let (a3 - (i_min a3 t14)) fun t16 => if t16 = 0 then (some (t15, s6)) else (x_b (fX3_poolRefusal d2 p2 r2 t16 t13 s6) fun z17 s17 => if z17 = 0 then (some (t15, s17)) else (x_b (fX1_packetAhead d0 a13 s17) fun z18 s18 => x_let (a14 + 1) fun t19 => (BX0_victimsNeeded_56 d0 d1 p1 d2 p2 r2 a3 a9 d10 p10 r10 k14 n) t14 t13 t15 t8 t11 z18 t19 s18)))
def BX0_victimsNeeded_14 (d0 : Nat) (d1 : Nat) (p1 : Nat) (d2 : Nat) (p2 : Nat) (r2 : Nat) (a3 : Int32) : Nat → Int32 → Int32 → Int32 → Int32 → xS → Option (Int32 × xS)
  | 0, _, _, _, _, _ => none
  | n + 1, a6, a7, a8, a9, σ => if a9 ≤ (σ d2 16 p2 r2 0) then (some (0, σ)) else (x_g (x_in a9 3) (x_let (σ d1 16 p1 (a9.toNatClampNeg) 12) fun t2 => x_let (σ d1 16 p1 (a9.toNatClampNeg) 11) fun t3 => x_let (σ d1 16 p1 (a9.toNatClampNeg) 14) fun t4 => BX0_victimsNeeded_56 d0 d1 p1 d2 p2 r2 a3 a9 d1 p1 (a9.toNatClampNeg) (BX0_victimsNeeded_14 d0 d1 p1 d2 p2 r2 a3 n) x_FU a6 a7 a8 t2 t3 t4 0 σ))
def fX0_victimsNeeded (d0 : Nat) (d1 : Nat) (p1 : Nat) (d2 : Nat) (p2 : Nat) (r2 : Nat) (a3 : Int32) (a4 : Int32) (a5 : Int32) (σ : xS) : Option (Int32 × xS) :=
  BX0_victimsNeeded_14 d0 d1 p1 d2 p2 r2 a3 x_FU a4 a5 0 2 σ
def BX0_judge_41 (d0 : Nat) (d1 : Nat) (p1 : Nat) (d2 : Nat) (p2 : Nat) (r2 : Nat) (a3 : Int32) (a4 : Int32) (a5 : Int32) (as0 : Int32) (as1 : Int32) (ds2 : Nat) (σ : xS) : Option (Unit × xS) :=
  x_g (x_in as1 4) (x_let (x_set σ ds2 12 0 0 as1.toNatClampNeg as0) fun s6 => if (s6 d0 12 0 0 0) = 0 then (x_let (x_set s6 d0 0 0 0 10 1) fun s20 => some ((), s20)) else (x_b (fX0_sharedLeft d0 s6) fun z7 s7 => x_b (fX3_poolRefusal d2 p2 r2 a5 z7 s7) fun z8 s8 => x_let (x_set s8 d0 12 0 0 1 z8) fun s9 => if (s9 d0 12 0 0 1) = 0 then (x_let (x_set s9 d0 0 0 0 10 2) fun s19 => some ((), s19)) else (x_b (fX0_headroomRefusal d1 p1 d2 p2 r2 a5 s9) fun z10 s10 => x_let (x_set s10 d0 12 0 0 2 z10) fun s11 => if (s11 d0 12 0 0 2) = 0 then (x_let (x_set s11 d0 0 0 0 10 3) fun s18 => some ((), s18)) else (x_let (x_set s11 d0 12 0 0 3 6) fun s12 => if (s12 d0 0 0 0 3) = 0 then (if (s12 d0 0 0 0 12) ≤ 0 then (some ((), s12)) else (x_let (x_set s12 d0 0 0 0 10 4) fun s13 => some ((), s13))) else (x_b (fX0_victimsNeeded d0 d1 p1 d2 p2 r2 a3 a4 z7 s12) fun z14 s14 => x_let (x_set s14 d0 0 0 0 12 z14) fun s15 => x_let (x_set s15 d0 12 0 0 3 7) fun s16 => if (s16 d0 0 0 0 12) ≤ 0 then (some ((), s16)) else (x_let (x_set s16 d0 0 0 0 10 4) fun s17 => some ((), s17)))))))
def fX0_judge (d0 : Nat) (d1 : Nat) (p1 : Nat) (d2 : Nat) (p2 : Nat) (r2 : Nat) (a3 : Int32) (σ : xS) : Option (Unit × xS) :=
  x_b (fX2_guaranteeLeft d1 p1 σ) fun z1 s1 => x_let (a3 - (i_min a3 z1)) fun t2 => x_let (x_set s1 d0 0 0 0 10 0) fun s3 => x_let (x_set s3 d0 0 0 0 12 0) fun s4 => if t2 = 0 then (BX0_judge_41 d0 d1 p1 d2 p2 r2 a3 z1 t2 0 0 d0 s4) else (BX0_judge_41 d0 d1 p1 d2 p2 r2 a3 z1 t2 1 0 d0 s4)
def fX0_takeOut (d0 : Nat) (d1 : Nat) (p1 : Nat) (d2 : Nat) (p2 : Nat) (r2 : Nat) (a3 : Int32) (σ : xS) : Option (Unit × xS) :=
  x_b (fX1_sizeOf d0 a3 σ) fun z1 s1 => x_b (fX3_giveBack d2 p2 r2 z1 s1) fun z2 s2 => x_b (fX1_leaveQueue d0 d2 p2 r2 a3 s2) fun z3 s3 => x_b (fX1_release d0 a3 s3) fun z4 s4 => if (s4 d2 16 p2 r2 15) = 0 then (x_let (x_set s4 d2 16 p2 r2 6 0) fun s7 => x_b (fX2_isIdle d1 p1 s7) fun z8 s8 => if z8 = 0 then (some ((), s8)) else (x_b (fX2_restartSending d1 p1 s8) fun z9 s9 => some ((), s9))) else (x_b (fX2_isIdle d1 p1 s4) fun z5 s5 => if z5 = 0 then (some ((), s5)) else (x_b (fX2_restartSending d1 p1 s5) fun z6 s6 => some ((), s6)))
def BX0_removeVictims_37 (d0 : Nat) (d1 : Nat) (p1 : Nat) (a2 : Int32) (a3 : Int32) (a4 : Int32) (d5 : Nat) (p5 : Nat) (r5 : Nat) (a6 : Int32) (k8 : Int32 → Int32 → xS → Option (Unit × xS)) : Nat → Int32 → xS → Option (Unit × xS)
  | 0, _, _ => none
  | n + 1, a7, σ => if a6 ≤ a7 then (x_let (a3 - a6) fun t4 => x_let (a4 + (-1)) fun t5 => k8 t4 t5 σ) else (x_b (fX1_sizeOf d0 (σ d5 16 p5 r5 14) σ) fun z6 s6 => x_b (fX2_countLoss d1 p1 8 z6 s6) fun z7 s7 => x_b (fX0_takeOut d0 d1 p1 d5 p5 r5 (s7 d5 16 p5 r5 14) s7) fun z8 s8 => x_let (a7 + 1) fun t9 => (BX0_removeVictims_37 d0 d1 p1 a2 a3 a4 d5 p5 r5 a6 k8 n) t9 s8)
def BX0_removeVictims_8 (d0 : Nat) (d1 : Nat) (p1 : Nat) (a2 : Int32) : Nat → Int32 → Int32 → xS → Option (Unit × xS)
  | 0, _, _, _ => none
  | n + 1, a3, a4, σ => if a4 ≤ a2 then (some ((), σ)) else (x_g (x_in a4 3) (x_let (i_min a3 (σ d1 16 p1 (a4.toNatClampNeg) 15)) fun t3 => BX0_removeVictims_37 d0 d1 p1 a2 a3 a4 d1 p1 (a4.toNatClampNeg) t3 (BX0_removeVictims_8 d0 d1 p1 a2 n) x_FU 0 σ))
def fX0_removeVictims (d0 : Nat) (d1 : Nat) (p1 : Nat) (a2 : Int32) (σ : xS) : Option (Unit × xS) :=
  x_let (σ d0 0 0 0 12) fun t1 => BX0_removeVictims_8 d0 d1 p1 a2 x_FU t1 2 σ
def fX0_chargeCells (d0 : Nat) (d1 : Nat) (p1 : Nat) (d2 : Nat) (p2 : Nat) (r2 : Nat) (a3 : Int32) (σ : xS) : Option (Unit × xS) :=
  x_b (fX2_guaranteeLeft d1 p1 σ) fun z1 s1 => x_let (i_min a3 z1) fun t2 => x_let (a3 - t2) fun t3 => if (s1 d0 0 0 0 10) = 3 then (x_let (x_set s1 d2 16 p2 r2 12 ((s1 d2 16 p2 r2 12) + t3)) fun s8 => x_b (fX3_pause d2 p2 r2 s8) fun z9 s9 => x_let (x_set s9 d2 16 p2 r2 10 ((s9 d2 16 p2 r2 10) + t2)) fun s10 => some ((), s10)) else (if t3 ≤ 0 then (x_let (x_set s1 d2 16 p2 r2 10 ((s1 d2 16 p2 r2 10) + t2)) fun s4 => some ((), s4)) else (x_b (fX0_sharedLeft d0 s1) fun z5 s5 => x_b (fX3_addShared d2 p2 r2 t3 z5 s5) fun z6 s6 => x_let (x_set s6 d2 16 p2 r2 10 ((s6 d2 16 p2 r2 10) + t2)) fun s7 => some ((), s7)))
def fX0_receive (d0 : Nat) (d1 : Nat) (p1 : Nat) (d2 : Nat) (p2 : Nat) (r2 : Nat) (a3 : Int32) (σ : xS) : Option (Int32 × xS) :=
  x_b (fX0_judge d0 d1 p1 d2 p2 r2 a3 σ) fun z1 s1 => if (s1 d0 0 0 0 10) = 0 then (x_let (x_row s1 d0 11 0 0 (va_cpy (s1 d0 12 0 0) (s1 d0 11 0 0) 0 0 4)) fun s8 => x_let (x_set s8 d0 0 0 0 9 1) fun s9 => if (s9 d2 16 p2 r2 7) = 0 then (x_b (fX2_countLoss d1 p1 (s9 d0 12 0 0 1) a3 s9) fun z10 s10 => some ((-6), s10)) else (x_b (fX2_countLoss d1 p1 5 a3 s9) fun z11 s11 => some ((-6), s11))) else (x_b (fX0_removeVictims d0 d1 p1 (s1 d2 16 p2 r2 0) s1) fun z2 s2 => x_b (fX0_chargeCells d0 d1 p1 d2 p2 r2 a3 s2) fun z3 s3 => x_let (s3 d0 0 0 0 5) fun t4 => x_b (fX1_place d0 t4 a3 s3) fun z5 s5 => x_b (fX1_joinQueue d0 d2 p2 r2 z5 s5) fun z6 s6 => x_let (x_set s6 d0 0 0 0 5 ((s6 d0 0 0 0 5) + 1)) fun s7 => some (t4, s7))
def BX0_discardAll_30 (d0 : Nat) (d1 : Nat) (p1 : Nat) (d3 : Nat) (p3 : Nat) (a4 : Int32) (a5 : Int32) (d6 : Nat) (p6 : Nat) (r6 : Nat) (k14 : Int32 → Int32 → xS → Option (Int32 × xS)) : Nat → Int32 → Int32 → xS → Option (Int32 × xS)
  | 0, _, _, _ => none
  | n + 1, a2, a7, σ => if 128 ≤ a7 then (x_let (a5 + 1) fun t2 => k14 a2 t2 σ) else (if (σ d6 16 p6 r6 15) ≤ 0 then (x_let (a5 + 1) fun t3 => k14 a2 t3 σ) else (x_b (fX1_sizeOf d0 (σ d6 16 p6 r6 13) σ) fun z4 s4 => x_b (fX2_countLoss d1 p1 9 z4 s4) fun z5 s5 => x_b (fX0_takeOut d0 d1 p1 d6 p6 r6 (s5 d6 16 p6 r6 13) s5) fun z6 s6 => x_let (a2 + 1) fun t7 => x_let (a7 + 1) fun t8 => (BX0_discardAll_30 d0 d1 p1 d3 p3 a4 a5 d6 p6 r6 k14 n) t7 t8 s6))
def BX0_discardAll_14 (d0 : Nat) (d1 : Nat) (p1 : Nat) (d3 : Nat) (p3 : Nat) (a4 : Int32) : Nat → Int32 → Int32 → xS → Option (Int32 × xS)
  | 0, _, _, _ => none
  | n + 1, a2, a5, σ => if a4 ≤ a5 then (some (a2, σ)) else (x_g (x_in a5 3) (BX0_discardAll_30 d0 d1 p1 d3 p3 a4 a5 d3 p3 (a5.toNatClampNeg) (BX0_discardAll_14 d0 d1 p1 d3 p3 a4 n) x_FU a2 0 σ))
def fX0_discardAll (d0 : Nat) (d1 : Nat) (p1 : Nat) (σ : xS) : Option (Int32 × xS) :=
  BX0_discardAll_14 d0 d1 p1 d1 p1 3 x_FU 0 0 σ
def BX0_sendInTurns_71 (d0 : Nat) (d1 : Nat) (p1 : Nat) (a2 : Int32) (a3 : Int32) (d4 : Nat) (p4 : Nat) (r4 : Nat) (k4 : Int32 → Int32 → xS → Option (Int32 × xS)) (σ : xS) : Option (Int32 × xS) :=
  x_b (fX1_sizeOf d0 (σ d4 16 p4 r4 13) σ) fun z5 s5 => if z5 ≤ (s5 d4 16 p4 r4 6) then (if z5 ≤ (s5 d1 13 p1 0 7) then (x_let (x_set s5 d4 16 p4 r4 6 ((s5 d4 16 p4 r4 6) - z5)) fun s6 => x_let (x_set s6 d1 13 p1 0 7 ((s6 d1 13 p1 0 7) - z5)) fun s7 => x_b (fX0_takeOut d0 d1 p1 d4 p4 r4 (s7 d4 16 p4 r4 13) s7) fun z8 s8 => x_let (a2 + 1) fun t9 => x_let (a3 + 1) fun t10 => k4 t9 t10 s8) else (some (a2, s5))) else (x_b (fX2_passTurn d1 p1 s5) fun z11 s11 => x_let (a3 + 1) fun t12 => k4 a2 t12 s11)
def BX0_sendInTurns_4 (d0 : Nat) (d1 : Nat) (p1 : Nat) : Nat → Int32 → Int32 → xS → Option (Int32 × xS)
  | 0, _, _, _ => none
  | n + 1, a2, a3, σ => if 100000 ≤ a3 then (some (a2, σ)) else (x_b (fX2_isIdle d1 p1 σ) fun z1 s1 => if z1 = 0 then (x_b (fX2_queueAtTurn d1 p1 s1) fun z2 s2 => match z2 with | none => (x_b (fX2_passTurn d1 p1 s2) fun z3 s3 => x_let (a3 + 1) fun t4 => (BX0_sendInTurns_4 d0 d1 p1 n) a2 t4 s3) | some t2 => x_g (ok3 t2) (if (s2 t2.1 16 t2.2.1 t2.2.2 15) = 0 then (x_b (fX2_passTurn d1 p1 s2) fun z15 s15 => x_let (a3 + 1) fun t16 => (BX0_sendInTurns_4 d0 d1 p1 n) a2 t16 s15) else (if (s2 d1 13 p1 0 9) = 0 then (BX0_sendInTurns_71 d0 d1 p1 a2 a3 t2.1 t2.2.1 t2.2.2 (BX0_sendInTurns_4 d0 d1 p1 n) s2) else (x_let (x_set s2 t2.1 16 t2.2.1 t2.2.2 6 ((s2 t2.1 16 t2.2.1 t2.2.2 6) + (s2 t2.1 16 t2.2.1 t2.2.2 5))) fun s13 => x_let (x_set s13 d1 13 p1 0 9 0) fun s14 => BX0_sendInTurns_71 d0 d1 p1 a2 a3 t2.1 t2.2.1 t2.2.2 (BX0_sendInTurns_4 d0 d1 p1 n) s14)))) else (some (a2, s1)))
def fX0_sendInTurns (d0 : Nat) (d1 : Nat) (p1 : Nat) (σ : xS) : Option (Int32 × xS) :=
  BX0_sendInTurns_4 d0 d1 p1 x_FU 0 0 σ
def BX0_sendByPriority_4 (d0 : Nat) (d1 : Nat) (p1 : Nat) : Nat → Int32 → Int32 → xS → Option (Int32 × xS)
  | 0, _, _, _ => none
  | n + 1, a2, a3, σ => if 128 ≤ a3 then (some (a2, σ)) else (x_b (fX2_highestBusyQueue d1 p1 σ) fun z1 s1 => match z1 with | none => (some (a2, s1)) | some t1 => x_g (ok3 t1) (x_b (fX1_sizeOf d0 (s1 t1.1 16 t1.2.1 t1.2.2 13) s1) fun z2 s2 => if z2 ≤ (s2 d1 13 p1 0 7) then (x_let (x_set s2 d1 13 p1 0 7 ((s2 d1 13 p1 0 7) - z2)) fun s3 => x_b (fX0_takeOut d0 d1 p1 t1.1 t1.2.1 t1.2.2 (s3 t1.1 16 t1.2.1 t1.2.2 13) s3) fun z4 s4 => x_let (a2 + 1) fun t5 => x_let (a3 + 1) fun t6 => (BX0_sendByPriority_4 d0 d1 p1 n) t5 t6 s4) else (some (a2, s2))))
def fX0_sendByPriority (d0 : Nat) (d1 : Nat) (p1 : Nat) (σ : xS) : Option (Int32 × xS) :=
  BX0_sendByPriority_4 d0 d1 p1 x_FU 0 0 σ
def fX0_send (d0 : Nat) (d1 : Nat) (p1 : Nat) (σ : xS) : Option (Int32 × xS) :=
  x_b (fX2_isIdle d1 p1 σ) fun z1 s1 => if z1 = 0 then (x_let (x_set s1 d1 13 p1 0 7 ((s1 d1 13 p1 0 7) + (s1 d1 13 p1 0 6))) fun s2 => if (s2 d1 13 p1 0 5) = 0 then (x_b (fX0_sendByPriority d0 d1 p1 s2) fun z3 s3 => x_let (x_set s3 d1 13 p1 0 11 ((s3 d1 13 p1 0 11) + z3)) fun s4 => some (z3, s4)) else (x_b (fX0_sendInTurns d0 d1 p1 s2) fun z5 s5 => x_let (x_set s5 d1 13 p1 0 11 ((s5 d1 13 p1 0 11) + z5)) fun s6 => some (z5, s6))) else (some (0, s1))
def BX0_passTick_65 (d0 : Nat) (a1 : Int32) (a2 : Int32) (a3 : Int32) (d4 : Nat) (p4 : Nat) (a5 : Int32) (k38 : Int32 → xS → Option (Int32 × xS)) : Nat → Int32 → xS → Option (Int32 × xS)
  | 0, _, _ => none
  | n + 1, a6, σ => if a5 ≤ a6 then (x_let (a3 + 1) fun t4 => k38 t4 σ) else (x_g (x_in a6 3) (x_let (x_set σ d4 16 p4 (a6.toNatClampNeg) 4 (i_min (σ d4 16 p4 (a6.toNatClampNeg) 2) ((σ d4 16 p4 (a6.toNatClampNeg) 4) + (σ d4 16 p4 (a6.toNatClampNeg) 3)))) fun s6 => if (s6 d4 16 p4 (a6.toNatClampNeg) 12) = 0 then (x_b (fX3_limitWith d4 p4 (a6.toNatClampNeg) a2 s6) fun z8 s8 => if z8 < ((s6 d4 16 p4 (a6.toNatClampNeg) 11) + 2) then (x_let (a6 + 1) fun t9 => (BX0_passTick_65 d0 a1 a2 a3 d4 p4 a5 k38 n) t9 s8) else (x_let (x_set s8 d4 16 p4 (a6.toNatClampNeg) 8 0) fun s10 => x_let (a6 + 1) fun t11 => (BX0_passTick_65 d0 a1 a2 a3 d4 p4 a5 k38 n) t11 s10)) else (x_let (a6 + 1) fun t7 => (BX0_passTick_65 d0 a1 a2 a3 d4 p4 a5 k38 n) t7 s6)))
def BX0_passTick_38 (d0 : Nat) (a1 : Int32) (a2 : Int32) : Nat → Int32 → xS → Option (Int32 × xS)
  | 0, _, _ => none
  | n + 1, a3, σ => if (σ d0 0 0 0 2) ≤ a3 then (x_let (x_set σ d0 0 0 0 4 ((σ d0 0 0 0 4) + 1)) fun s2 => some (a1, s2)) else (x_g (x_in a3 6) (BX0_passTick_65 d0 a1 a2 a3 d0 (a3.toNatClampNeg) 3 (BX0_passTick_38 d0 a1 a2 n) x_FU 0 σ))
def BX0_passTick_4 (d0 : Nat) : Nat → Int32 → Int32 → xS → Option (Int32 × xS)
  | 0, _, _, _ => none
  | n + 1, a1, a2, σ => if (σ d0 0 0 0 2) ≤ a2 then (x_b (fX0_sharedLeft d0 σ) fun z1 s1 => BX0_passTick_38 d0 a1 z1 x_FU 0 s1) else (x_g (x_in a2 6) (x_b (fX0_send d0 d0 (a2.toNatClampNeg) σ) fun z13 s13 => x_let (a1 + z13) fun t14 => x_let (a2 + 1) fun t15 => (BX0_passTick_4 d0 n) t14 t15 s13))
def fX0_passTick (d0 : Nat) (σ : xS) : Option (Int32 × xS) :=
  BX0_passTick_4 d0 x_FU 0 0 σ
def fX5_isOutside (a0 : Int32) (a1 : Int32) (a2 : Int32) (σ : xS) : Option (Int32 × xS) :=
  if a0 < a1 then (some (1, σ)) else (if a0 ≤ a2 then (some (0, σ)) else (some (1, σ)))
def fX5_reset (a1 : Int32) (a2 : Int32) (σ : xS) : Option (Int32 × xS) :=
  x_b (fX5_isOutside a1 16 128 σ) fun z1 s1 => if z1 = 0 then (x_b (fX5_isOutside a2 1 6 s1) fun z2 s2 => if z2 = 0 then (x_let (s2 0 1 0 0 0) fun t3 => x_b (fX0_startAnew 0 a1 a2 s2) fun z4 s4 => some (t3, s4)) else (some ((-2), s2))) else (some ((-2), s1))
def fX5_setReserve (a1 : Int32) (a2 : Int32) (σ : xS) : Option (Int32 × xS) :=
  x_b (fX0_portAt 0 a1 σ) fun z1 s1 => match z1 with | none => (some ((-1), s1)) | some t1 => x_g (ok2 t1) (x_b (fX5_isOutside a2 0 64 s1) fun z2 s2 => if z2 = 0 then (x_let (s2 t1.1 13 t1.2 0 2) fun t3 => x_b (fX0_sharedLeft 0 s2) fun z4 s4 => if (a2 - t3) ≤ z4 then (x_let (x_set s4 t1.1 13 t1.2 0 2 a2) fun s5 => x_b (fX2_shareBeyondGuarantee t1.1 t1.2 s5) fun z6 s6 => some (t3, s6)) else (some ((-3), s4))) else (some ((-2), s2)))
def fX5_setHeadroom (a1 : Int32) (a2 : Int32) (σ : xS) : Option (Int32 × xS) :=
  x_b (fX0_portAt 0 a1 σ) fun z1 s1 => match z1 with | none => (some ((-1), s1)) | some t1 => x_g (ok2 t1) (x_b (fX5_isOutside a2 0 64 s1) fun z2 s2 => if z2 = 0 then (x_b (fX2_headroomInUse t1.1 t1.2 s2) fun z3 s3 => if z3 ≤ a2 then (x_let (s3 t1.1 13 t1.2 0 3) fun t4 => x_b (fX0_sharedLeft 0 s3) fun z5 s5 => if (a2 - t4) ≤ z5 then (x_let (x_set s5 t1.1 13 t1.2 0 3 a2) fun s6 => some (t4, s6)) else (some ((-3), s5))) else (some ((-4), s3))) else (some ((-2), s2)))
def fX5_setAlpha (a1 : Int32) (a2 : Int32) (a3 : Int32) (σ : xS) : Option (Int32 × xS) :=
  x_b (fX0_queueAt 0 a1 a2 σ) fun z1 s1 => match z1 with | none => (some ((-1), s1)) | some t1 => x_g (ok3 t1) (x_b (fX5_isOutside a3 0 64 s1) fun z2 s2 => if z2 = 0 then (x_let (s2 t1.1 16 t1.2.1 t1.2.2 1) fun t3 => x_let (x_set s2 t1.1 16 t1.2.1 t1.2.2 1 a3) fun s4 => some (t3, s4)) else (some ((-2), s2)))
def fX5_setBurst (a1 : Int32) (a2 : Int32) (a3 : Int32) (a4 : Int32) (σ : xS) : Option (Int32 × xS) :=
  x_b (fX0_queueAt 0 a1 a2 σ) fun z1 s1 => match z1 with | none => (some ((-1), s1)) | some t1 => x_g (ok3 t1) (x_b (fX5_isOutside a3 0 32 s1) fun z2 s2 => if z2 = 0 then (x_b (fX5_isOutside a4 0 8 s2) fun z3 s3 => if z3 = 0 then (x_let (s3 t1.1 16 t1.2.1 t1.2.2 4) fun t4 => x_let (x_set s3 t1.1 16 t1.2.1 t1.2.2 2 a3) fun s5 => x_let (x_set s5 t1.1 16 t1.2.1 t1.2.2 3 a4) fun s6 => x_let (x_set s6 t1.1 16 t1.2.1 t1.2.2 4 a3) fun s7 => some (t4, s7)) else (some ((-2), s3))) else (some ((-2), s2)))
def fX5_asNumber (a0 : Int32) (σ : xS) : Option (Int32 × xS) :=
  if a0 = 0 then (some (0, σ)) else (some (1, σ))
def BX5_setLossless_33 (a3 : Int32) (d4 : Nat) (p4 : Nat) (r4 : Nat) (σ : xS) : Option (Int32 × xS) :=
  x_b (fX5_asNumber (σ d4 16 p4 r4 7) σ) fun z2 s2 => x_g (x_z a3) (x_let (x_set s2 d4 16 p4 r4 7 a3) fun s3 => if a3 = 0 then (x_let (x_set s3 d4 16 p4 r4 8 0) fun s5 => some (z2, s5)) else (some (z2, s3)))
def fX5_setLossless (a1 : Int32) (a2 : Int32) (a3 : Int32) (σ : xS) : Option (Int32 × xS) :=
  x_b (fX0_queueAt 0 a1 a2 σ) fun z1 s1 => match z1 with | none => (some ((-1), s1)) | some t1 => x_g (ok3 t1) (if a3 = 0 then (if (s1 t1.1 16 t1.2.1 t1.2.2 12) ≤ 0 then (BX5_setLossless_33 a3 t1.1 t1.2.1 t1.2.2 s1) else (some ((-4), s1))) else (BX5_setLossless_33 a3 t1.1 t1.2.1 t1.2.2 s1))
def fX5_setScheduler (a1 : Int32) (a2 : Int32) (a3 : Int32) (σ : xS) : Option (Int32 × xS) :=
  x_b (fX0_portAt 0 a1 σ) fun z1 s1 => match z1 with | none => (some ((-1), s1)) | some t1 => x_g (ok2 t1) (x_b (fX5_isOutside a3 0 16 s1) fun z2 s2 => if z2 = 0 then (x_let (s2 t1.1 13 t1.2 0 6) fun t3 => x_g (x_z a2) (x_let (x_set s2 t1.1 13 t1.2 0 5 a2) fun s4 => x_let (x_set s4 t1.1 13 t1.2 0 6 a3) fun s6 => some (t3, s6))) else (some ((-2), s2)))
def fX5_setQuantum (a1 : Int32) (a2 : Int32) (a3 : Int32) (σ : xS) : Option (Int32 × xS) :=
  x_b (fX0_queueAt 0 a1 a2 σ) fun z1 s1 => match z1 with | none => (some ((-1), s1)) | some t1 => x_g (ok3 t1) (x_b (fX5_isOutside a3 1 16 s1) fun z2 s2 => if z2 = 0 then (x_let (s2 t1.1 16 t1.2.1 t1.2.2 5) fun t3 => x_let (x_set s2 t1.1 16 t1.2.1 t1.2.2 5 a3) fun s4 => some (t3, s4)) else (some ((-2), s2)))
def fX5_setPushOut (a1 : Int32) (σ : xS) : Option (Int32 × xS) :=
  x_b (fX5_asNumber (σ 0 0 0 0 3) σ) fun z1 s1 => x_g (x_z a1) (x_let (x_set s1 0 0 0 0 3 a1) fun s2 => some (z1, s2))
def fX5_grant (a1 : Int32) (a2 : Int32) (σ : xS) : Option (Int32 × xS) :=
  x_b (fX0_portAt 0 a1 σ) fun z1 s1 => match z1 with | none => (some ((-1), s1)) | some t1 => x_g (ok2 t1) (x_b (fX5_isOutside a2 1 32 s1) fun z2 s2 => if z2 = 0 then (x_b (fX0_giveGrant 0 t1.1 t1.2 a1 a2 s2) fun z3 s3 => some (z3, s3)) else (some ((-2), s2)))
def fX5_withdraw (a1 : Int32) (σ : xS) : Option (Int32 × xS) :=
  x_b (fX0_portAt 0 a1 σ) fun z1 s1 => match z1 with | none => (some ((-1), s1)) | some t1 => x_g (ok2 t1) (if (s1 t1.1 13 t1.2 0 4) = 0 then (some ((-5), s1)) else (x_let (s1 t1.1 13 t1.2 0 4) fun t2 => x_b (fX0_endGrant 0 t1.1 t1.2 a1 s1) fun z3 s3 => some (t2, s3)))
def fX5_arrive (a1 : Int32) (a2 : Int32) (a3 : Int32) (σ : xS) : Option (Int32 × xS) :=
  x_b (fX0_portAt 0 a1 σ) fun z1 s1 => match z1 with | none => (x_b (fX0_queueAt 0 a1 a2 s1) fun z2 s2 => match z2 with | none => (some ((-1), s2)) | some t2 => x_g (ok3 t2) (some ((-1), s2))) | some t1 => x_g (ok2 t1) (x_b (fX0_queueAt 0 a1 a2 s1) fun z3 s3 => match z3 with | none => (some ((-1), s3)) | some t3 => x_g (ok3 t3) (x_b (fX5_isOutside a3 1 12 s3) fun z4 s4 => if z4 = 0 then (x_b (fX0_receive 0 t1.1 t1.2 t3.1 t3.2.1 t3.2.2 a3 s4) fun z5 s5 => some (z5, s5)) else (some ((-2), s4))))
def BX5_ticks_17 (a1 : Int32) : Nat → Int32 → Int32 → xS → Option (Int32 × xS)
  | 0, _, _, _ => none
  | n + 1, a2, a3, σ => if a1 ≤ a3 then (some (a2, σ)) else (x_b (fX0_passTick 0 σ) fun z2 s2 => x_let (a2 + z2) fun t3 => x_let (a3 + 1) fun t4 => (BX5_ticks_17 a1 n) t3 t4 s2)
def fX5_ticks (a1 : Int32) (σ : xS) : Option (Int32 × xS) :=
  x_b (fX5_isOutside a1 1 20 σ) fun z1 s1 => if z1 = 0 then (BX5_ticks_17 a1 x_FU 0 0 s1) else (some ((-2), s1))
def fX5_flush (a1 : Int32) (σ : xS) : Option (Int32 × xS) :=
  x_b (fX0_portAt 0 a1 σ) fun z1 s1 => match z1 with | none => (some ((-1), s1)) | some t1 => x_g (ok2 t1) (x_b (fX0_discardAll 0 t1.1 t1.2 s1) fun z2 s2 => some (z2, s2))
def BX5_lossOfArrivals_16 (d1 : Nat) (p1 : Nat) (d2 : Nat) (p2 : Nat) (r2 : Nat) (a3 : Int32) (a4 : Int32) : Nat → Int32 → Int32 → xS → Option (Int32 × xS)
  | 0, _, _, _ => none
  | n + 1, a5, a6, σ => if a4 ≤ a6 then (some (a5, σ)) else (x_b (fX0_receive 0 d1 p1 d2 p2 r2 a3 σ) fun z1 s1 => if z1 = (-6) then (x_let (a5 + 1) fun t3 => x_let (a6 + 1) fun t4 => (BX5_lossOfArrivals_16 d1 p1 d2 p2 r2 a3 a4 n) t3 t4 s1) else (x_let (a6 + 1) fun t2 => (BX5_lossOfArrivals_16 d1 p1 d2 p2 r2 a3 a4 n) a5 t2 s1))
def fX5_lossOfArrivals (o1 : Option (Nat × Nat)) (o2 : Option (Nat × Nat × Nat)) (a3 : Int32) (a4 : Int32) (σ : xS) : Option (Int32 × xS) :=
  match o1 with | none => (match o2 with | none => (some (0, σ)) | some w2 => x_g (ok3 w2) (some (0, σ))) | some w1 => x_g (ok2 w1) (match o2 with | none => (some (0, σ)) | some w2 => x_g (ok3 w2) (BX5_lossOfArrivals_16 w1.1 w1.2 w2.1 w2.2.1 w2.2.2 a3 a4 x_FU 0 0 σ))
def BX5_traffic_58 (a2 : Int32) (a3 : Int32) (a4 : Int32) (a8 : Int32) (k49 : Int64 → Int32 → Int32 → xS → Option (Int32 × xS)) : Nat → Int64 → Int32 → Int32 → xS → Option (Int32 × xS)
  | 0, _, _, _, _ => none
  | n + 1, g5, a7, a9, σ => if a3 ≤ a9 then (x_b (fX0_passTick 0 σ) fun z5 s5 => x_let (a8 + 1) fun t6 => k49 g5 a7 t6 s5) else (x_let (((g5 * 1103515245) + 12345) - ((g5 * 1103515245) + 12345) / 2147483648 * 2147483648) fun t7 => x_let ((t7 / 65536).toInt32) fun t8 => if a4 = 0 then none else x_b (fX0_portAt 0 (t8 - t8 / a4 * a4) σ) fun z10 s10 => match z10 with | none => (if a4 = 0 then none else x_b (fX0_queueAt 0 (t8 - t8 / a4 * a4) ((t8 / 8) - (t8 / 8) / 3 * 3) s10) fun z12 s12 => match z12 with | none => (x_b (fX5_lossOfArrivals none none (((t8 / 32) - (t8 / 32) / 12 * 12) + 1) 1 s12) fun z13 s13 => x_let (a7 + z13) fun t14 => x_let (a9 + 1) fun t15 => (BX5_traffic_58 a2 a3 a4 a8 k49 n) t7 t14 t15 s13) | some t12 => x_g (ok3 t12) (x_b (fX5_lossOfArrivals none (some (t12.1, t12.2.1, t12.2.2)) (((t8 / 32) - (t8 / 32) / 12 * 12) + 1) 1 s12) fun z16 s16 => x_let (a7 + z16) fun t17 => x_let (a9 + 1) fun t18 => (BX5_traffic_58 a2 a3 a4 a8 k49 n) t7 t17 t18 s16)) | some t10 => x_g (ok2 t10) (if a4 = 0 then none else x_b (fX0_queueAt 0 (t8 - t8 / a4 * a4) ((t8 / 8) - (t8 / 8) / 3 * 3) s10) fun z20 s20 => match z20 with | none => (x_b (fX5_lossOfArrivals (some (t10.1, t10.2)) none (((t8 / 32) - (t8 / 32) / 12 * 12) + 1) 1 s20) fun z21 s21 => x_let (a7 + z21) fun t22 => x_let (a9 + 1) fun t23 => (BX5_traffic_58 a2 a3 a4 a8 k49 n) t7 t22 t23 s21) | some t20 => x_g (ok3 t20) (x_b (fX5_lossOfArrivals (some (t10.1, t10.2)) (some (t20.1, t20.2.1, t20.2.2)) (((t8 / 32) - (t8 / 32) / 12 * 12) + 1) 1 s20) fun z24 s24 => x_let (a7 + z24) fun t25 => x_let (a9 + 1) fun t26 => (BX5_traffic_58 a2 a3 a4 a8 k49 n) t7 t25 t26 s24)))
def BX5_traffic_49 (a2 : Int32) (a3 : Int32) (a4 : Int32) : Nat → Int64 → Int32 → Int32 → xS → Option (Int32 × xS)
  | 0, _, _, _, _ => none
  | n + 1, g5, a7, a8, σ => if a2 ≤ a8 then (some (a7, σ)) else (BX5_traffic_58 a2 a3 a4 a8 (BX5_traffic_49 a2 a3 a4 n) x_FU g5 a7 0 σ)
def fX5_traffic (a1 : Int32) (a2 : Int32) (a3 : Int32) (σ : xS) : Option (Int32 × xS) :=
  if a1 < 0 then (some ((-2), σ)) else (x_b (fX5_isOutside a2 1 16 σ) fun z1 s1 => if z1 = 0 then (x_b (fX5_isOutside a3 1 3 s1) fun z2 s2 => if z2 = 0 then (x_let (i_max 1 (s2 0 0 0 0 2)) fun t3 => x_let a1.toInt64 fun t4 => BX5_traffic_49 a2 a3 t3 x_FU t4 0 0 s2) else (some ((-2), s2))) else (some ((-2), s1)))
def fX5_freeShared (σ : xS) : Option (Int32 × xS) :=
  x_b (fX0_sharedLeft 0 σ) fun z1 s1 => some (z1, s1)
def fX5_sharedPool (σ : xS) : Option (Int32 × xS) :=
  x_b (fX0_poolSize 0 σ) fun z1 s1 => some (z1, s1)
def fX5_freeGuarantee (a1 : Int32) (σ : xS) : Option (Int32 × xS) :=
  x_b (fX0_portAt 0 a1 σ) fun z1 s1 => match z1 with | none => (some ((-1), s1)) | some t1 => x_g (ok2 t1) (x_b (fX2_guaranteeLeft t1.1 t1.2 s1) fun z2 s2 => some (z2, s2))
def fX5_grantOf (a1 : Int32) (σ : xS) : Option (Int32 × xS) :=
  x_b (fX0_portAt 0 a1 σ) fun z1 s1 => match z1 with | none => (some ((-1), s1)) | some t1 => x_g (ok2 t1) (some ((s1 t1.1 13 t1.2 0 4), s1))
def fX5_threshold (a1 : Int32) (a2 : Int32) (σ : xS) : Option (Int32 × xS) :=
  x_b (fX0_queueAt 0 a1 a2 σ) fun z1 s1 => match z1 with | none => (some ((-1), s1)) | some t1 => x_g (ok3 t1) (x_b (fX0_sharedLeft 0 s1) fun z2 s2 => x_b (fX3_limitWith t1.1 t1.2.1 t1.2.2 z2 s2) fun z3 s3 => some (z3, s3))
def fX5_guaranteedCells (a1 : Int32) (a2 : Int32) (σ : xS) : Option (Int32 × xS) :=
  x_b (fX0_queueAt 0 a1 a2 σ) fun z1 s1 => match z1 with | none => (some ((-1), s1)) | some t1 => x_g (ok3 t1) (some ((s1 t1.1 16 t1.2.1 t1.2.2 10), s1))
def fX5_sharedCells (a1 : Int32) (a2 : Int32) (σ : xS) : Option (Int32 × xS) :=
  x_b (fX0_queueAt 0 a1 a2 σ) fun z1 s1 => match z1 with | none => (some ((-1), s1)) | some t1 => x_g (ok3 t1) (some ((s1 t1.1 16 t1.2.1 t1.2.2 11), s1))
def fX5_headroomCells (a1 : Int32) (a2 : Int32) (σ : xS) : Option (Int32 × xS) :=
  x_b (fX0_queueAt 0 a1 a2 σ) fun z1 s1 => match z1 with | none => (some ((-1), s1)) | some t1 => x_g (ok3 t1) (some ((s1 t1.1 16 t1.2.1 t1.2.2 12), s1))
def fX5_burstTank (a1 : Int32) (a2 : Int32) (σ : xS) : Option (Int32 × xS) :=
  x_b (fX0_queueAt 0 a1 a2 σ) fun z1 s1 => match z1 with | none => (some ((-1), s1)) | some t1 => x_g (ok3 t1) (some ((s1 t1.1 16 t1.2.1 t1.2.2 4), s1))
def fX5_isPaused (a1 : Int32) (a2 : Int32) (σ : xS) : Option (Int32 × xS) :=
  x_b (fX0_queueAt 0 a1 a2 σ) fun z1 s1 => match z1 with | none => (some ((-1), s1)) | some t1 => x_g (ok3 t1) (x_b (fX5_asNumber (s1 t1.1 16 t1.2.1 t1.2.2 8) s1) fun z2 s2 => some (z2, s2))
def fX5_pauses (a1 : Int32) (a2 : Int32) (σ : xS) : Option (Int32 × xS) :=
  x_b (fX0_queueAt 0 a1 a2 σ) fun z1 s1 => match z1 with | none => (some ((-1), s1)) | some t1 => x_g (ok3 t1) (some ((s1 t1.1 16 t1.2.1 t1.2.2 9), s1))
def fX5_credit (a1 : Int32) (σ : xS) : Option (Int32 × xS) :=
  x_b (fX0_portAt 0 a1 σ) fun z1 s1 => match z1 with | none => (some ((-1), s1)) | some t1 => x_g (ok2 t1) (some ((s1 t1.1 13 t1.2 0 7), s1))
def fX5_deficit (a1 : Int32) (a2 : Int32) (σ : xS) : Option (Int32 × xS) :=
  x_b (fX0_queueAt 0 a1 a2 σ) fun z1 s1 => match z1 with | none => (some ((-1), s1)) | some t1 => x_g (ok3 t1) (some ((s1 t1.1 16 t1.2.1 t1.2.2 6), s1))
def fX5_losses (a1 : Int32) (a2 : Int32) (σ : xS) : Option (Int32 × xS) :=
  x_b (fX0_portAt 0 a1 σ) fun z1 s1 => match z1 with | none => (some ((-1), s1)) | some t1 => x_g (ok2 t1) (if a2 = 2 then (x_g (x_in a2 10) (some ((s1 t1.1 15 t1.2 0 a2.toNatClampNeg), s1))) else (if a2 = 3 then (x_g (x_in a2 10) (some ((s1 t1.1 15 t1.2 0 a2.toNatClampNeg), s1))) else (if a2 = 4 then (some ((-2), s1)) else (if a2 = 5 then (x_g (x_in a2 10) (some ((s1 t1.1 15 t1.2 0 a2.toNatClampNeg), s1))) else (if a2 = 6 then (some ((-2), s1)) else (if a2 = 7 then (some ((-2), s1)) else (if a2 = 8 then (x_g (x_in a2 10) (some ((s1 t1.1 15 t1.2 0 a2.toNatClampNeg), s1))) else (if a2 = 9 then (x_g (x_in a2 10) (some ((s1 t1.1 15 t1.2 0 a2.toNatClampNeg), s1))) else (some ((-2), s1))))))))))
def fX5_lostCells (a1 : Int32) (σ : xS) : Option (Int32 × xS) :=
  x_b (fX0_portAt 0 a1 σ) fun z1 s1 => match z1 with | none => (some ((-1), s1)) | some t1 => x_g (ok2 t1) (some ((s1 t1.1 13 t1.2 0 10), s1))
def fX5_lossCause (a1 : Int32) (σ : xS) : Option (Int32 × xS) :=
  x_b (fX5_isOutside a1 0 3 σ) fun z1 s1 => if z1 = 0 then (if (s1 0 0 0 0 9) = 0 then (some ((-5), s1)) else (x_let (3 - a1) fun t2 => x_g (x_in t2 4) (some ((s1 0 11 0 0 t2.toNatClampNeg), s1)))) else (some ((-1), s1))
def fX5_departed (a1 : Int32) (σ : xS) : Option (Int32 × xS) :=
  x_b (fX0_portAt 0 a1 σ) fun z1 s1 => match z1 with | none => (some ((-1), s1)) | some t1 => x_g (ok2 t1) (some ((s1 t1.1 13 t1.2 0 11), s1))
def fX5_admitted (σ : xS) : Option (Int32 × xS) :=
  some ((σ 0 0 0 0 5), σ)
def fX5_time (σ : xS) : Option (Int32 × xS) :=
  some ((σ 0 0 0 0 4), σ)
def fX5_queueLength (a1 : Int32) (a2 : Int32) (σ : xS) : Option (Int32 × xS) :=
  x_b (fX0_queueAt 0 a1 a2 σ) fun z1 s1 => match z1 with | none => (some ((-1), s1)) | some t1 => x_g (ok3 t1) (some ((s1 t1.1 16 t1.2.1 t1.2.2 15), s1))
def BX5_packetAt_43 (a3 : Int32) : Nat → Int32 → Int32 → xS → Option (Int32 × xS)
  | 0, _, _, _ => none
  | n + 1, a5, a6, σ => if a3 ≤ a6 then (x_b (fX1_numberOf 0 a5 σ) fun z4 s4 => some (z4, s4)) else (x_b (fX1_packetBehind 0 a5 σ) fun z5 s5 => x_let (a6 + 1) fun t6 => (BX5_packetAt_43 a3 n) z5 t6 s5)
def fX5_packetAt (a1 : Int32) (a2 : Int32) (a3 : Int32) (σ : xS) : Option (Int32 × xS) :=
  x_b (fX0_queueAt 0 a1 a2 σ) fun z1 s1 => match z1 with | none => (some ((-1), s1)) | some t1 => x_g (ok3 t1) (x_b (fX5_isOutside a3 0 ((s1 t1.1 16 t1.2.1 t1.2.2 15) - 1) s1) fun z2 s2 => if z2 = 0 then (x_let (s2 t1.1 16 t1.2.1 t1.2.2 13) fun t3 => BX5_packetAt_43 a3 x_FU t3 0 s2) else (some ((-1), s2)))
def fX5_fragments (a1 : Int32) (σ : xS) : Option (Int32 × xS) :=
  x_b (fX1_find 0 a1 σ) fun z1 s1 => if z1 = (-1) then (some ((-1), s1)) else (x_b (fX1_partsOf 0 z1 s1) fun z2 s2 => some (z2, s2))
def fX5_fragmentStart (a1 : Int32) (a2 : Int32) (σ : xS) : Option (Int32 × xS) :=
  x_b (fX1_find 0 a1 σ) fun z1 s1 => x_b (fX1_partStart 0 z1 a2 s1) fun z2 s2 => if z2 = (-1) then (some ((-1), s2)) else (some (z2, s2))
def fX5_fragmentLength (a1 : Int32) (a2 : Int32) (σ : xS) : Option (Int32 × xS) :=
  x_b (fX1_find 0 a1 σ) fun z1 s1 => x_b (fX1_partStart 0 z1 a2 s1) fun z2 s2 => if z2 = (-1) then (some ((-1), s2)) else (x_g (x_in z2 128) (some ((s2 0 3 0 0 z2.toNatClampNeg), s2)))
def fX5_freeRuns (σ : xS) : Option (Int32 × xS) :=
  x_b (fX1_countRuns 0 σ) fun z1 s1 => some (z1, s1)
def fX5_runStart (a1 : Int32) (σ : xS) : Option (Int32 × xS) :=
  x_b (fX1_findRun 0 a1 σ) fun z1 s1 => if z1 = (-1) then (some ((-1), s1)) else (some (z1, s1))
def fX5_runLength (a1 : Int32) (σ : xS) : Option (Int32 × xS) :=
  x_b (fX1_findRun 0 a1 σ) fun z1 s1 => if z1 = (-1) then (some ((-1), s1)) else (x_b (fX1_freeLength 0 z1 s1) fun z2 s2 => some (z2, s2))
def fX5_stageFor (a1 : Int32) (a2 : Int32) (a3 : Int32) (σ : xS) : Option (Int32 × xS) :=
  x_b (fX0_portAt 0 a1 σ) fun z1 s1 => match z1 with | none => (x_b (fX0_queueAt 0 a1 a2 s1) fun z2 s2 => match z2 with | none => (some ((-1), s2)) | some t2 => x_g (ok3 t2) (some ((-1), s2))) | some t1 => x_g (ok2 t1) (x_b (fX0_queueAt 0 a1 a2 s1) fun z3 s3 => match z3 with | none => (some ((-1), s3)) | some t3 => x_g (ok3 t3) (x_b (fX5_isOutside a3 1 12 s3) fun z4 s4 => if z4 = 0 then (x_b (fX0_judge 0 t1.1 t1.2 t3.1 t3.2.1 t3.2.2 a3 s4) fun z5 s5 => if (s5 0 0 0 0 10) = 0 then (some ((-6), s5)) else (some ((s5 0 0 0 0 10), s5))) else (some ((-2), s4))))
def BX5_largestAdmissible_35 (d3 : Nat) (p3 : Nat) (d4 : Nat) (p4 : Nat) (r4 : Nat) : Nat → Int32 → xS → Option (Int32 × xS)
  | 0, _, _ => none
  | n + 1, a5, σ => if a5 < 1 then (some (0, σ)) else (x_b (fX0_judge 0 d3 p3 d4 p4 r4 a5 σ) fun z4 s4 => if (s4 0 0 0 0 10) = 0 then (x_let (a5 + (-1)) fun t5 => (BX5_largestAdmissible_35 d3 p3 d4 p4 r4 n) t5 s4) else (some (a5, s4)))
def fX5_largestAdmissible (a1 : Int32) (a2 : Int32) (σ : xS) : Option (Int32 × xS) :=
  x_b (fX0_portAt 0 a1 σ) fun z1 s1 => match z1 with | none => (x_b (fX0_queueAt 0 a1 a2 s1) fun z2 s2 => match z2 with | none => (some ((-1), s2)) | some t2 => x_g (ok3 t2) (some ((-1), s2))) | some t1 => x_g (ok2 t1) (x_b (fX0_queueAt 0 a1 a2 s1) fun z3 s3 => match z3 with | none => (some ((-1), s3)) | some t3 => x_g (ok3 t3) (BX5_largestAdmissible_35 t1.1 t1.2 t3.1 t3.2.1 t3.2.2 x_FU 12 s3))
def BX5_burstCapacity_82 (a3 : Int32) (d4 : Nat) (p4 : Nat) (d5 : Nat) (p5 : Nat) (r5 : Nat) : Nat → Int32 → xS → Option (Int32 × xS)
  | 0, _, _ => none
  | n + 1, a6, σ => if 128 ≤ a6 then (some (128, σ)) else (x_b (fX0_receive 1 d4 p4 d5 p5 r5 a3 σ) fun z8 s8 => if z8 = (-6) then (some (a6, s8)) else (x_let (a6 + 1) fun t9 => (BX5_burstCapacity_82 a3 d4 p4 d5 p5 r5 n) t9 s8))
def fX5_burstCapacity (a1 : Int32) (a2 : Int32) (a3 : Int32) (σ : xS) : Option (Int32 × xS) :=
  x_b (fX0_queueAt 0 a1 a2 σ) fun z1 s1 => match z1 with | none => (some ((-1), s1)) | some t1 => x_g (ok3 t1) (x_b (fX5_isOutside a3 1 12 s1) fun z2 s2 => if z2 = 0 then (x_b (fX0_copyFrom 1 0 s2) fun z3 s3 => x_let (x_set s3 1 0 0 0 3 0) fun s4 => x_b (fX0_portAt 1 a1 s4) fun z5 s5 => match z5 with | none => (x_b (fX0_queueAt 1 a1 a2 s5) fun z6 s6 => match z6 with | none => (some ((-1), s6)) | some t6 => x_g (ok3 t6) (some ((-1), s6))) | some t5 => x_g (ok2 t5) (x_b (fX0_queueAt 1 a1 a2 s5) fun z7 s7 => match z7 with | none => (some ((-1), s7)) | some t7 => x_g (ok3 t7) (BX5_burstCapacity_82 a3 t5.1 t5.2 t7.1 t7.2.1 t7.2.2 x_FU 0 s7))) else (some ((-2), s2)))
def BX5_drainTicks_69 (d3 : Nat) (p3 : Nat) (a4 : Int32) : Nat → Int32 → xS → Option (Int32 × xS)
  | 0, _, _ => none
  | n + 1, a5, σ => if a4 < a5 then (some ((-5), σ)) else (x_b (fX0_send 1 d3 p3 σ) fun z5 s5 => x_b (fX2_isIdle d3 p3 s5) fun z6 s6 => if z6 = 0 then (x_let (a5 + 1) fun t7 => (BX5_drainTicks_69 d3 p3 a4 n) t7 s6) else (some (a5, s6)))
def fX5_drainTicks (a1 : Int32) (σ : xS) : Option (Int32 × xS) :=
  x_b (fX0_portAt 0 a1 σ) fun z1 s1 => match z1 with | none => (some ((-1), s1)) | some t1 => x_g (ok2 t1) (x_b (fX2_isIdle t1.1 t1.2 s1) fun z2 s2 => if z2 = 0 then (x_b (fX0_copyFrom 1 0 s2) fun z3 s3 => x_b (fX0_portAt 1 a1 s3) fun z4 s4 => match z4 with | none => (some ((-1), s4)) | some t4 => x_g (ok2 t4) (if (s4 t4.1 13 t4.2 0 6) = 0 then (BX5_drainTicks_69 t4.1 t4.2 1 x_FU 1 s4) else (BX5_drainTicks_69 t4.1 t4.2 1000 x_FU 1 s4))) else (some (0, s2)))
def BX5_greatestCommonDivisor_7 : Nat → Int32 → Int32 → Int32 → xS → Option (Int32 × xS)
  | 0, _, _, _, _ => none
  | n + 1, a2, a3, a4, σ => if 64 ≤ a4 then (some (a2, σ)) else (if a3 = 0 then (some (a2, σ)) else (if a3 = 0 then none else x_let (a2 - a2 / a3 * a3) fun t2 => x_let (a4 + 1) fun t3 => (BX5_greatestCommonDivisor_7 n) a3 t2 t3 σ))
def fX5_greatestCommonDivisor (a0 : Int32) (a1 : Int32) (σ : xS) : Option (Int32 × xS) :=
  BX5_greatestCommonDivisor_7 x_FU a0 a1 0 σ
def BX5_equilibrium_39 (a1 : Int32) (a2 : Int32) (a3 : Int32) : Nat → Int32 → Int32 → xS → Option (Int32 × xS)
  | 0, _, _, _ => none
  | n + 1, a4, a5, σ => if (3 * (σ 0 0 0 0 2)) ≤ a5 then (x_b (fX5_greatestCommonDivisor a3 a4 σ) fun z3 s3 => x_let (i_max 1 z3) fun t4 => if a2 = 0 then (if t4 = 0 then none else some ((a3 / t4), s3)) else (if t4 = 0 then none else some ((a4 / t4), s3))) else (x_b (fX0_queueAt 0 (a5 / 3) (a5 - a5 / 3 * 3) σ) fun z7 s7 => match z7 with | none => (x_let (a5 + 1) fun t8 => (BX5_equilibrium_39 a1 a2 a3 n) a4 t8 s7) | some t7 => x_g (ok3 t7) (if ((a1 >>> (a5 &&& 31)) &&& 1) = 1 then (x_let (a4 + (s7 t7.1 16 t7.2.1 t7.2.2 1)) fun t10 => x_let (a5 + 1) fun t11 => (BX5_equilibrium_39 a1 a2 a3 n) t10 t11 s7) else (x_let (a5 + 1) fun t9 => (BX5_equilibrium_39 a1 a2 a3 n) a4 t9 s7)))
def fX5_equilibrium (a1 : Int32) (a2 : Int32) (σ : xS) : Option (Int32 × xS) :=
  if a1 < 0 then (some ((-2), σ)) else (if (a1 >>> ((3 * (σ 0 0 0 0 2)) &&& 31)) = 0 then (x_b (fX0_poolSize 0 σ) fun z1 s1 => x_let (8 * z1) fun t2 => BX5_equilibrium_39 a1 a2 t2 x_FU 8 0 s1) else (some ((-2), σ)))
def fX5_append (a1 : Int32) (σ : xS) : Option (Int32 × xS) :=
  x_b (fX5_isOutside a1 0 127 σ) fun z1 s1 => if z1 = 0 then (if (s1 4 23 0 0 1) < 120 then (x_let (s1 4 23 0 0 1) fun t2 => x_g (x_in t2 120) (x_let (x_set s1 4 24 0 0 t2.toNatClampNeg a1) fun s4 => x_let (x_set s4 4 23 0 0 1 ((s4 4 23 0 0 1) + 1)) fun s5 => some ((s5 4 23 0 0 1), s5))) else (some ((-3), s1))) else (some ((-2), s1))
def fX5_clearText (σ : xS) : Option (Int32 × xS) :=
  x_let (σ 4 23 0 0 1) fun t1 => x_let (x_set σ 4 23 0 0 1 0) fun s2 => some (t1, s2)
def fX5_faultPosition (σ : xS) : Option (Int32 × xS) :=
  x_b (fX4_findFault (σ 0 0 0 0 2) σ) fun z1 s1 => if z1 = (-1) then (some ((-5), s1)) else (some (z1, s1))
def BX5_run_216 (a2 : Int32) (a3 : Int32) (o4 : Option (Nat × Nat)) (k37 : Int32 → Int32 → xS → Option (Int32 × xS)) (σ : xS) : Option (Int32 × xS) :=
  match o4 with | none => (if (σ 4 23 0 0 4) = 103 then (x_let (a3 + 1) fun t7 => k37 a2 t7 σ) else (x_let (a3 + 1) fun t6 => k37 a2 t6 σ)) | some w4 => x_g (ok2 w4) (if (σ 4 23 0 0 4) = 103 then (x_b (fX0_giveGrant 0 w4.1 w4.2 (σ 4 23 0 0 5) (σ 4 23 0 0 7) σ) fun z9 s9 => x_let (a3 + 1) fun t10 => k37 a2 t10 s9) else (x_let (a3 + 1) fun t8 => k37 a2 t8 σ))
def BX5_run_157 (a2 : Int32) (a3 : Int32) (k37 : Int32 → Int32 → xS → Option (Int32 × xS)) : Nat → Int32 → xS → Option (Int32 × xS)
  | 0, _, _ => none
  | n + 1, a5, σ => if (σ 4 23 0 0 7) ≤ a5 then (x_let (a3 + 1) fun t11 => k37 a2 t11 σ) else (x_b (fX0_passTick 0 σ) fun z12 s12 => x_let (a5 + 1) fun t13 => (BX5_run_157 a2 a3 k37 n) t13 s12)
def BX5_run_37 : Nat → Int32 → Int32 → xS → Option (Int32 × xS)
  | 0, _, _, _ => none
  | n + 1, a2, a3, σ => if 120 ≤ a3 then (some (a2, σ)) else (x_b (fX4_hasMore  σ) fun z3 s3 => if z3 = 0 then (some (a2, s3)) else (x_b (fX4_readOrder (s3 0 0 0 0 2) s3) fun z4 s4 => x_b (fX0_portAt 0 (s4 4 23 0 0 5) s4) fun z5 s5 => match z5 with | none => (if (s5 4 23 0 0 4) = 97 then (x_b (fX0_queueAt 0 (s5 4 23 0 0 5) (s5 4 23 0 0 6) s5) fun z14 s14 => match z14 with | none => (x_b (fX5_lossOfArrivals none none (s14 4 23 0 0 7) (s14 4 23 0 0 8) s14) fun z15 s15 => x_let (a2 + z15) fun t16 => x_let (a3 + 1) fun t17 => (BX5_run_37 n) t16 t17 s15) | some t14 => x_g (ok3 t14) (x_b (fX5_lossOfArrivals none (some (t14.1, t14.2.1, t14.2.2)) (s14 4 23 0 0 7) (s14 4 23 0 0 8) s14) fun z18 s18 => x_let (a2 + z18) fun t19 => x_let (a3 + 1) fun t20 => (BX5_run_37 n) t19 t20 s18)) else (if (s5 4 23 0 0 4) = 116 then (BX5_run_157 a2 a3 (BX5_run_37 n) x_FU 0 s5) else (if (s5 4 23 0 0 4) = 102 then (BX5_run_216 a2 a3 none (BX5_run_37 n) s5) else (BX5_run_216 a2 a3 none (BX5_run_37 n) s5)))) | some t5 => x_g (ok2 t5) (if (s5 4 23 0 0 4) = 97 then (x_b (fX0_queueAt 0 (s5 4 23 0 0 5) (s5 4 23 0 0 6) s5) fun z23 s23 => match z23 with | none => (x_b (fX5_lossOfArrivals (some (t5.1, t5.2)) none (s23 4 23 0 0 7) (s23 4 23 0 0 8) s23) fun z24 s24 => x_let (a2 + z24) fun t25 => x_let (a3 + 1) fun t26 => (BX5_run_37 n) t25 t26 s24) | some t23 => x_g (ok3 t23) (x_b (fX5_lossOfArrivals (some (t5.1, t5.2)) (some (t23.1, t23.2.1, t23.2.2)) (s23 4 23 0 0 7) (s23 4 23 0 0 8) s23) fun z27 s27 => x_let (a2 + z27) fun t28 => x_let (a3 + 1) fun t29 => (BX5_run_37 n) t28 t29 s27)) else (if (s5 4 23 0 0 4) = 116 then (BX5_run_157 a2 a3 (BX5_run_37 n) x_FU 0 s5) else (if (s5 4 23 0 0 4) = 102 then (x_b (fX0_discardAll 0 t5.1 t5.2 s5) fun z21 s21 => x_let (a3 + 1) fun t22 => (BX5_run_37 n) a2 t22 s21) else (BX5_run_216 a2 a3 (some (t5.1, t5.2)) (BX5_run_37 n) s5))))))
def fX5_run (σ : xS) : Option (Int32 × xS) :=
  x_b (fX4_findFault (σ 0 0 0 0 2) σ) fun z1 s1 => if z1 = (-1) then (x_b (fX4_rewind  s1) fun z2 s2 => BX5_run_37 x_FU 0 0 s2) else (some (((-1000) - z1), s1))
def fX5_save (a1 : Int32) (σ : xS) : Option (Int32 × xS) :=
  x_b (fX5_isOutside a1 0 1 σ) fun z1 s1 => if z1 = 0 then (x_g (x_in a1 2) (x_b (fX0_copyFrom (a1.toNatClampNeg + 2) 0 s1) fun z3 s3 => x_g (x_in a1 2) (x_let (x_set s3 4 22 0 0 a1.toNatClampNeg 1) fun s5 => some ((s5 0 0 0 0 4), s5)))) else (some ((-1), s1))
def fX5_restore (a1 : Int32) (σ : xS) : Option (Int32 × xS) :=
  x_b (fX5_isOutside a1 0 1 σ) fun z1 s1 => if z1 = 0 then (x_g (x_in a1 2) (if (s1 4 22 0 0 a1.toNatClampNeg) = 0 then (some ((-5), s1)) else (x_g (x_in a1 2) (x_b (fX0_copyFrom 0 (a1.toNatClampNeg + 2) s1) fun z4 s4 => some ((s4 0 0 0 0 4), s4))))) else (some ((-1), s1))
def BX5_mixPackets_54 (d3 : Nat) (p3 : Nat) (r3 : Nat) (d4 : Nat) (a7 : Int32) (a8 : Int32) (k21 : Int64 → Int32 → Int32 → xS → Option (Int64 × xS)) : Nat → Int64 → Int32 → Int32 → xS → Option (Int64 × xS)
  | 0, _, _, _, _ => none
  | n + 1, g5, a9, a10, σ => x_b (fX1_partsOf d4 a7 σ) fun z4 s4 => if z4 ≤ a10 then (x_b (fX1_packetBehind d4 a7 s4) fun z5 s5 => x_let (a8 + 1) fun t6 => k21 g5 z5 t6 s5) else (x_let ((31 * g5) + a9.toInt64) fun t7 => x_b (fX1_partBehind d4 a9 s4) fun z8 s8 => x_let (a10 + 1) fun t9 => (BX5_mixPackets_54 d3 p3 r3 d4 a7 a8 k21 n) t7 z8 t9 s8)
def BX5_mixPackets_21 (d3 : Nat) (p3 : Nat) (r3 : Nat) (d4 : Nat) : Nat → Int64 → Int32 → Int32 → xS → Option (Int64 × xS)
  | 0, _, _, _, _ => none
  | n + 1, g5, a7, a8, σ => if (σ d3 16 p3 r3 15) ≤ a8 then (some (g5, σ)) else (x_b (fX1_numberOf d4 a7 σ) fun z2 s2 => x_let ((31 * g5) + z2.toInt64) fun t3 => BX5_mixPackets_54 d3 p3 r3 d4 a7 a8 (BX5_mixPackets_21 d3 p3 r3 d4 n) x_FU t3 a7 0 s2)
def fX5_mixPackets (g1 : Int64) (d3 : Nat) (p3 : Nat) (r3 : Nat) (σ : xS) : Option (Int64 × xS) :=
  x_let (σ d3 16 p3 r3 13) fun t1 => BX5_mixPackets_21 d3 p3 r3 0 x_FU g1 t1 0 σ
def BX5_mixPort_87 (d6 : Nat) (p6 : Nat) (a7 : Int32) : Nat → Int64 → Int32 → xS → Option (Int64 × xS)
  | 0, _, _, _ => none
  | n + 1, g4, a8, σ => if a7 ≤ a8 then (some (g4, σ)) else (x_g (x_in a8 3) (x_let ((31 * g4) + ((σ d6 16 p6 (a8.toNatClampNeg) 10).toInt64)) fun t8 => x_let ((31 * t8) + ((σ d6 16 p6 (a8.toNatClampNeg) 11).toInt64)) fun t9 => x_let ((31 * t9) + ((σ d6 16 p6 (a8.toNatClampNeg) 12).toInt64)) fun t10 => x_let ((31 * t10) + ((σ d6 16 p6 (a8.toNatClampNeg) 4).toInt64)) fun t11 => x_b (fX5_asNumber (σ d6 16 p6 (a8.toNatClampNeg) 8) σ) fun z12 s12 => x_let ((31 * t11) + z12.toInt64) fun t13 => x_let ((31 * t13) + ((s12 d6 16 p6 (a8.toNatClampNeg) 6).toInt64)) fun t14 => x_let ((31 * t14) + ((s12 d6 16 p6 (a8.toNatClampNeg) 15).toInt64)) fun t15 => x_b (fX5_mixPackets t15 d6 p6 (a8.toNatClampNeg) s12) fun z16 s16 => x_let (a8 + 1) fun t17 => (BX5_mixPort_87 d6 p6 a7 n) z16 t17 s16))
def fX5_mixPort (g1 : Int64) (d3 : Nat) (p3 : Nat) (σ : xS) : Option (Int64 × xS) :=
  x_b (fX2_guaranteeLeft d3 p3 σ) fun z1 s1 => x_let ((31 * g1) + z1.toInt64) fun t2 => x_let ((31 * t2) + ((s1 d3 13 p3 0 4).toInt64)) fun t3 => x_let ((31 * t3) + ((s1 d3 13 p3 0 7).toInt64)) fun t4 => x_let ((31 * t4) + ((s1 d3 13 p3 0 11).toInt64)) fun t5 => x_let ((31 * t5) + ((s1 d3 13 p3 0 10).toInt64)) fun t6 => BX5_mixPort_87 d3 p3 3 x_FU t6 0 s1
def BX5_checksum_109 (d3 : Nat) : Nat → Int64 → Int32 → xS → Option (Int64 × xS)
  | 0, _, _, _ => none
  | n + 1, g1, a4, σ => if (σ d3 1 0 0 0) ≤ a4 then (some (g1, σ)) else (x_b (fX1_startsRun d3 a4 σ) fun z7 s7 => if z7 = 0 then (x_let (a4 + 1) fun t8 => (BX5_checksum_109 d3 n) g1 t8 s7) else (x_let ((31 * g1) + a4.toInt64) fun t9 => x_b (fX1_freeLength d3 a4 s7) fun z10 s10 => x_let ((31 * t9) + z10.toInt64) fun t11 => x_let (a4 + 1) fun t12 => (BX5_checksum_109 d3 n) t11 t12 s10))
def BX5_checksum_66 : Nat → Int64 → Int32 → xS → Option (Int64 × xS)
  | 0, _, _, _ => none
  | n + 1, g1, a3, σ => if (σ 0 0 0 0 2) ≤ a3 then (BX5_checksum_109 0 x_FU g1 0 σ) else (x_g (x_in a3 6) (x_b (fX5_mixPort g1 0 (a3.toNatClampNeg) σ) fun z14 s14 => x_let (a3 + 1) fun t15 => (BX5_checksum_66 n) z14 t15 s14))
def fX5_checksum (σ : xS) : Option (Int64 × xS) :=
  x_let ((31 * 7) + ((σ 0 0 0 0 4).toInt64)) fun t1 => x_let ((31 * t1) + ((σ 0 0 0 0 5).toInt64)) fun t2 => x_b (fX0_sharedLeft 0 σ) fun z3 s3 => x_let ((31 * t2) + z3.toInt64) fun t4 => x_b (fX0_poolSize 0 s3) fun z5 s5 => x_let ((31 * t4) + z5.toInt64) fun t6 => BX5_checksum_66 x_FU t6 0 s5
