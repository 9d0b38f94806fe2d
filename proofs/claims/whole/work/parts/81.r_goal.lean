/-- case 0: reset -/
def xP0 (Inv : Nat → xS → Prop) : Prop := ∀ (n : Nat) (σ : xS) (a1 a2 : Int32), Inv n σ → n < 512 → ∃ (r : Int32) (σ1 σ2 : xS), fX5_reset a1 a2 σ = some (r, σ1) ∧ fX6_reset a1 a2 σ1 = some (r, σ2) ∧ Inv (n + 1) σ2
/-- case 1: setReserve -/
def xP1 (Inv : Nat → xS → Prop) : Prop := ∀ (n : Nat) (σ : xS) (a1 a2 : Int32), Inv n σ → n < 512 → ∃ (r : Int32) (σ1 σ2 : xS), fX5_setReserve a1 a2 σ = some (r, σ1) ∧ fX6_setReserve a1 a2 σ1 = some (r, σ2) ∧ Inv (n + 1) σ2
/-- case 2: setHeadroom -/
def xP2 (Inv : Nat → xS → Prop) : Prop := ∀ (n : Nat) (σ : xS) (a1 a2 : Int32), Inv n σ → n < 512 → ∃ (r : Int32) (σ1 σ2 : xS), fX5_setHeadroom a1 a2 σ = some (r, σ1) ∧ fX6_setHeadroom a1 a2 σ1 = some (r, σ2) ∧ Inv (n + 1) σ2
/-- case 3: setAlpha -/
def xP3 (Inv : Nat → xS → Prop) : Prop := ∀ (n : Nat) (σ : xS) (a1 a2 a3 : Int32), Inv n σ → n < 512 → ∃ (r : Int32) (σ1 σ2 : xS), fX5_setAlpha a1 a2 a3 σ = some (r, σ1) ∧ fX6_setAlpha a1 a2 a3 σ1 = some (r, σ2) ∧ Inv (n + 1) σ2
/-- case 4: setBurst -/
def xP4 (Inv : Nat → xS → Prop) : Prop := ∀ (n : Nat) (σ : xS) (a1 a2 a3 a4 : Int32), Inv n σ → n < 512 → ∃ (r : Int32) (σ1 σ2 : xS), fX5_setBurst a1 a2 a3 a4 σ = some (r, σ1) ∧ fX6_setBurst a1 a2 a3 a4 σ1 = some (r, σ2) ∧ Inv (n + 1) σ2
/-- case 5: setLossless -/
def xP5 (Inv : Nat → xS → Prop) : Prop := ∀ (n : Nat) (σ : xS) (a1 a2 a3 : Int32), Inv n σ → n < 512 → x_z a3 = true → ∃ (r : Int32) (σ1 σ2 : xS), fX5_setLossless a1 a2 a3 σ = some (r, σ1) ∧ fX6_setLossless a1 a2 a3 σ1 = some (r, σ2) ∧ Inv (n + 1) σ2
/-- case 6: setScheduler -/
def xP6 (Inv : Nat → xS → Prop) : Prop := ∀ (n : Nat) (σ : xS) (a1 a2 a3 : Int32), Inv n σ → n < 512 → x_z a2 = true → ∃ (r : Int32) (σ1 σ2 : xS), fX5_setScheduler a1 a2 a3 σ = some (r, σ1) ∧ fX6_setScheduler a1 a2 a3 σ1 = some (r, σ2) ∧ Inv (n + 1) σ2
/-- case 7: setQuantum -/
def xP7 (Inv : Nat → xS → Prop) : Prop := ∀ (n : Nat) (σ : xS) (a1 a2 a3 : Int32), Inv n σ → n < 512 → ∃ (r : Int32) (σ1 σ2 : xS), fX5_setQuantum a1 a2 a3 σ = some (r, σ1) ∧ fX6_setQuantum a1 a2 a3 σ1 = some (r, σ2) ∧ Inv (n + 1) σ2
/-- case 8: setPushOut -/
def xP8 (Inv : Nat → xS → Prop) : Prop := ∀ (n : Nat) (σ : xS) (a1 : Int32), Inv n σ → n < 512 → x_z a1 = true → ∃ (r : Int32) (σ1 σ2 : xS), fX5_setPushOut a1 σ = some (r, σ1) ∧ fX6_setPushOut a1 σ1 = some (r, σ2) ∧ Inv (n + 1) σ2
/-- case 9: grant -/
def xP9 (Inv : Nat → xS → Prop) : Prop := ∀ (n : Nat) (σ : xS) (a1 a2 : Int32), Inv n σ → n < 512 → ∃ (r : Int32) (σ1 σ2 : xS), fX5_grant a1 a2 σ = some (r, σ1) ∧ fX6_grant a1 a2 σ1 = some (r, σ2) ∧ Inv (n + 1) σ2
/-- case 10: withdraw -/
def xP10 (Inv : Nat → xS → Prop) : Prop := ∀ (n : Nat) (σ : xS) (a1 : Int32), Inv n σ → n < 512 → ∃ (r : Int32) (σ1 σ2 : xS), fX5_withdraw a1 σ = some (r, σ1) ∧ fX6_withdraw a1 σ1 = some (r, σ2) ∧ Inv (n + 1) σ2
/-- case 11: arrive -/
def xP11 (Inv : Nat → xS → Prop) : Prop := ∀ (n : Nat) (σ : xS) (a1 a2 a3 : Int32), Inv n σ → n < 512 → ∃ (r : Int32) (σ1 σ2 : xS), fX5_arrive a1 a2 a3 σ = some (r, σ1) ∧ fX6_arrive a1 a2 a3 σ1 = some (r, σ2) ∧ Inv (n + 1) σ2
/-- case 12: ticks -/
def xP12 (Inv : Nat → xS → Prop) : Prop := ∀ (n : Nat) (σ : xS) (a1 : Int32), Inv n σ → n < 512 → ∃ (r : Int32) (σ1 σ2 : xS), fX5_ticks a1 σ = some (r, σ1) ∧ fX6_ticks a1 σ1 = some (r, σ2) ∧ Inv (n + 1) σ2
/-- case 13: flush -/
def xP13 (Inv : Nat → xS → Prop) : Prop := ∀ (n : Nat) (σ : xS) (a1 : Int32), Inv n σ → n < 512 → ∃ (r : Int32) (σ1 σ2 : xS), fX5_flush a1 σ = some (r, σ1) ∧ fX6_flush a1 σ1 = some (r, σ2) ∧ Inv (n + 1) σ2
/-- case 14: traffic -/
def xP14 (Inv : Nat → xS → Prop) : Prop := ∀ (n : Nat) (σ : xS) (a1 a2 a3 : Int32), Inv n σ → n < 512 → ∃ (r : Int32) (σ1 σ2 : xS), fX5_traffic a1 a2 a3 σ = some (r, σ1) ∧ fX6_traffic a1 a2 a3 σ1 = some (r, σ2) ∧ Inv (n + 1) σ2
/-- case 15: freeShared -/
def xP15 (Inv : Nat → xS → Prop) : Prop := ∀ (n : Nat) (σ : xS), Inv n σ → n < 512 → ∃ (r : Int32) (σ1 σ2 : xS), fX5_freeShared  σ = some (r, σ1) ∧ fX6_freeShared  σ1 = some (r, σ2) ∧ Inv (n + 1) σ2
/-- case 16: sharedPool -/
def xP16 (Inv : Nat → xS → Prop) : Prop := ∀ (n : Nat) (σ : xS), Inv n σ → n < 512 → ∃ (r : Int32) (σ1 σ2 : xS), fX5_sharedPool  σ = some (r, σ1) ∧ fX6_sharedPool  σ1 = some (r, σ2) ∧ Inv (n + 1) σ2
/-- case 17: freeGuarantee -/
def xP17 (Inv : Nat → xS → Prop) : Prop := ∀ (n : Nat) (σ : xS) (a1 : Int32), Inv n σ → n < 512 → ∃ (r : Int32) (σ1 σ2 : xS), fX5_freeGuarantee a1 σ = some (r, σ1) ∧ fX6_freeGuarantee a1 σ1 = some (r, σ2) ∧ Inv (n + 1) σ2
/-- case 18: grantOf -/
def xP18 (Inv : Nat → xS → Prop) : Prop := ∀ (n : Nat) (σ : xS) (a1 : Int32), Inv n σ → n < 512 → ∃ (r : Int32) (σ1 σ2 : xS), fX5_grantOf a1 σ = some (r, σ1) ∧ fX6_grantOf a1 σ1 = some (r, σ2) ∧ Inv (n + 1) σ2
/-- case 19: threshold -/
def xP19 (Inv : Nat → xS → Prop) : Prop := ∀ (n : Nat) (σ : xS) (a1 a2 : Int32), Inv n σ → n < 512 → ∃ (r : Int32) (σ1 σ2 : xS), fX5_threshold a1 a2 σ = some (r, σ1) ∧ fX6_threshold a1 a2 σ1 = some (r, σ2) ∧ Inv (n + 1) σ2
/-- case 20: guaranteedCells -/
def xP20 (Inv : Nat → xS → Prop) : Prop := ∀ (n : Nat) (σ : xS) (a1 a2 : Int32), Inv n σ → n < 512 → ∃ (r : Int32) (σ1 σ2 : xS), fX5_guaranteedCells a1 a2 σ = some (r, σ1) ∧ fX6_guaranteedCells a1 a2 σ1 = some (r, σ2) ∧ Inv (n + 1) σ2
/-- case 21: sharedCells -/
def xP21 (Inv : Nat → xS → Prop) : Prop := ∀ (n : Nat) (σ : xS) (a1 a2 : Int32), Inv n σ → n < 512 → ∃ (r : Int32) (σ1 σ2 : xS), fX5_sharedCells a1 a2 σ = some (r, σ1) ∧ fX6_sharedCells a1 a2 σ1 = some (r, σ2) ∧ Inv (n + 1) σ2
/-- case 22: headroomCells -/
def xP22 (Inv : Nat → xS → Prop) : Prop := ∀ (n : Nat) (σ : xS) (a1 a2 : Int32), Inv n σ → n < 512 → ∃ (r : Int32) (σ1 σ2 : xS), fX5_headroomCells a1 a2 σ = some (r, σ1) ∧ fX6_headroomCells a1 a2 σ1 = some (r, σ2) ∧ Inv (n + 1) σ2
/-- case 23: burstTank -/
def xP23 (Inv : Nat → xS → Prop) : Prop := ∀ (n : Nat) (σ : xS) (a1 a2 : Int32), Inv n σ → n < 512 → ∃ (r : Int32) (σ1 σ2 : xS), fX5_burstTank a1 a2 σ = some (r, σ1) ∧ fX6_burstTank a1 a2 σ1 = some (r, σ2) ∧ Inv (n + 1) σ2
/-- case 24: isPaused -/
def xP24 (Inv : Nat → xS → Prop) : Prop := ∀ (n : Nat) (σ : xS) (a1 a2 : Int32), Inv n σ → n < 512 → ∃ (r : Int32) (σ1 σ2 : xS), fX5_isPaused a1 a2 σ = some (r, σ1) ∧ fX6_isPaused a1 a2 σ1 = some (r, σ2) ∧ Inv (n + 1) σ2
/-- case 25: pauses -/
def xP25 (Inv : Nat → xS → Prop) : Prop := ∀ (n : Nat) (σ : xS) (a1 a2 : Int32), Inv n σ → n < 512 → ∃ (r : Int32) (σ1 σ2 : xS), fX5_pauses a1 a2 σ = some (r, σ1) ∧ fX6_pauses a1 a2 σ1 = some (r, σ2) ∧ Inv (n + 1) σ2
/-- case 26: credit -/
def xP26 (Inv : Nat → xS → Prop) : Prop := ∀ (n : Nat) (σ : xS) (a1 : Int32), Inv n σ → n < 512 → ∃ (r : Int32) (σ1 σ2 : xS), fX5_credit a1 σ = some (r, σ1) ∧ fX6_credit a1 σ1 = some (r, σ2) ∧ Inv (n + 1) σ2
/-- case 27: deficit -/
def xP27 (Inv : Nat → xS → Prop) : Prop := ∀ (n : Nat) (σ : xS) (a1 a2 : Int32), Inv n σ → n < 512 → ∃ (r : Int32) (σ1 σ2 : xS), fX5_deficit a1 a2 σ = some (r, σ1) ∧ fX6_deficit a1 a2 σ1 = some (r, σ2) ∧ Inv (n + 1) σ2
/-- case 28: losses -/
def xP28 (Inv : Nat → xS → Prop) : Prop := ∀ (n : Nat) (σ : xS) (a1 a2 : Int32), Inv n σ → n < 512 → ∃ (r : Int32) (σ1 σ2 : xS), fX5_losses a1 a2 σ = some (r, σ1) ∧ fX6_losses a1 a2 σ1 = some (r, σ2) ∧ Inv (n + 1) σ2
/-- case 29: lostCells -/
def xP29 (Inv : Nat → xS → Prop) : Prop := ∀ (n : Nat) (σ : xS) (a1 : Int32), Inv n σ → n < 512 → ∃ (r : Int32) (σ1 σ2 : xS), fX5_lostCells a1 σ = some (r, σ1) ∧ fX6_lostCells a1 σ1 = some (r, σ2) ∧ Inv (n + 1) σ2
/-- case 30: lossCause -/
def xP30 (Inv : Nat → xS → Prop) : Prop := ∀ (n : Nat) (σ : xS) (a1 : Int32), Inv n σ → n < 512 → ∃ (r : Int32) (σ1 σ2 : xS), fX5_lossCause a1 σ = some (r, σ1) ∧ fX6_lossCause a1 σ1 = some (r, σ2) ∧ Inv (n + 1) σ2
/-- case 31: departed -/
def xP31 (Inv : Nat → xS → Prop) : Prop := ∀ (n : Nat) (σ : xS) (a1 : Int32), Inv n σ → n < 512 → ∃ (r : Int32) (σ1 σ2 : xS), fX5_departed a1 σ = some (r, σ1) ∧ fX6_departed a1 σ1 = some (r, σ2) ∧ Inv (n + 1) σ2
/-- case 32: admitted -/
def xP32 (Inv : Nat → xS → Prop) : Prop := ∀ (n : Nat) (σ : xS), Inv n σ → n < 512 → ∃ (r : Int32) (σ1 σ2 : xS), fX5_admitted  σ = some (r, σ1) ∧ fX6_admitted  σ1 = some (r, σ2) ∧ Inv (n + 1) σ2
/-- case 33: time -/
def xP33 (Inv : Nat → xS → Prop) : Prop := ∀ (n : Nat) (σ : xS), Inv n σ → n < 512 → ∃ (r : Int32) (σ1 σ2 : xS), fX5_time  σ = some (r, σ1) ∧ fX6_time  σ1 = some (r, σ2) ∧ Inv (n + 1) σ2
/-- case 34: queueLength -/
def xP34 (Inv : Nat → xS → Prop) : Prop := ∀ (n : Nat) (σ : xS) (a1 a2 : Int32), Inv n σ → n < 512 → ∃ (r : Int32) (σ1 σ2 : xS), fX5_queueLength a1 a2 σ = some (r, σ1) ∧ fX6_queueLength a1 a2 σ1 = some (r, σ2) ∧ Inv (n + 1) σ2
/-- case 35: packetAt -/
def xP35 (Inv : Nat → xS → Prop) : Prop := ∀ (n : Nat) (σ : xS) (a1 a2 a3 : Int32), Inv n σ → n < 512 → ∃ (r : Int32) (σ1 σ2 : xS), fX5_packetAt a1 a2 a3 σ = some (r, σ1) ∧ fX6_packetAt a1 a2 a3 σ1 = some (r, σ2) ∧ Inv (n + 1) σ2
/-- case 36: fragments -/
def xP36 (Inv : Nat → xS → Prop) : Prop := ∀ (n : Nat) (σ : xS) (a1 : Int32), Inv n σ → n < 512 → ∃ (r : Int32) (σ1 σ2 : xS), fX5_fragments a1 σ = some (r, σ1) ∧ fX6_fragments a1 σ1 = some (r, σ2) ∧ Inv (n + 1) σ2
/-- case 37: fragmentStart -/
def xP37 (Inv : Nat → xS → Prop) : Prop := ∀ (n : Nat) (σ : xS) (a1 a2 : Int32), Inv n σ → n < 512 → ∃ (r : Int32) (σ1 σ2 : xS), fX5_fragmentStart a1 a2 σ = some (r, σ1) ∧ fX6_fragmentStart a1 a2 σ1 = some (r, σ2) ∧ Inv (n + 1) σ2
/-- case 38: fragmentLength -/
def xP38 (Inv : Nat → xS → Prop) : Prop := ∀ (n : Nat) (σ : xS) (a1 a2 : Int32), Inv n σ → n < 512 → ∃ (r : Int32) (σ1 σ2 : xS), fX5_fragmentLength a1 a2 σ = some (r, σ1) ∧ fX6_fragmentLength a1 a2 σ1 = some (r, σ2) ∧ Inv (n + 1) σ2
/-- case 39: freeRuns -/
def xP39 (Inv : Nat → xS → Prop) : Prop := ∀ (n : Nat) (σ : xS), Inv n σ → n < 512 → ∃ (r : Int32) (σ1 σ2 : xS), fX5_freeRuns  σ = some (r, σ1) ∧ fX6_freeRuns  σ1 = some (r, σ2) ∧ Inv (n + 1) σ2
/-- case 40: runStart -/
def xP40 (Inv : Nat → xS → Prop) : Prop := ∀ (n : Nat) (σ : xS) (a1 : Int32), Inv n σ → n < 512 → ∃ (r : Int32) (σ1 σ2 : xS), fX5_runStart a1 σ = some (r, σ1) ∧ fX6_runStart a1 σ1 = some (r, σ2) ∧ Inv (n + 1) σ2
/-- case 41: runLength -/
def xP41 (Inv : Nat → xS → Prop) : Prop := ∀ (n : Nat) (σ : xS) (a1 : Int32), Inv n σ → n < 512 → ∃ (r : Int32) (σ1 σ2 : xS), fX5_runLength a1 σ = some (r, σ1) ∧ fX6_runLength a1 σ1 = some (r, σ2) ∧ Inv (n + 1) σ2
/-- case 42: stageFor -/
def xP42 (Inv : Nat → xS → Prop) : Prop := ∀ (n : Nat) (σ : xS) (a1 a2 a3 : Int32), Inv n σ → n < 512 → ∃ (r : Int32) (σ1 σ2 : xS), fX5_stageFor a1 a2 a3 σ = some (r, σ1) ∧ fX6_stageFor a1 a2 a3 σ1 = some (r, σ2) ∧ Inv (n + 1) σ2
/-- case 43: largestAdmissible -/
def xP43 (Inv : Nat → xS → Prop) : Prop := ∀ (n : Nat) (σ : xS) (a1 a2 : Int32), Inv n σ → n < 512 → ∃ (r : Int32) (σ1 σ2 : xS), fX5_largestAdmissible a1 a2 σ = some (r, σ1) ∧ fX6_largestAdmissible a1 a2 σ1 = some (r, σ2) ∧ Inv (n + 1) σ2
/-- case 44: burstCapacity -/
def xP44 (Inv : Nat → xS → Prop) : Prop := ∀ (n : Nat) (σ : xS) (a1 a2 a3 : Int32), Inv n σ → n < 512 → ∃ (r : Int32) (σ1 σ2 : xS), fX5_burstCapacity a1 a2 a3 σ = some (r, σ1) ∧ fX6_burstCapacity a1 a2 a3 σ1 = some (r, σ2) ∧ Inv (n + 1) σ2
/-- case 45: drainTicks -/
def xP45 (Inv : Nat → xS → Prop) : Prop := ∀ (n : Nat) (σ : xS) (a1 : Int32), Inv n σ → n < 512 → ∃ (r : Int32) (σ1 σ2 : xS), fX5_drainTicks a1 σ = some (r, σ1) ∧ fX6_drainTicks a1 σ1 = some (r, σ2) ∧ Inv (n + 1) σ2
/-- case 46: equilibrium -/
def xP46 (Inv : Nat → xS → Prop) : Prop := ∀ (n : Nat) (σ : xS) (a1 a2 : Int32), Inv n σ → n < 512 → x_z a2 = true → ∃ (r : Int32) (σ1 σ2 : xS), fX5_equilibrium a1 a2 σ = some (r, σ1) ∧ fX6_equilibrium a1 a2 σ1 = some (r, σ2) ∧ Inv (n + 1) σ2
/-- case 47: append -/
def xP47 (Inv : Nat → xS → Prop) : Prop := ∀ (n : Nat) (σ : xS) (a1 : Int32), Inv n σ → n < 512 → ∃ (r : Int32) (σ1 σ2 : xS), fX5_append a1 σ = some (r, σ1) ∧ fX6_append a1 σ1 = some (r, σ2) ∧ Inv (n + 1) σ2
/-- case 48: clearText -/
def xP48 (Inv : Nat → xS → Prop) : Prop := ∀ (n : Nat) (σ : xS), Inv n σ → n < 512 → ∃ (r : Int32) (σ1 σ2 : xS), fX5_clearText  σ = some (r, σ1) ∧ fX6_clearText  σ1 = some (r, σ2) ∧ Inv (n + 1) σ2
/-- case 49: faultPosition -/
def xP49 (Inv : Nat → xS → Prop) : Prop := ∀ (n : Nat) (σ : xS), Inv n σ → n < 512 → ∃ (r : Int32) (σ1 σ2 : xS), fX5_faultPosition  σ = some (r, σ1) ∧ fX6_faultPosition  σ1 = some (r, σ2) ∧ Inv (n + 1) σ2
/-- case 50: run -/
def xP50 (Inv : Nat → xS → Prop) : Prop := ∀ (n : Nat) (σ : xS), Inv n σ → n < 512 → ∃ (r : Int32) (σ1 σ2 : xS), fX5_run  σ = some (r, σ1) ∧ fX6_run  σ1 = some (r, σ2) ∧ Inv (n + 1) σ2
/-- case 51: save -/
def xP51 (Inv : Nat → xS → Prop) : Prop := ∀ (n : Nat) (σ : xS) (a1 : Int32), Inv n σ → n < 512 → ∃ (r : Int32) (σ1 σ2 : xS), fX5_save a1 σ = some (r, σ1) ∧ fX6_save a1 σ1 = some (r, σ2) ∧ Inv (n + 1) σ2
/-- case 52: restore -/
def xP52 (Inv : Nat → xS → Prop) : Prop := ∀ (n : Nat) (σ : xS) (a1 : Int32), Inv n σ → n < 512 → ∃ (r : Int32) (σ1 σ2 : xS), fX5_restore a1 σ = some (r, σ1) ∧ fX6_restore a1 σ1 = some (r, σ2) ∧ Inv (n + 1) σ2
/-- case 53: checksum -/
def xP53 (Inv : Nat → xS → Prop) : Prop := ∀ (n : Nat) (σ : xS), Inv n σ → n < 512 → ∃ (r : Int64) (σ1 σ2 : xS), fX5_checksum  σ = some (r, σ1) ∧ fX6_checksum  σ1 = some (r, σ2) ∧ Inv (n + 1) σ2
def xOK (Inv : Nat → xS → Prop) : Prop := xP0 Inv ∧ xP1 Inv ∧ xP2 Inv ∧ xP3 Inv ∧ xP4 Inv ∧ xP5 Inv ∧ xP6 Inv ∧ xP7 Inv ∧ xP8 Inv ∧ xP9 Inv ∧ xP10 Inv ∧ xP11 Inv ∧ xP12 Inv ∧ xP13 Inv ∧ xP14 Inv ∧ xP15 Inv ∧ xP16 Inv ∧ xP17 Inv ∧ xP18 Inv ∧ xP19 Inv ∧ xP20 Inv ∧ xP21 Inv ∧ xP22 Inv ∧ xP23 Inv ∧ xP24 Inv ∧ xP25 Inv ∧ xP26 Inv ∧ xP27 Inv ∧ xP28 Inv ∧ xP29 Inv ∧ xP30 Inv ∧ xP31 Inv ∧ xP32 Inv ∧ xP33 Inv ∧ xP34 Inv ∧ xP35 Inv ∧ xP36 Inv ∧ xP37 Inv ∧ xP38 Inv ∧ xP39 Inv ∧ xP40 Inv ∧ xP41 Inv ∧ xP42 Inv ∧ xP43 Inv ∧ xP44 Inv ∧ xP45 Inv ∧ xP46 Inv ∧ xP47 Inv ∧ xP48 Inv ∧ xP49 Inv ∧ xP50 Inv ∧ xP51 Inv ∧ xP52 Inv ∧ xP53 Inv
