theorem xT_t1 {c : Cond} (h : c ∈ tables_1_1) (hg : goodWord c = true) : c ∈ xT := xT_of (List.mem_append_right _ (List.mem_append_left _ h)) hg
theorem xT_t2 {c : Cond} (h : c ∈ tables_1_2) (hg : goodWord c = true) : c ∈ xT := xT_of (List.mem_append_right _ (List.mem_append_right _ (List.mem_append_left _ h))) hg
theorem xT_t3 {c : Cond} (h : c ∈ tables_1_3) (hg : goodWord c = true) : c ∈ xT := xT_of (List.mem_append_right _ (List.mem_append_right _ (List.mem_append_right _ (List.mem_append_left _ h)))) hg
theorem xT_t4 {c : Cond} (h : c ∈ tables_1_4) (hg : goodWord c = true) : c ∈ xT := xT_of (List.mem_append_right _ (List.mem_append_right _ (List.mem_append_right _ (List.mem_append_right _ (List.mem_append_left _ h))))) hg
theorem xT_t5 {c : Cond} (h : c ∈ tables_1_5) (hg : goodWord c = true) : c ∈ xT := xT_of (List.mem_append_right _ (List.mem_append_right _ (List.mem_append_right _ (List.mem_append_right _ (List.mem_append_right _ (List.mem_append_left _ h)))))) hg
theorem xT_t6 {c : Cond} (h : c ∈ tables_1_6) (hg : goodWord c = true) : c ∈ xT := xT_of (List.mem_append_right _ (List.mem_append_right _ (List.mem_append_right _ (List.mem_append_right _ (List.mem_append_right _ (List.mem_append_right _ (h))))))) hg
theorem xT_s {c : Cond} (h : c ∈ k2_sels lw_privs) (hg : goodWord c = true) : c ∈ xT := xT_of (List.mem_append_left _ h) hg
theorem inxX0 : ∀ x ∈ u_ws RX0 TX0 13, x ∈ xT := by
  have h : ∀ x ∈ u_ws RX0 TX0 13, x ∈ tables_1 ∧ goodWord x = true := by decide +kernel
  exact fun x hx => xT_of (List.mem_append_right _ (h x hx).1) (h x hx).2
theorem inxX1 : ∀ x ∈ u_ws RX1 TX1 9, x ∈ xT := by
  have h : ∀ x ∈ u_ws RX1 TX1 9, x ∈ tables_1 ∧ goodWord x = true := by decide +kernel
  exact fun x hx => xT_of (List.mem_append_right _ (h x hx).1) (h x hx).2
theorem inxX2 : ∀ x ∈ u_ws RX2 TX2 12, x ∈ xT := by
  have h : ∀ x ∈ u_ws RX2 TX2 12, x ∈ tables_1 ∧ goodWord x = true := by decide +kernel
  exact fun x hx => xT_of (List.mem_append_right _ (h x hx).1) (h x hx).2
theorem inxX3 : ∀ x ∈ u_ws RX3 TX3 16, x ∈ xT := by
  have h : ∀ x ∈ u_ws RX3 TX3 16, x ∈ tables_1 ∧ goodWord x = true := by decide +kernel
  exact fun x hx => xT_of (List.mem_append_right _ (h x hx).1) (h x hx).2
theorem inxX4 : ∀ x ∈ u_ws RX4 TX4 9, x ∈ xT := by
  have h : ∀ x ∈ u_ws RX4 TX4 9, x ∈ tables_1 ∧ goodWord x = true := by decide +kernel
  exact fun x hx => xT_of (List.mem_append_right _ (h x hx).1) (h x hx).2
theorem inxX5 : ∀ x ∈ u_ws RX5 TX5 5, x ∈ xT := by
  have h : ∀ x ∈ u_ws RX5 TX5 5, x ∈ tables_1 ∧ goodWord x = true := by decide +kernel
  exact fun x hx => xT_of (List.mem_append_right _ (h x hx).1) (h x hx).2
theorem inxX6 : ∀ x ∈ u_ws RX6 TX6 13, x ∈ xT := by
  have h : ∀ x ∈ u_ws RX6 TX6 13, x ∈ tables_1 ∧ goodWord x = true := by decide +kernel
  exact fun x hx => xT_of (List.mem_append_right _ (h x hx).1) (h x hx).2
abbrev mX0_startAnew : xM := (RX0, cX0_startAnew, 7, none, 2)
abbrev mX0_copyFrom : xM := (RX0, cX0_copyFrom, 3, none, 2)
abbrev mX0_portAt : xM := (RX0, cX0_portAt, 2, (some (.object RX2)), 0)
abbrev mX0_queueAt : xM := (RX0, cX0_queueAt, 3, (some (.object RX3)), 0)
abbrev mX0_poolSize : xM := (RX0, cX0_poolSize, 4, (some .int), 0)
abbrev mX0_sharedLeft : xM := (RX0, cX0_sharedLeft, 3, (some .int), 1)
abbrev mX0_giveGrant : xM := (RX0, cX0_giveGrant, 7, (some .int), 4)
abbrev mX0_rememberGrant : xM := (RX0, cX0_rememberGrant, 2, none, 0)
abbrev mX0_endGrant : xM := (RX0, cX0_endGrant, 3, none, 3)
abbrev mX0_judge : xM := (RX0, cX0_judge, 7, none, 3)
abbrev mX0_headroomRefusal : xM := (RX0, cX0_headroomRefusal, 3, (some .int), 1)
abbrev mX0_victimsNeeded : xM := (RX0, cX0_victimsNeeded, 18, (some .int), 2)
abbrev mX0_receive : xM := (RX0, cX0_receive, 5, (some .int), 4)
abbrev mX0_removeVictims : xM := (RX0, cX0_removeVictims, 8, none, 3)
abbrev mX0_chargeCells : xM := (RX0, cX0_chargeCells, 6, none, 2)
abbrev mX0_takeOut : xM := (RX0, cX0_takeOut, 4, none, 2)
abbrev mX0_discardAll : xM := (RX0, cX0_discardAll, 8, (some .int), 3)
abbrev mX0_passTick : xM := (RX0, cX0_passTick, 8, (some .int), 5)
abbrev mX0_send : xM := (RX0, cX0_send, 3, (some .int), 4)
abbrev mX0_sendByPriority : xM := (RX0, cX0_sendByPriority, 6, (some .int), 3)
abbrev mX0_sendInTurns : xM := (RX0, cX0_sendInTurns, 6, (some .int), 3)
abbrev mX1_startAnew : xM := (RX1, cX1_startAnew, 3, none, 0)
abbrev mX1_copyFrom : xM := (RX1, cX1_copyFrom, 3, none, 1)
abbrev mX1_isCell : xM := (RX1, cX1_isCell, 2, (some .boolean), 0)
abbrev mX1_numberOf : xM := (RX1, cX1_numberOf, 2, (some .int), 1)
abbrev mX1_sizeOf : xM := (RX1, cX1_sizeOf, 2, (some .int), 1)
abbrev mX1_partsOf : xM := (RX1, cX1_partsOf, 2, (some .int), 1)
abbrev mX1_packetAhead : xM := (RX1, cX1_packetAhead, 2, (some .int), 1)
abbrev mX1_packetBehind : xM := (RX1, cX1_packetBehind, 2, (some .int), 1)
abbrev mX1_partBehind : xM := (RX1, cX1_partBehind, 2, (some .int), 1)
abbrev mX1_find : xM := (RX1, cX1_find, 3, (some .int), 0)
abbrev mX1_partStart : xM := (RX1, cX1_partStart, 5, (some .int), 2)
abbrev mX1_startsRun : xM := (RX1, cX1_startsRun, 2, (some .boolean), 0)
abbrev mX1_freeLength : xM := (RX1, cX1_freeLength, 4, (some .int), 1)
abbrev mX1_countRuns : xM := (RX1, cX1_countRuns, 3, (some .int), 1)
abbrev mX1_findRun : xM := (RX1, cX1_findRun, 4, (some .int), 1)
abbrev mX1_place : xM := (RX1, cX1_place, 10, (some .int), 3)
abbrev mX1_chooseRun : xM := (RX1, cX1_chooseRun, 6, (some .int), 2)
abbrev mX1_suitsBetter : xM := (RX1, cX1_suitsBetter, 3, (some .boolean), 0)
abbrev mX1_occupy : xM := (RX1, cX1_occupy, 4, none, 0)
abbrev mX1_release : xM := (RX1, cX1_release, 6, none, 1)
abbrev mX1_joinQueue : xM := (RX1, cX1_joinQueue, 3, none, 1)
abbrev mX1_leaveQueue : xM := (RX1, cX1_leaveQueue, 5, none, 1)
abbrev mX2_startAnew : xM := (RX2, cX2_startAnew, 5, none, 1)
abbrev mX2_copyFrom : xM := (RX2, cX2_copyFrom, 3, none, 1)
abbrev mX2_guaranteedInUse : xM := (RX2, cX2_guaranteedInUse, 1, (some .int), 0)
abbrev mX2_sharedInUse : xM := (RX2, cX2_sharedInUse, 1, (some .int), 0)
abbrev mX2_headroomInUse : xM := (RX2, cX2_headroomInUse, 1, (some .int), 0)
abbrev mX2_guaranteeLeft : xM := (RX2, cX2_guaranteeLeft, 1, (some .int), 1)
abbrev mX2_isIdle : xM := (RX2, cX2_isIdle, 1, (some .boolean), 0)
abbrev mX2_highestBusyQueue : xM := (RX2, cX2_highestBusyQueue, 5, (some (.object RX3)), 0)
abbrev mX2_queueAtTurn : xM := (RX2, cX2_queueAtTurn, 1, (some (.object RX3)), 0)
abbrev mX2_passTurn : xM := (RX2, cX2_passTurn, 1, none, 0)
abbrev mX2_restartSending : xM := (RX2, cX2_restartSending, 1, none, 0)
abbrev mX2_shareBeyondGuarantee : xM := (RX2, cX2_shareBeyondGuarantee, 5, none, 2)
abbrev mX2_countLoss : xM := (RX2, cX2_countLoss, 3, none, 0)
abbrev mX3_startAnew : xM := (RX3, cX3_startAnew, 1, none, 0)
abbrev mX3_copyFrom : xM := (RX3, cX3_copyFrom, 2, none, 0)
abbrev mX3_limitWith : xM := (RX3, cX3_limitWith, 2, (some .int), 0)
abbrev mX3_poolRefusal : xM := (RX3, cX3_poolRefusal, 3, (some .int), 1)
abbrev mX3_addShared : xM := (RX3, cX3_addShared, 3, none, 1)
abbrev mX3_pause : xM := (RX3, cX3_pause, 1, none, 0)
abbrev mX3_giveBack : xM := (RX3, cX3_giveBack, 4, none, 1)
abbrev mX4_rewind : xM := (RX4, cX4_rewind, 1, none, 0)
abbrev mX4_hasMore : xM := (RX4, cX4_hasMore, 1, (some .boolean), 0)
abbrev mX4_findFault : xM := (RX4, cX4_findFault, 3, (some .int), 4)
abbrev mX4_readOrder : xM := (RX4, cX4_readOrder, 2, none, 3)
abbrev mX4_readCount : xM := (RX4, cX4_readCount, 1, none, 2)
abbrev mX4_letterHere : xM := (RX4, cX4_letterHere, 1, (some .int), 0)
abbrev mX4_expect : xM := (RX4, cX4_expect, 2, none, 1)
abbrev mX4_readDigit : xM := (RX4, cX4_readDigit, 3, (some .int), 1)
abbrev mX4_readNumber : xM := (RX4, cX4_readNumber, 6, (some .int), 1)
abbrev mX5_reset : xM := (RX5, cX5_reset, 4, (some .int), 3)
abbrev mX5_setReserve : xM := (RX5, cX5_setReserve, 5, (some .int), 3)
abbrev mX5_setHeadroom : xM := (RX5, cX5_setHeadroom, 5, (some .int), 2)
abbrev mX5_setAlpha : xM := (RX5, cX5_setAlpha, 6, (some .int), 1)
abbrev mX5_setBurst : xM := (RX5, cX5_setBurst, 7, (some .int), 1)
abbrev mX5_setLossless : xM := (RX5, cX5_setLossless, 6, (some .int), 1)
abbrev mX5_setScheduler : xM := (RX5, cX5_setScheduler, 6, (some .int), 1)
abbrev mX5_setQuantum : xM := (RX5, cX5_setQuantum, 6, (some .int), 1)
abbrev mX5_setPushOut : xM := (RX5, cX5_setPushOut, 3, (some .int), 1)
abbrev mX5_grant : xM := (RX5, cX5_grant, 4, (some .int), 5)
abbrev mX5_withdraw : xM := (RX5, cX5_withdraw, 4, (some .int), 4)
abbrev mX5_arrive : xM := (RX5, cX5_arrive, 6, (some .int), 5)
abbrev mX5_ticks : xM := (RX5, cX5_ticks, 4, (some .int), 6)
abbrev mX5_flush : xM := (RX5, cX5_flush, 3, (some .int), 4)
abbrev mX5_traffic : xM := (RX5, cX5_traffic, 13, (some .int), 6)
abbrev mX5_freeShared : xM := (RX5, cX5_freeShared, 1, (some .int), 2)
abbrev mX5_sharedPool : xM := (RX5, cX5_sharedPool, 1, (some .int), 1)
abbrev mX5_freeGuarantee : xM := (RX5, cX5_freeGuarantee, 3, (some .int), 2)
abbrev mX5_grantOf : xM := (RX5, cX5_grantOf, 3, (some .int), 1)
abbrev mX5_threshold : xM := (RX5, cX5_threshold, 4, (some .int), 2)
abbrev mX5_guaranteedCells : xM := (RX5, cX5_guaranteedCells, 4, (some .int), 1)
abbrev mX5_sharedCells : xM := (RX5, cX5_sharedCells, 4, (some .int), 1)
abbrev mX5_headroomCells : xM := (RX5, cX5_headroomCells, 4, (some .int), 1)
abbrev mX5_burstTank : xM := (RX5, cX5_burstTank, 4, (some .int), 1)
abbrev mX5_isPaused : xM := (RX5, cX5_isPaused, 4, (some .int), 1)
abbrev mX5_pauses : xM := (RX5, cX5_pauses, 4, (some .int), 1)
abbrev mX5_credit : xM := (RX5, cX5_credit, 3, (some .int), 1)
abbrev mX5_deficit : xM := (RX5, cX5_deficit, 4, (some .int), 1)
abbrev mX5_losses : xM := (RX5, cX5_losses, 4, (some .int), 1)
abbrev mX5_lostCells : xM := (RX5, cX5_lostCells, 3, (some .int), 1)
abbrev mX5_lossCause : xM := (RX5, cX5_lossCause, 2, (some .int), 1)
abbrev mX5_departed : xM := (RX5, cX5_departed, 3, (some .int), 1)
abbrev mX5_admitted : xM := (RX5, cX5_admitted, 1, (some .int), 0)
abbrev mX5_time : xM := (RX5, cX5_time, 1, (some .int), 0)
abbrev mX5_queueLength : xM := (RX5, cX5_queueLength, 4, (some .int), 1)
abbrev mX5_packetAt : xM := (RX5, cX5_packetAt, 7, (some .int), 2)
abbrev mX5_fragments : xM := (RX5, cX5_fragments, 3, (some .int), 2)
abbrev mX5_fragmentStart : xM := (RX5, cX5_fragmentStart, 4, (some .int), 3)
abbrev mX5_fragmentLength : xM := (RX5, cX5_fragmentLength, 4, (some .int), 3)
abbrev mX5_freeRuns : xM := (RX5, cX5_freeRuns, 1, (some .int), 2)
abbrev mX5_runStart : xM := (RX5, cX5_runStart, 3, (some .int), 2)
abbrev mX5_runLength : xM := (RX5, cX5_runLength, 3, (some .int), 2)
abbrev mX5_stageFor : xM := (RX5, cX5_stageFor, 6, (some .int), 4)
abbrev mX5_largestAdmissible : xM := (RX5, cX5_largestAdmissible, 6, (some .int), 4)
abbrev mX5_burstCapacity : xM := (RX5, cX5_burstCapacity, 7, (some .int), 5)
abbrev mX5_drainTicks : xM := (RX5, cX5_drainTicks, 6, (some .int), 5)
abbrev mX5_equilibrium : xM := (RX5, cX5_equilibrium, 7, (some .int), 1)
abbrev mX5_append : xM := (RX5, cX5_append, 2, (some .int), 1)
abbrev mX5_clearText : xM := (RX5, cX5_clearText, 2, (some .int), 0)
abbrev mX5_faultPosition : xM := (RX5, cX5_faultPosition, 2, (some .int), 5)
abbrev mX5_run : xM := (RX5, cX5_run, 6, (some .int), 6)
abbrev mX5_save : xM := (RX5, cX5_save, 2, (some .int), 3)
abbrev mX5_restore : xM := (RX5, cX5_restore, 2, (some .int), 3)
abbrev mX5_checksum : xM := (RX5, cX5_checksum, 5, (some .long), 4)
abbrev mX5_mixPort : xM := (RX5, cX5_mixPort, 10, (some .long), 3)
abbrev mX5_mixPackets : xM := (RX5, cX5_mixPackets, 11, (some .long), 2)
abbrev mX5_lossOfArrivals : xM := (RX5, cX5_lossOfArrivals, 7, (some .int), 5)
abbrev mX5_isOutside : xM := (RX5, cX5_isOutside, 3, (some .boolean), 0)
abbrev mX5_asNumber : xM := (RX5, cX5_asNumber, 1, (some .int), 0)
abbrev mX5_greatestCommonDivisor : xM := (RX5, cX5_greatestCommonDivisor, 6, (some .int), 0)
abbrev mX6_in : xM := (RX6, cX6_in, 3, (some .boolean), 0)
abbrev mX6_least : xM := (RX6, cX6_least, 2, (some .int), 0)
abbrev mX6_most : xM := (RX6, cX6_most, 2, (some .int), 0)
abbrev mX6_port : xM := (RX6, cX6_port, 2, (some .int), 0)
abbrev mX6_queue : xM := (RX6, cX6_queue, 2, (some .int), 0)
abbrev mX6_entry : xM := (RX6, cX6_entry, 2, (some .int), 0)
abbrev mX6_packet : xM := (RX6, cX6_packet, 2, (some .int), 0)
abbrev mX6_isPort : xM := (RX6, cX6_isPort, 2, (some .boolean), 1)
abbrev mX6_isQueue : xM := (RX6, cX6_isQueue, 3, (some .boolean), 2)
abbrev mX6_starts : xM := (RX6, cX6_starts, 4, none, 1)
abbrev mX6_sum : xM := (RX6, cX6_sum, 3, (some .int), 1)
abbrev mX6_guarantee : xM := (RX6, cX6_guarantee, 2, (some .int), 1)
abbrev mX6_pool : xM := (RX6, cX6_pool, 3, (some .int), 2)
abbrev mX6_free : xM := (RX6, cX6_free, 3, (some .int), 3)
abbrev mX6_freeOf : xM := (RX6, cX6_freeOf, 2, (some .int), 2)
abbrev mX6_limit : xM := (RX6, cX6_limit, 2, (some .int), 4)
abbrev mX6_converts : xM := (RX6, cX6_converts, 6, none, 3)
abbrev mX6_reset : xM := (RX6, cX6_reset, 4, (some .int), 2)
abbrev mX6_setReserve : xM := (RX6, cX6_setReserve, 4, (some .int), 4)
abbrev mX6_setHeadroom : xM := (RX6, cX6_setHeadroom, 4, (some .int), 4)
abbrev mX6_set : xM := (RX6, cX6_set, 9, (some .int), 3)
abbrev mX6_setAlpha : xM := (RX6, cX6_setAlpha, 4, (some .int), 4)
abbrev mX6_setBurst : xM := (RX6, cX6_setBurst, 7, (some .int), 3)
abbrev mX6_setLossless : xM := (RX6, cX6_setLossless, 6, (some .int), 3)
abbrev mX6_setScheduler : xM := (RX6, cX6_setScheduler, 5, (some .int), 2)
abbrev mX6_setQuantum : xM := (RX6, cX6_setQuantum, 4, (some .int), 4)
abbrev mX6_setPushOut : xM := (RX6, cX6_setPushOut, 3, (some .int), 0)
abbrev mX6_drops : xM := (RX6, cX6_drops, 2, none, 4)
abbrev mX6_grant : xM := (RX6, cX6_grant, 6, (some .int), 5)
abbrev mX6_withdraw : xM := (RX6, cX6_withdraw, 3, (some .int), 5)
abbrev mX6_keeps : xM := (RX6, cX6_keeps, 2, none, 0)
abbrev mX6_brings : xM := (RX6, cX6_brings, 2, none, 0)
abbrev mX6_slotOf : xM := (RX6, cX6_slotOf, 3, (some .int), 1)
abbrev mX6_newSlot : xM := (RX6, cX6_newSlot, 2, (some .int), 1)
abbrev mX6_isFree : xM := (RX6, cX6_isFree, 2, (some .boolean), 0)
abbrev mX6_runAt : xM := (RX6, cX6_runAt, 3, (some .int), 1)
abbrev mX6_places : xM := (RX6, cX6_places, 9, none, 2)
abbrev mX6_enters : xM := (RX6, cX6_enters, 4, none, 3)
abbrev mX6_hasPackets : xM := (RX6, cX6_hasPackets, 2, (some .boolean), 2)
abbrev mX6_leaves : xM := (RX6, cX6_leaves, 8, (some .int), 1)
abbrev mX6_settles : xM := (RX6, cX6_settles, 3, none, 3)
abbrev mX6_loses : xM := (RX6, cX6_loses, 4, none, 1)
abbrev mX6_early : xM := (RX6, cX6_early, 6, (some .int), 5)
abbrev mX6_lessens : xM := (RX6, cX6_lessens, 6, none, 1)
abbrev mX6_decides : xM := (RX6, cX6_decides, 6, (some .int), 7)
abbrev mX6_pushes : xM := (RX6, cX6_pushes, 11, (some .boolean), 6)
abbrev mX6_counts : xM := (RX6, cX6_counts, 7, none, 5)
abbrev mX6_removesVictims : xM := (RX6, cX6_removesVictims, 5, none, 4)
abbrev mX6_arrives : xM := (RX6, cX6_arrives, 5, (some .int), 8)
abbrev mX6_arrive : xM := (RX6, cX6_arrive, 4, (some .int), 9)
abbrev mX6_firstSize : xM := (RX6, cX6_firstSize, 2, (some .int), 1)
abbrev mX6_departs : xM := (RX6, cX6_departs, 4, none, 2)
abbrev mX6_sends : xM := (RX6, cX6_sends, 5, (some .int), 4)
abbrev mX6_tick : xM := (RX6, cX6_tick, 3, (some .int), 5)
abbrev mX6_ticking : xM := (RX6, cX6_ticking, 4, (some .int), 6)
abbrev mX6_ticks : xM := (RX6, cX6_ticks, 2, (some .int), 7)
abbrev mX6_flushes : xM := (RX6, cX6_flushes, 4, (some .int), 4)
abbrev mX6_flush : xM := (RX6, cX6_flush, 2, (some .int), 5)
abbrev mX6_traffic : xM := (RX6, cX6_traffic, 11, (some .int), 9)
abbrev mX6_freeShared : xM := (RX6, cX6_freeShared, 1, (some .int), 4)
abbrev mX6_sharedPool : xM := (RX6, cX6_sharedPool, 1, (some .int), 3)
abbrev mX6_freeGuarantee : xM := (RX6, cX6_freeGuarantee, 2, (some .int), 3)
abbrev mX6_ofPort : xM := (RX6, cX6_ofPort, 3, (some .int), 2)
abbrev mX6_ofQueue : xM := (RX6, cX6_ofQueue, 4, (some .int), 3)
abbrev mX6_grantOf : xM := (RX6, cX6_grantOf, 2, (some .int), 3)
abbrev mX6_threshold : xM := (RX6, cX6_threshold, 3, (some .int), 5)
abbrev mX6_guaranteedCells : xM := (RX6, cX6_guaranteedCells, 3, (some .int), 4)
abbrev mX6_sharedCells : xM := (RX6, cX6_sharedCells, 3, (some .int), 4)
abbrev mX6_headroomCells : xM := (RX6, cX6_headroomCells, 3, (some .int), 4)
abbrev mX6_burstTank : xM := (RX6, cX6_burstTank, 3, (some .int), 4)
abbrev mX6_isPaused : xM := (RX6, cX6_isPaused, 3, (some .int), 4)
abbrev mX6_pauses : xM := (RX6, cX6_pauses, 3, (some .int), 4)
abbrev mX6_credit : xM := (RX6, cX6_credit, 2, (some .int), 3)
abbrev mX6_deficit : xM := (RX6, cX6_deficit, 3, (some .int), 4)
abbrev mX6_losses : xM := (RX6, cX6_losses, 4, (some .int), 2)
abbrev mX6_lostCells : xM := (RX6, cX6_lostCells, 2, (some .int), 3)
abbrev mX6_lossCause : xM := (RX6, cX6_lossCause, 2, (some .int), 1)
abbrev mX6_departed : xM := (RX6, cX6_departed, 2, (some .int), 3)
abbrev mX6_admitted : xM := (RX6, cX6_admitted, 1, (some .int), 0)
abbrev mX6_time : xM := (RX6, cX6_time, 1, (some .int), 0)
abbrev mX6_queueLength : xM := (RX6, cX6_queueLength, 3, (some .int), 4)
abbrev mX6_packetAt : xM := (RX6, cX6_packetAt, 4, (some .int), 3)
abbrev mX6_fragments : xM := (RX6, cX6_fragments, 3, (some .int), 2)
abbrev mX6_ofFragment : xM := (RX6, cX6_ofFragment, 5, (some .int), 2)
abbrev mX6_fragmentStart : xM := (RX6, cX6_fragmentStart, 3, (some .int), 3)
abbrev mX6_fragmentLength : xM := (RX6, cX6_fragmentLength, 3, (some .int), 3)
abbrev mX6_freeRuns : xM := (RX6, cX6_freeRuns, 3, (some .int), 2)
abbrev mX6_beginOf : xM := (RX6, cX6_beginOf, 4, (some .int), 2)
abbrev mX6_runStart : xM := (RX6, cX6_runStart, 2, (some .int), 3)
abbrev mX6_runLength : xM := (RX6, cX6_runLength, 3, (some .int), 3)
abbrev mX6_stageFor : xM := (RX6, cX6_stageFor, 5, (some .int), 8)
abbrev mX6_largestAdmissible : xM := (RX6, cX6_largestAdmissible, 4, (some .int), 8)
abbrev mX6_burstCapacity : xM := (RX6, cX6_burstCapacity, 7, (some .int), 8)
abbrev mX6_drainTicks : xM := (RX6, cX6_drainTicks, 3, (some .int), 5)
abbrev mX6_equilibrium : xM := (RX6, cX6_equilibrium, 8, (some .int), 3)
abbrev mX6_append : xM := (RX6, cX6_append, 2, (some .int), 1)
abbrev mX6_clearText : xM := (RX6, cX6_clearText, 2, (some .int), 0)
abbrev mX6_here : xM := (RX6, cX6_here, 1, (some .int), 0)
abbrev mX6_isDigit : xM := (RX6, cX6_isDigit, 1, (some .boolean), 1)
abbrev mX6_faults : xM := (RX6, cX6_faults, 2, none, 0)
abbrev mX6_digit : xM := (RX6, cX6_digit, 3, (some .int), 2)
abbrev mX6_number : xM := (RX6, cX6_number, 5, (some .int), 2)
abbrev mX6_sign : xM := (RX6, cX6_sign, 2, none, 1)
abbrev mX6_order : xM := (RX6, cX6_order, 7, none, 9)
abbrev mX6_ends : xM := (RX6, cX6_ends, 1, none, 2)
abbrev mX6_acts : xM := (RX6, cX6_acts, 1, (some .boolean), 0)
abbrev mX6_reads : xM := (RX6, cX6_reads, 2, none, 10)
abbrev mX6_faultPosition : xM := (RX6, cX6_faultPosition, 1, (some .int), 11)
abbrev mX6_run : xM := (RX6, cX6_run, 1, (some .int), 11)
abbrev mX6_save : xM := (RX6, cX6_save, 3, (some .int), 1)
abbrev mX6_restore : xM := (RX6, cX6_restore, 3, (some .int), 1)
abbrev mX6_sumOf : xM := (RX6, cX6_sumOf, 4, (some .long), 0)
abbrev mX6_sumOfQueue : xM := (RX6, cX6_sumOfQueue, 9, (some .long), 1)
abbrev mX6_checksum : xM := (RX6, cX6_checksum, 5, (some .long), 4)
theorem fl_X0_12 : xFl RX0 12 0 0 := ⟨(0, 13), RX0, TX0, 13, rfl, Nat.le_of_ble_eq_true rfl, rfl, Nat.le_of_ble_eq_true rfl, inxX0, (xT_t1 (List.mem_of_getElem? (i := 217) rfl) rfl)⟩
theorem fl_X0_20 : xFl RX0 20 0 1 := ⟨(0, 13), RX0, TX0, 13, rfl, Nat.le_of_ble_eq_true rfl, rfl, Nat.le_of_ble_eq_true rfl, inxX0, (xT_t1 (List.mem_of_getElem? (i := 219) rfl) rfl)⟩
theorem fl_X0_25 : xFl RX0 25 0 8 := ⟨(0, 13), RX0, TX0, 13, rfl, Nat.le_of_ble_eq_true rfl, rfl, Nat.le_of_ble_eq_true rfl, inxX0, (xT_t1 (List.mem_of_getElem? (i := 231) rfl) rfl)⟩
theorem fl_X0_29 : xFl RX0 29 0 11 := ⟨(0, 13), RX0, TX0, 13, rfl, Nat.le_of_ble_eq_true rfl, rfl, Nat.le_of_ble_eq_true rfl, inxX0, (xT_t1 (List.mem_of_getElem? (i := 237) rfl) rfl)⟩
theorem fl_X0_38 : xFl RX0 38 0 2 := ⟨(0, 13), RX0, TX0, 13, rfl, Nat.le_of_ble_eq_true rfl, rfl, Nat.le_of_ble_eq_true rfl, inxX0, (xT_t1 (List.mem_of_getElem? (i := 221) rfl) rfl)⟩
theorem fl_X0_42 : xFl RX0 42 0 3 := ⟨(0, 13), RX0, TX0, 13, rfl, Nat.le_of_ble_eq_true rfl, rfl, Nat.le_of_ble_eq_true rfl, inxX0, (xT_t1 (List.mem_of_getElem? (i := 223) rfl) rfl)⟩
theorem fl_X0_46 : xFl RX0 46 0 4 := ⟨(0, 13), RX0, TX0, 13, rfl, Nat.le_of_ble_eq_true rfl, rfl, Nat.le_of_ble_eq_true rfl, inxX0, (xT_t1 (List.mem_of_getElem? (i := 225) rfl) rfl)⟩
theorem fl_X0_49 : xFl RX0 49 0 5 := ⟨(0, 13), RX0, TX0, 13, rfl, Nat.le_of_ble_eq_true rfl, rfl, Nat.le_of_ble_eq_true rfl, inxX0, (xT_t1 (List.mem_of_getElem? (i := 227) rfl) rfl)⟩
theorem fl_X0_52 : xFl RX0 52 0 6 := ⟨(0, 13), RX0, TX0, 13, rfl, Nat.le_of_ble_eq_true rfl, rfl, Nat.le_of_ble_eq_true rfl, inxX0, (xT_t1 (List.mem_of_getElem? (i := 229) rfl) rfl)⟩
theorem fl_X0_55 : xFl RX0 55 0 7 := ⟨(0, 13), RX0, TX0, 13, rfl, Nat.le_of_ble_eq_true rfl, rfl, Nat.le_of_ble_eq_true rfl, inxX0, (xT_t1 (List.mem_of_getElem? (i := 230) rfl) rfl)⟩
theorem fl_X0_58 : xFl RX0 58 0 9 := ⟨(0, 13), RX0, TX0, 13, rfl, Nat.le_of_ble_eq_true rfl, rfl, Nat.le_of_ble_eq_true rfl, inxX0, (xT_t1 (List.mem_of_getElem? (i := 233) rfl) rfl)⟩
theorem fl_X0_74 : xFl RX0 74 13 0 := ⟨(2, 12), RX2, TX2, 12, rfl, Nat.le_of_ble_eq_true rfl, rfl, Nat.le_of_ble_eq_true rfl, inxX2, (xT_t1 (List.mem_of_getElem? (i := 162) rfl) rfl)⟩
theorem fl_X0_78 : xFl RX0 78 1 0 := ⟨(1, 9), RX1, TX1, 9, rfl, Nat.le_of_ble_eq_true rfl, rfl, Nat.le_of_ble_eq_true rfl, inxX1, (xT_t1 (List.mem_of_getElem? (i := 32) rfl) rfl)⟩
theorem fl_X0_81 : xFl RX0 81 13 2 := ⟨(2, 12), RX2, TX2, 12, rfl, Nat.le_of_ble_eq_true rfl, rfl, Nat.le_of_ble_eq_true rfl, inxX2, (xT_t1 (List.mem_of_getElem? (i := 168) rfl) rfl)⟩
theorem fl_X0_84 : xFl RX0 84 13 4 := ⟨(2, 12), RX2, TX2, 12, rfl, Nat.le_of_ble_eq_true rfl, rfl, Nat.le_of_ble_eq_true rfl, inxX2, (xT_t1 (List.mem_of_getElem? (i := 173) rfl) rfl)⟩
theorem fl_X0_87 : xFl RX0 87 13 3 := ⟨(2, 12), RX2, TX2, 12, rfl, Nat.le_of_ble_eq_true rfl, rfl, Nat.le_of_ble_eq_true rfl, inxX2, (xT_t1 (List.mem_of_getElem? (i := 171) rfl) rfl)⟩
theorem fl_X0_129 : xFl RX0 129 0 10 := ⟨(0, 13), RX0, TX0, 13, rfl, Nat.le_of_ble_eq_true rfl, rfl, Nat.le_of_ble_eq_true rfl, inxX0, (xT_t1 (List.mem_of_getElem? (i := 235) rfl) rfl)⟩
theorem fl_X0_132 : xFl RX0 132 0 12 := ⟨(0, 13), RX0, TX0, 13, rfl, Nat.le_of_ble_eq_true rfl, rfl, Nat.le_of_ble_eq_true rfl, inxX0, (xT_t1 (List.mem_of_getElem? (i := 238) rfl) rfl)⟩
theorem fl_X0_148 : xFl RX0 148 16 7 := ⟨(3, 16), RX3, TX3, 16, rfl, Nat.le_of_ble_eq_true rfl, rfl, Nat.le_of_ble_eq_true rfl, inxX3, (xT_t1 (List.mem_of_getElem? (i := 98) rfl) rfl)⟩
theorem fl_X0_154 : xFl RX0 154 16 0 := ⟨(3, 16), RX3, TX3, 16, rfl, Nat.le_of_ble_eq_true rfl, rfl, Nat.le_of_ble_eq_true rfl, inxX3, (xT_t1 (List.mem_of_getElem? (i := 78) rfl) rfl)⟩
theorem fl_X0_157 : xFl RX0 157 16 12 := ⟨(3, 16), RX3, TX3, 16, rfl, Nat.le_of_ble_eq_true rfl, rfl, Nat.le_of_ble_eq_true rfl, inxX3, (xT_t1 (List.mem_of_getElem? (i := 115) rfl) rfl)⟩
theorem fl_X0_160 : xFl RX0 160 16 11 := ⟨(3, 16), RX3, TX3, 16, rfl, Nat.le_of_ble_eq_true rfl, rfl, Nat.le_of_ble_eq_true rfl, inxX3, (xT_t1 (List.mem_of_getElem? (i := 110) rfl) rfl)⟩
theorem fl_X0_163 : xFl RX0 163 16 14 := ⟨(3, 16), RX3, TX3, 16, rfl, Nat.le_of_ble_eq_true rfl, rfl, Nat.le_of_ble_eq_true rfl, inxX3, (xT_t1 (List.mem_of_getElem? (i := 121) rfl) rfl)⟩
theorem fl_X0_166 : xFl RX0 166 16 15 := ⟨(3, 16), RX3, TX3, 16, rfl, Nat.le_of_ble_eq_true rfl, rfl, Nat.le_of_ble_eq_true rfl, inxX3, (xT_t1 (List.mem_of_getElem? (i := 125) rfl) rfl)⟩
theorem fl_X0_206 : xFl RX0 206 16 10 := ⟨(3, 16), RX3, TX3, 16, rfl, Nat.le_of_ble_eq_true rfl, rfl, Nat.le_of_ble_eq_true rfl, inxX3, (xT_t1 (List.mem_of_getElem? (i := 106) rfl) rfl)⟩
theorem fl_X0_218 : xFl RX0 218 16 6 := ⟨(3, 16), RX3, TX3, 16, rfl, Nat.le_of_ble_eq_true rfl, rfl, Nat.le_of_ble_eq_true rfl, inxX3, (xT_t1 (List.mem_of_getElem? (i := 94) rfl) rfl)⟩
theorem fl_X0_228 : xFl RX0 228 16 13 := ⟨(3, 16), RX3, TX3, 16, rfl, Nat.le_of_ble_eq_true rfl, rfl, Nat.le_of_ble_eq_true rfl, inxX3, (xT_t1 (List.mem_of_getElem? (i := 117) rfl) rfl)⟩
theorem fl_X0_235 : xFl RX0 235 16 2 := ⟨(3, 16), RX3, TX3, 16, rfl, Nat.le_of_ble_eq_true rfl, rfl, Nat.le_of_ble_eq_true rfl, inxX3, (xT_t1 (List.mem_of_getElem? (i := 83) rfl) rfl)⟩
theorem fl_X0_238 : xFl RX0 238 16 4 := ⟨(3, 16), RX3, TX3, 16, rfl, Nat.le_of_ble_eq_true rfl, rfl, Nat.le_of_ble_eq_true rfl, inxX3, (xT_t1 (List.mem_of_getElem? (i := 89) rfl) rfl)⟩
theorem fl_X0_241 : xFl RX0 241 16 3 := ⟨(3, 16), RX3, TX3, 16, rfl, Nat.le_of_ble_eq_true rfl, rfl, Nat.le_of_ble_eq_true rfl, inxX3, (xT_t1 (List.mem_of_getElem? (i := 86) rfl) rfl)⟩
theorem fl_X0_247 : xFl RX0 247 16 8 := ⟨(3, 16), RX3, TX3, 16, rfl, Nat.le_of_ble_eq_true rfl, rfl, Nat.le_of_ble_eq_true rfl, inxX3, (xT_t1 (List.mem_of_getElem? (i := 101) rfl) rfl)⟩
theorem fl_X0_250 : xFl RX0 250 13 7 := ⟨(2, 12), RX2, TX2, 12, rfl, Nat.le_of_ble_eq_true rfl, rfl, Nat.le_of_ble_eq_true rfl, inxX2, (xT_t1 (List.mem_of_getElem? (i := 182) rfl) rfl)⟩
theorem fl_X0_253 : xFl RX0 253 13 6 := ⟨(2, 12), RX2, TX2, 12, rfl, Nat.le_of_ble_eq_true rfl, rfl, Nat.le_of_ble_eq_true rfl, inxX2, (xT_t1 (List.mem_of_getElem? (i := 180) rfl) rfl)⟩
theorem fl_X0_256 : xFl RX0 256 13 5 := ⟨(2, 12), RX2, TX2, 12, rfl, Nat.le_of_ble_eq_true rfl, rfl, Nat.le_of_ble_eq_true rfl, inxX2, (xT_t1 (List.mem_of_getElem? (i := 177) rfl) rfl)⟩
theorem fl_X0_265 : xFl RX0 265 13 11 := ⟨(2, 12), RX2, TX2, 12, rfl, Nat.le_of_ble_eq_true rfl, rfl, Nat.le_of_ble_eq_true rfl, inxX2, (xT_t1 (List.mem_of_getElem? (i := 190) rfl) rfl)⟩
theorem fl_X0_279 : xFl RX0 279 13 9 := ⟨(2, 12), RX2, TX2, 12, rfl, Nat.le_of_ble_eq_true rfl, rfl, Nat.le_of_ble_eq_true rfl, inxX2, (xT_t1 (List.mem_of_getElem? (i := 186) rfl) rfl)⟩
theorem fl_X0_282 : xFl RX0 282 16 5 := ⟨(3, 16), RX3, TX3, 16, rfl, Nat.le_of_ble_eq_true rfl, rfl, Nat.le_of_ble_eq_true rfl, inxX3, (xT_t1 (List.mem_of_getElem? (i := 92) rfl) rfl)⟩
theorem fl_X1_9 : xFl RX1 9 1 1 := ⟨(1, 9), RX1, TX1, 9, rfl, Nat.le_of_ble_eq_true rfl, rfl, Nat.le_of_ble_eq_true rfl, inxX1, (xT_t1 (List.mem_of_getElem? (i := 33) rfl) rfl)⟩
theorem fl_X1_15 : xFl RX1 15 1 2 := ⟨(1, 9), RX1, TX1, 9, rfl, Nat.le_of_ble_eq_true rfl, rfl, Nat.le_of_ble_eq_true rfl, inxX1, (xT_t1 (List.mem_of_getElem? (i := 34) rfl) rfl)⟩
theorem fl_X1_19 : xFl RX1 19 1 3 := ⟨(1, 9), RX1, TX1, 9, rfl, Nat.le_of_ble_eq_true rfl, rfl, Nat.le_of_ble_eq_true rfl, inxX1, (xT_t1 (List.mem_of_getElem? (i := 36) rfl) rfl)⟩
theorem fl_X1_22 : xFl RX1 22 1 4 := ⟨(1, 9), RX1, TX1, 9, rfl, Nat.le_of_ble_eq_true rfl, rfl, Nat.le_of_ble_eq_true rfl, inxX1, (xT_t1 (List.mem_of_getElem? (i := 37) rfl) rfl)⟩
theorem fl_X1_25 : xFl RX1 25 1 5 := ⟨(1, 9), RX1, TX1, 9, rfl, Nat.le_of_ble_eq_true rfl, rfl, Nat.le_of_ble_eq_true rfl, inxX1, (xT_t1 (List.mem_of_getElem? (i := 38) rfl) rfl)⟩
theorem fl_X1_28 : xFl RX1 28 1 6 := ⟨(1, 9), RX1, TX1, 9, rfl, Nat.le_of_ble_eq_true rfl, rfl, Nat.le_of_ble_eq_true rfl, inxX1, (xT_t1 (List.mem_of_getElem? (i := 39) rfl) rfl)⟩
theorem fl_X1_31 : xFl RX1 31 1 7 := ⟨(1, 9), RX1, TX1, 9, rfl, Nat.le_of_ble_eq_true rfl, rfl, Nat.le_of_ble_eq_true rfl, inxX1, (xT_t1 (List.mem_of_getElem? (i := 40) rfl) rfl)⟩
theorem fl_X1_34 : xFl RX1 34 1 8 := ⟨(1, 9), RX1, TX1, 9, rfl, Nat.le_of_ble_eq_true rfl, rfl, Nat.le_of_ble_eq_true rfl, inxX1, (xT_t1 (List.mem_of_getElem? (i := 41) rfl) rfl)⟩
theorem fl_X1_37 : xFl RX1 37 1 0 := ⟨(1, 9), RX1, TX1, 9, rfl, Nat.le_of_ble_eq_true rfl, rfl, Nat.le_of_ble_eq_true rfl, inxX1, (xT_t1 (List.mem_of_getElem? (i := 30) rfl) rfl)⟩
theorem fl_X1_84 : xFl RX1 84 16 14 := ⟨(3, 16), RX3, TX3, 16, rfl, Nat.le_of_ble_eq_true rfl, rfl, Nat.le_of_ble_eq_true rfl, inxX3, (xT_t1 (List.mem_of_getElem? (i := 122) rfl) rfl)⟩
theorem fl_X1_89 : xFl RX1 89 16 13 := ⟨(3, 16), RX3, TX3, 16, rfl, Nat.le_of_ble_eq_true rfl, rfl, Nat.le_of_ble_eq_true rfl, inxX3, (xT_t1 (List.mem_of_getElem? (i := 118) rfl) rfl)⟩
theorem fl_X1_92 : xFl RX1 92 16 15 := ⟨(3, 16), RX3, TX3, 16, rfl, Nat.le_of_ble_eq_true rfl, rfl, Nat.le_of_ble_eq_true rfl, inxX3, (xT_t1 (List.mem_of_getElem? (i := 126) rfl) rfl)⟩
theorem fl_X2_11 : xFl RX2 11 13 0 := ⟨(2, 12), RX2, TX2, 12, rfl, Nat.le_of_ble_eq_true rfl, rfl, Nat.le_of_ble_eq_true rfl, inxX2, (xT_t1 (List.mem_of_getElem? (i := 161) rfl) rfl)⟩
theorem fl_X2_20 : xFl RX2 20 13 1 := ⟨(2, 12), RX2, TX2, 12, rfl, Nat.le_of_ble_eq_true rfl, rfl, Nat.le_of_ble_eq_true rfl, inxX2, (xT_t1 (List.mem_of_getElem? (i := 164) rfl) rfl)⟩
theorem fl_X2_27 : xFl RX2 27 13 2 := ⟨(2, 12), RX2, TX2, 12, rfl, Nat.le_of_ble_eq_true rfl, rfl, Nat.le_of_ble_eq_true rfl, inxX2, (xT_t1 (List.mem_of_getElem? (i := 166) rfl) rfl)⟩
theorem fl_X2_31 : xFl RX2 31 13 3 := ⟨(2, 12), RX2, TX2, 12, rfl, Nat.le_of_ble_eq_true rfl, rfl, Nat.le_of_ble_eq_true rfl, inxX2, (xT_t1 (List.mem_of_getElem? (i := 169) rfl) rfl)⟩
theorem fl_X2_34 : xFl RX2 34 13 4 := ⟨(2, 12), RX2, TX2, 12, rfl, Nat.le_of_ble_eq_true rfl, rfl, Nat.le_of_ble_eq_true rfl, inxX2, (xT_t1 (List.mem_of_getElem? (i := 172) rfl) rfl)⟩
theorem fl_X2_37 : xFl RX2 37 13 5 := ⟨(2, 12), RX2, TX2, 12, rfl, Nat.le_of_ble_eq_true rfl, rfl, Nat.le_of_ble_eq_true rfl, inxX2, (xT_t1 (List.mem_of_getElem? (i := 175) rfl) rfl)⟩
theorem fl_X2_41 : xFl RX2 41 13 6 := ⟨(2, 12), RX2, TX2, 12, rfl, Nat.le_of_ble_eq_true rfl, rfl, Nat.le_of_ble_eq_true rfl, inxX2, (xT_t1 (List.mem_of_getElem? (i := 178) rfl) rfl)⟩
theorem fl_X2_47 : xFl RX2 47 13 10 := ⟨(2, 12), RX2, TX2, 12, rfl, Nat.le_of_ble_eq_true rfl, rfl, Nat.le_of_ble_eq_true rfl, inxX2, (xT_t1 (List.mem_of_getElem? (i := 187) rfl) rfl)⟩
theorem fl_X2_50 : xFl RX2 50 13 11 := ⟨(2, 12), RX2, TX2, 12, rfl, Nat.le_of_ble_eq_true rfl, rfl, Nat.le_of_ble_eq_true rfl, inxX2, (xT_t1 (List.mem_of_getElem? (i := 189) rfl) rfl)⟩
theorem fl_X2_63 : xFl RX2 63 13 7 := ⟨(2, 12), RX2, TX2, 12, rfl, Nat.le_of_ble_eq_true rfl, rfl, Nat.le_of_ble_eq_true rfl, inxX2, (xT_t1 (List.mem_of_getElem? (i := 181) rfl) rfl)⟩
theorem fl_X2_66 : xFl RX2 66 13 8 := ⟨(2, 12), RX2, TX2, 12, rfl, Nat.le_of_ble_eq_true rfl, rfl, Nat.le_of_ble_eq_true rfl, inxX2, (xT_t1 (List.mem_of_getElem? (i := 184) rfl) rfl)⟩
theorem fl_X2_69 : xFl RX2 69 13 9 := ⟨(2, 12), RX2, TX2, 12, rfl, Nat.le_of_ble_eq_true rfl, rfl, Nat.le_of_ble_eq_true rfl, inxX2, (xT_t1 (List.mem_of_getElem? (i := 185) rfl) rfl)⟩
theorem fl_X2_72 : xFl RX2 72 16 10 := ⟨(3, 16), RX3, TX3, 16, rfl, Nat.le_of_ble_eq_true rfl, rfl, Nat.le_of_ble_eq_true rfl, inxX3, (xT_t1 (List.mem_of_getElem? (i := 105) rfl) rfl)⟩
theorem fl_X2_75 : xFl RX2 75 16 11 := ⟨(3, 16), RX3, TX3, 16, rfl, Nat.le_of_ble_eq_true rfl, rfl, Nat.le_of_ble_eq_true rfl, inxX3, (xT_t1 (List.mem_of_getElem? (i := 109) rfl) rfl)⟩
theorem fl_X2_78 : xFl RX2 78 16 12 := ⟨(3, 16), RX3, TX3, 16, rfl, Nat.le_of_ble_eq_true rfl, rfl, Nat.le_of_ble_eq_true rfl, inxX3, (xT_t1 (List.mem_of_getElem? (i := 113) rfl) rfl)⟩
theorem fl_X2_85 : xFl RX2 85 16 15 := ⟨(3, 16), RX3, TX3, 16, rfl, Nat.le_of_ble_eq_true rfl, rfl, Nat.le_of_ble_eq_true rfl, inxX3, (xT_t1 (List.mem_of_getElem? (i := 124) rfl) rfl)⟩
theorem fl_X3_15 : xFl RX3 15 16 1 := ⟨(3, 16), RX3, TX3, 16, rfl, Nat.le_of_ble_eq_true rfl, rfl, Nat.le_of_ble_eq_true rfl, inxX3, (xT_t1 (List.mem_of_getElem? (i := 79) rfl) rfl)⟩
theorem fl_X3_18 : xFl RX3 18 16 2 := ⟨(3, 16), RX3, TX3, 16, rfl, Nat.le_of_ble_eq_true rfl, rfl, Nat.le_of_ble_eq_true rfl, inxX3, (xT_t1 (List.mem_of_getElem? (i := 81) rfl) rfl)⟩
theorem fl_X3_21 : xFl RX3 21 16 3 := ⟨(3, 16), RX3, TX3, 16, rfl, Nat.le_of_ble_eq_true rfl, rfl, Nat.le_of_ble_eq_true rfl, inxX3, (xT_t1 (List.mem_of_getElem? (i := 84) rfl) rfl)⟩
theorem fl_X3_24 : xFl RX3 24 16 4 := ⟨(3, 16), RX3, TX3, 16, rfl, Nat.le_of_ble_eq_true rfl, rfl, Nat.le_of_ble_eq_true rfl, inxX3, (xT_t1 (List.mem_of_getElem? (i := 87) rfl) rfl)⟩
theorem fl_X3_27 : xFl RX3 27 16 5 := ⟨(3, 16), RX3, TX3, 16, rfl, Nat.le_of_ble_eq_true rfl, rfl, Nat.le_of_ble_eq_true rfl, inxX3, (xT_t1 (List.mem_of_getElem? (i := 90) rfl) rfl)⟩
theorem fl_X3_30 : xFl RX3 30 16 6 := ⟨(3, 16), RX3, TX3, 16, rfl, Nat.le_of_ble_eq_true rfl, rfl, Nat.le_of_ble_eq_true rfl, inxX3, (xT_t1 (List.mem_of_getElem? (i := 93) rfl) rfl)⟩
theorem fl_X3_33 : xFl RX3 33 16 7 := ⟨(3, 16), RX3, TX3, 16, rfl, Nat.le_of_ble_eq_true rfl, rfl, Nat.le_of_ble_eq_true rfl, inxX3, (xT_t1 (List.mem_of_getElem? (i := 96) rfl) rfl)⟩
theorem fl_X3_37 : xFl RX3 37 16 8 := ⟨(3, 16), RX3, TX3, 16, rfl, Nat.le_of_ble_eq_true rfl, rfl, Nat.le_of_ble_eq_true rfl, inxX3, (xT_t1 (List.mem_of_getElem? (i := 99) rfl) rfl)⟩
theorem fl_X3_40 : xFl RX3 40 16 9 := ⟨(3, 16), RX3, TX3, 16, rfl, Nat.le_of_ble_eq_true rfl, rfl, Nat.le_of_ble_eq_true rfl, inxX3, (xT_t1 (List.mem_of_getElem? (i := 102) rfl) rfl)⟩
theorem fl_X3_43 : xFl RX3 43 16 10 := ⟨(3, 16), RX3, TX3, 16, rfl, Nat.le_of_ble_eq_true rfl, rfl, Nat.le_of_ble_eq_true rfl, inxX3, (xT_t1 (List.mem_of_getElem? (i := 104) rfl) rfl)⟩
theorem fl_X3_46 : xFl RX3 46 16 11 := ⟨(3, 16), RX3, TX3, 16, rfl, Nat.le_of_ble_eq_true rfl, rfl, Nat.le_of_ble_eq_true rfl, inxX3, (xT_t1 (List.mem_of_getElem? (i := 108) rfl) rfl)⟩
theorem fl_X3_49 : xFl RX3 49 16 12 := ⟨(3, 16), RX3, TX3, 16, rfl, Nat.le_of_ble_eq_true rfl, rfl, Nat.le_of_ble_eq_true rfl, inxX3, (xT_t1 (List.mem_of_getElem? (i := 112) rfl) rfl)⟩
theorem fl_X3_52 : xFl RX3 52 16 13 := ⟨(3, 16), RX3, TX3, 16, rfl, Nat.le_of_ble_eq_true rfl, rfl, Nat.le_of_ble_eq_true rfl, inxX3, (xT_t1 (List.mem_of_getElem? (i := 116) rfl) rfl)⟩
theorem fl_X3_55 : xFl RX3 55 16 14 := ⟨(3, 16), RX3, TX3, 16, rfl, Nat.le_of_ble_eq_true rfl, rfl, Nat.le_of_ble_eq_true rfl, inxX3, (xT_t1 (List.mem_of_getElem? (i := 120) rfl) rfl)⟩
theorem fl_X3_58 : xFl RX3 58 16 15 := ⟨(3, 16), RX3, TX3, 16, rfl, Nat.le_of_ble_eq_true rfl, rfl, Nat.le_of_ble_eq_true rfl, inxX3, (xT_t1 (List.mem_of_getElem? (i := 123) rfl) rfl)⟩
theorem fl_X4_9 : xFl RX4 9 23 0 := ⟨(4, 9), RX4, TX4, 9, rfl, Nat.le_of_ble_eq_true rfl, rfl, Nat.le_of_ble_eq_true rfl, inxX4, (xT_t2 (List.mem_of_getElem? (i := 33) rfl) rfl)⟩
theorem fl_X4_15 : xFl RX4 15 23 2 := ⟨(4, 9), RX4, TX4, 9, rfl, Nat.le_of_ble_eq_true rfl, rfl, Nat.le_of_ble_eq_true rfl, inxX4, (xT_t2 (List.mem_of_getElem? (i := 37) rfl) rfl)⟩
theorem fl_X4_19 : xFl RX4 19 23 3 := ⟨(4, 9), RX4, TX4, 9, rfl, Nat.le_of_ble_eq_true rfl, rfl, Nat.le_of_ble_eq_true rfl, inxX4, (xT_t2 (List.mem_of_getElem? (i := 38) rfl) rfl)⟩
theorem fl_X4_22 : xFl RX4 22 23 1 := ⟨(4, 9), RX4, TX4, 9, rfl, Nat.le_of_ble_eq_true rfl, rfl, Nat.le_of_ble_eq_true rfl, inxX4, (xT_t2 (List.mem_of_getElem? (i := 35) rfl) rfl)⟩
theorem fl_X4_36 : xFl RX4 36 23 4 := ⟨(4, 9), RX4, TX4, 9, rfl, Nat.le_of_ble_eq_true rfl, rfl, Nat.le_of_ble_eq_true rfl, inxX4, (xT_t2 (List.mem_of_getElem? (i := 39) rfl) rfl)⟩
theorem fl_X4_39 : xFl RX4 39 23 5 := ⟨(4, 9), RX4, TX4, 9, rfl, Nat.le_of_ble_eq_true rfl, rfl, Nat.le_of_ble_eq_true rfl, inxX4, (xT_t2 (List.mem_of_getElem? (i := 41) rfl) rfl)⟩
theorem fl_X4_42 : xFl RX4 42 23 8 := ⟨(4, 9), RX4, TX4, 9, rfl, Nat.le_of_ble_eq_true rfl, rfl, Nat.le_of_ble_eq_true rfl, inxX4, (xT_t2 (List.mem_of_getElem? (i := 47) rfl) rfl)⟩
theorem fl_X4_49 : xFl RX4 49 23 6 := ⟨(4, 9), RX4, TX4, 9, rfl, Nat.le_of_ble_eq_true rfl, rfl, Nat.le_of_ble_eq_true rfl, inxX4, (xT_t2 (List.mem_of_getElem? (i := 43) rfl) rfl)⟩
theorem fl_X4_56 : xFl RX4 56 23 7 := ⟨(4, 9), RX4, TX4, 9, rfl, Nat.le_of_ble_eq_true rfl, rfl, Nat.le_of_ble_eq_true rfl, inxX4, (xT_t2 (List.mem_of_getElem? (i := 45) rfl) rfl)⟩
theorem fl_X5_10 : xFl RX5 10 20 0 := ⟨(5, 5), RX5, TX5, 5, rfl, Nat.le_of_ble_eq_true rfl, rfl, Nat.le_of_ble_eq_true rfl, inxX5, (xT_t2 (List.mem_of_getElem? (i := 88) rfl) rfl)⟩
theorem fl_X5_16 : xFl RX5 16 20 1 := ⟨(5, 5), RX5, TX5, 5, rfl, Nat.le_of_ble_eq_true rfl, rfl, Nat.le_of_ble_eq_true rfl, inxX5, (xT_t2 (List.mem_of_getElem? (i := 89) rfl) rfl)⟩
theorem fl_X5_19 : xFl RX5 19 20 2 := ⟨(5, 5), RX5, TX5, 5, rfl, Nat.le_of_ble_eq_true rfl, rfl, Nat.le_of_ble_eq_true rfl, inxX5, (xT_t2 (List.mem_of_getElem? (i := 90) rfl) rfl)⟩
theorem fl_X5_23 : xFl RX5 23 20 3 := ⟨(5, 5), RX5, TX5, 5, rfl, Nat.le_of_ble_eq_true rfl, rfl, Nat.le_of_ble_eq_true rfl, inxX5, (xT_t2 (List.mem_of_getElem? (i := 91) rfl) rfl)⟩
theorem fl_X5_30 : xFl RX5 30 20 4 := ⟨(5, 5), RX5, TX5, 5, rfl, Nat.le_of_ble_eq_true rfl, rfl, Nat.le_of_ble_eq_true rfl, inxX5, (xT_t2 (List.mem_of_getElem? (i := 92) rfl) rfl)⟩
theorem fl_X5_42 : xFl RX5 42 0 0 := ⟨(0, 13), RX0, TX0, 13, rfl, Nat.le_of_ble_eq_true rfl, rfl, Nat.le_of_ble_eq_true rfl, inxX0, (xT_t1 (List.mem_of_getElem? (i := 218) rfl) rfl)⟩
theorem fl_X5_46 : xFl RX5 46 1 0 := ⟨(1, 9), RX1, TX1, 9, rfl, Nat.le_of_ble_eq_true rfl, rfl, Nat.le_of_ble_eq_true rfl, inxX1, (xT_t1 (List.mem_of_getElem? (i := 31) rfl) rfl)⟩
theorem fl_X5_56 : xFl RX5 56 13 2 := ⟨(2, 12), RX2, TX2, 12, rfl, Nat.le_of_ble_eq_true rfl, rfl, Nat.le_of_ble_eq_true rfl, inxX2, (xT_t1 (List.mem_of_getElem? (i := 167) rfl) rfl)⟩
theorem fl_X5_71 : xFl RX5 71 13 3 := ⟨(2, 12), RX2, TX2, 12, rfl, Nat.le_of_ble_eq_true rfl, rfl, Nat.le_of_ble_eq_true rfl, inxX2, (xT_t1 (List.mem_of_getElem? (i := 170) rfl) rfl)⟩
theorem fl_X5_78 : xFl RX5 78 16 1 := ⟨(3, 16), RX3, TX3, 16, rfl, Nat.le_of_ble_eq_true rfl, rfl, Nat.le_of_ble_eq_true rfl, inxX3, (xT_t1 (List.mem_of_getElem? (i := 80) rfl) rfl)⟩
theorem fl_X5_83 : xFl RX5 83 16 4 := ⟨(3, 16), RX3, TX3, 16, rfl, Nat.le_of_ble_eq_true rfl, rfl, Nat.le_of_ble_eq_true rfl, inxX3, (xT_t1 (List.mem_of_getElem? (i := 88) rfl) rfl)⟩
theorem fl_X5_86 : xFl RX5 86 16 2 := ⟨(3, 16), RX3, TX3, 16, rfl, Nat.le_of_ble_eq_true rfl, rfl, Nat.le_of_ble_eq_true rfl, inxX3, (xT_t1 (List.mem_of_getElem? (i := 82) rfl) rfl)⟩
theorem fl_X5_89 : xFl RX5 89 16 3 := ⟨(3, 16), RX3, TX3, 16, rfl, Nat.le_of_ble_eq_true rfl, rfl, Nat.le_of_ble_eq_true rfl, inxX3, (xT_t1 (List.mem_of_getElem? (i := 85) rfl) rfl)⟩
theorem fl_X5_92 : xFl RX5 92 16 12 := ⟨(3, 16), RX3, TX3, 16, rfl, Nat.le_of_ble_eq_true rfl, rfl, Nat.le_of_ble_eq_true rfl, inxX3, (xT_t1 (List.mem_of_getElem? (i := 114) rfl) rfl)⟩
theorem fl_X5_95 : xFl RX5 95 16 7 := ⟨(3, 16), RX3, TX3, 16, rfl, Nat.le_of_ble_eq_true rfl, rfl, Nat.le_of_ble_eq_true rfl, inxX3, (xT_t1 (List.mem_of_getElem? (i := 97) rfl) rfl)⟩
theorem fl_X5_103 : xFl RX5 103 16 8 := ⟨(3, 16), RX3, TX3, 16, rfl, Nat.le_of_ble_eq_true rfl, rfl, Nat.le_of_ble_eq_true rfl, inxX3, (xT_t1 (List.mem_of_getElem? (i := 100) rfl) rfl)⟩
theorem fl_X5_106 : xFl RX5 106 13 6 := ⟨(2, 12), RX2, TX2, 12, rfl, Nat.le_of_ble_eq_true rfl, rfl, Nat.le_of_ble_eq_true rfl, inxX2, (xT_t1 (List.mem_of_getElem? (i := 179) rfl) rfl)⟩
theorem fl_X5_109 : xFl RX5 109 13 5 := ⟨(2, 12), RX2, TX2, 12, rfl, Nat.le_of_ble_eq_true rfl, rfl, Nat.le_of_ble_eq_true rfl, inxX2, (xT_t1 (List.mem_of_getElem? (i := 176) rfl) rfl)⟩
theorem fl_X5_112 : xFl RX5 112 16 5 := ⟨(3, 16), RX3, TX3, 16, rfl, Nat.le_of_ble_eq_true rfl, rfl, Nat.le_of_ble_eq_true rfl, inxX3, (xT_t1 (List.mem_of_getElem? (i := 91) rfl) rfl)⟩
theorem fl_X5_115 : xFl RX5 115 0 3 := ⟨(0, 13), RX0, TX0, 13, rfl, Nat.le_of_ble_eq_true rfl, rfl, Nat.le_of_ble_eq_true rfl, inxX0, (xT_t1 (List.mem_of_getElem? (i := 224) rfl) rfl)⟩
theorem fl_X5_122 : xFl RX5 122 13 4 := ⟨(2, 12), RX2, TX2, 12, rfl, Nat.le_of_ble_eq_true rfl, rfl, Nat.le_of_ble_eq_true rfl, inxX2, (xT_t1 (List.mem_of_getElem? (i := 174) rfl) rfl)⟩
theorem fl_X5_140 : xFl RX5 140 0 2 := ⟨(0, 13), RX0, TX0, 13, rfl, Nat.le_of_ble_eq_true rfl, rfl, Nat.le_of_ble_eq_true rfl, inxX0, (xT_t1 (List.mem_of_getElem? (i := 222) rfl) rfl)⟩
theorem fl_X5_171 : xFl RX5 171 16 10 := ⟨(3, 16), RX3, TX3, 16, rfl, Nat.le_of_ble_eq_true rfl, rfl, Nat.le_of_ble_eq_true rfl, inxX3, (xT_t1 (List.mem_of_getElem? (i := 107) rfl) rfl)⟩
theorem fl_X5_174 : xFl RX5 174 16 11 := ⟨(3, 16), RX3, TX3, 16, rfl, Nat.le_of_ble_eq_true rfl, rfl, Nat.le_of_ble_eq_true rfl, inxX3, (xT_t1 (List.mem_of_getElem? (i := 111) rfl) rfl)⟩
theorem fl_X5_177 : xFl RX5 177 16 9 := ⟨(3, 16), RX3, TX3, 16, rfl, Nat.le_of_ble_eq_true rfl, rfl, Nat.le_of_ble_eq_true rfl, inxX3, (xT_t1 (List.mem_of_getElem? (i := 103) rfl) rfl)⟩
theorem fl_X5_180 : xFl RX5 180 13 7 := ⟨(2, 12), RX2, TX2, 12, rfl, Nat.le_of_ble_eq_true rfl, rfl, Nat.le_of_ble_eq_true rfl, inxX2, (xT_t1 (List.mem_of_getElem? (i := 183) rfl) rfl)⟩
theorem fl_X5_183 : xFl RX5 183 16 6 := ⟨(3, 16), RX3, TX3, 16, rfl, Nat.le_of_ble_eq_true rfl, rfl, Nat.le_of_ble_eq_true rfl, inxX3, (xT_t1 (List.mem_of_getElem? (i := 95) rfl) rfl)⟩
theorem fl_X5_186 : xFl RX5 186 13 1 := ⟨(2, 12), RX2, TX2, 12, rfl, Nat.le_of_ble_eq_true rfl, rfl, Nat.le_of_ble_eq_true rfl, inxX2, (xT_t1 (List.mem_of_getElem? (i := 165) rfl) rfl)⟩
theorem fl_X5_190 : xFl RX5 190 13 10 := ⟨(2, 12), RX2, TX2, 12, rfl, Nat.le_of_ble_eq_true rfl, rfl, Nat.le_of_ble_eq_true rfl, inxX2, (xT_t1 (List.mem_of_getElem? (i := 188) rfl) rfl)⟩
theorem fl_X5_193 : xFl RX5 193 0 9 := ⟨(0, 13), RX0, TX0, 13, rfl, Nat.le_of_ble_eq_true rfl, rfl, Nat.le_of_ble_eq_true rfl, inxX0, (xT_t1 (List.mem_of_getElem? (i := 234) rfl) rfl)⟩
theorem fl_X5_196 : xFl RX5 196 0 8 := ⟨(0, 13), RX0, TX0, 13, rfl, Nat.le_of_ble_eq_true rfl, rfl, Nat.le_of_ble_eq_true rfl, inxX0, (xT_t1 (List.mem_of_getElem? (i := 232) rfl) rfl)⟩
theorem fl_X5_199 : xFl RX5 199 13 11 := ⟨(2, 12), RX2, TX2, 12, rfl, Nat.le_of_ble_eq_true rfl, rfl, Nat.le_of_ble_eq_true rfl, inxX2, (xT_t1 (List.mem_of_getElem? (i := 191) rfl) rfl)⟩
theorem fl_X5_202 : xFl RX5 202 0 5 := ⟨(0, 13), RX0, TX0, 13, rfl, Nat.le_of_ble_eq_true rfl, rfl, Nat.le_of_ble_eq_true rfl, inxX0, (xT_t1 (List.mem_of_getElem? (i := 228) rfl) rfl)⟩
theorem fl_X5_205 : xFl RX5 205 0 4 := ⟨(0, 13), RX0, TX0, 13, rfl, Nat.le_of_ble_eq_true rfl, rfl, Nat.le_of_ble_eq_true rfl, inxX0, (xT_t1 (List.mem_of_getElem? (i := 226) rfl) rfl)⟩
theorem fl_X5_208 : xFl RX5 208 16 15 := ⟨(3, 16), RX3, TX3, 16, rfl, Nat.le_of_ble_eq_true rfl, rfl, Nat.le_of_ble_eq_true rfl, inxX3, (xT_t1 (List.mem_of_getElem? (i := 127) rfl) rfl)⟩
theorem fl_X5_211 : xFl RX5 211 16 13 := ⟨(3, 16), RX3, TX3, 16, rfl, Nat.le_of_ble_eq_true rfl, rfl, Nat.le_of_ble_eq_true rfl, inxX3, (xT_t1 (List.mem_of_getElem? (i := 119) rfl) rfl)⟩
theorem fl_X5_229 : xFl RX5 229 1 2 := ⟨(1, 9), RX1, TX1, 9, rfl, Nat.le_of_ble_eq_true rfl, rfl, Nat.le_of_ble_eq_true rfl, inxX1, (xT_t1 (List.mem_of_getElem? (i := 35) rfl) rfl)⟩
theorem fl_X5_245 : xFl RX5 245 0 10 := ⟨(0, 13), RX0, TX0, 13, rfl, Nat.le_of_ble_eq_true rfl, rfl, Nat.le_of_ble_eq_true rfl, inxX0, (xT_t1 (List.mem_of_getElem? (i := 236) rfl) rfl)⟩
theorem fl_X5_262 : xFl RX5 262 23 1 := ⟨(4, 9), RX4, TX4, 9, rfl, Nat.le_of_ble_eq_true rfl, rfl, Nat.le_of_ble_eq_true rfl, inxX4, (xT_t2 (List.mem_of_getElem? (i := 36) rfl) rfl)⟩
theorem fl_X5_263 : xFl RX5 263 23 0 := ⟨(4, 9), RX4, TX4, 9, rfl, Nat.le_of_ble_eq_true rfl, rfl, Nat.le_of_ble_eq_true rfl, inxX4, (xT_t2 (List.mem_of_getElem? (i := 34) rfl) rfl)⟩
theorem fl_X5_279 : xFl RX5 279 23 5 := ⟨(4, 9), RX4, TX4, 9, rfl, Nat.le_of_ble_eq_true rfl, rfl, Nat.le_of_ble_eq_true rfl, inxX4, (xT_t2 (List.mem_of_getElem? (i := 42) rfl) rfl)⟩
theorem fl_X5_282 : xFl RX5 282 23 4 := ⟨(4, 9), RX4, TX4, 9, rfl, Nat.le_of_ble_eq_true rfl, rfl, Nat.le_of_ble_eq_true rfl, inxX4, (xT_t2 (List.mem_of_getElem? (i := 40) rfl) rfl)⟩
theorem fl_X5_285 : xFl RX5 285 23 6 := ⟨(4, 9), RX4, TX4, 9, rfl, Nat.le_of_ble_eq_true rfl, rfl, Nat.le_of_ble_eq_true rfl, inxX4, (xT_t2 (List.mem_of_getElem? (i := 44) rfl) rfl)⟩
theorem fl_X5_288 : xFl RX5 288 23 7 := ⟨(4, 9), RX4, TX4, 9, rfl, Nat.le_of_ble_eq_true rfl, rfl, Nat.le_of_ble_eq_true rfl, inxX4, (xT_t2 (List.mem_of_getElem? (i := 46) rfl) rfl)⟩
theorem fl_X5_291 : xFl RX5 291 23 8 := ⟨(4, 9), RX4, TX4, 9, rfl, Nat.le_of_ble_eq_true rfl, rfl, Nat.le_of_ble_eq_true rfl, inxX4, (xT_t2 (List.mem_of_getElem? (i := 48) rfl) rfl)⟩
theorem fl_X5_298 : xFl RX5 298 0 1 := ⟨(0, 13), RX0, TX0, 13, rfl, Nat.le_of_ble_eq_true rfl, rfl, Nat.le_of_ble_eq_true rfl, inxX0, (xT_t1 (List.mem_of_getElem? (i := 220) rfl) rfl)⟩
theorem fl_X5_310 : xFl RX5 310 13 0 := ⟨(2, 12), RX2, TX2, 12, rfl, Nat.le_of_ble_eq_true rfl, rfl, Nat.le_of_ble_eq_true rfl, inxX2, (xT_t1 (List.mem_of_getElem? (i := 163) rfl) rfl)⟩
theorem fl_X6_7 : xFl RX6 7 30 0 := ⟨(6, 13), RX6, TX6, 13, rfl, Nat.le_of_ble_eq_true rfl, rfl, Nat.le_of_ble_eq_true rfl, inxX6, (xT_t4 (List.mem_of_getElem? (i := 189) rfl) rfl)⟩
theorem fl_X6_13 : xFl RX6 13 30 1 := ⟨(6, 13), RX6, TX6, 13, rfl, Nat.le_of_ble_eq_true rfl, rfl, Nat.le_of_ble_eq_true rfl, inxX6, (xT_t4 (List.mem_of_getElem? (i := 190) rfl) rfl)⟩
theorem fl_X6_16 : xFl RX6 16 30 2 := ⟨(6, 13), RX6, TX6, 13, rfl, Nat.le_of_ble_eq_true rfl, rfl, Nat.le_of_ble_eq_true rfl, inxX6, (xT_t4 (List.mem_of_getElem? (i := 191) rfl) rfl)⟩
theorem fl_X6_19 : xFl RX6 19 30 3 := ⟨(6, 13), RX6, TX6, 13, rfl, Nat.le_of_ble_eq_true rfl, rfl, Nat.le_of_ble_eq_true rfl, inxX6, (xT_t4 (List.mem_of_getElem? (i := 192) rfl) rfl)⟩
theorem fl_X6_23 : xFl RX6 23 30 4 := ⟨(6, 13), RX6, TX6, 13, rfl, Nat.le_of_ble_eq_true rfl, rfl, Nat.le_of_ble_eq_true rfl, inxX6, (xT_t4 (List.mem_of_getElem? (i := 193) rfl) rfl)⟩
theorem fl_X6_26 : xFl RX6 26 30 6 := ⟨(6, 13), RX6, TX6, 13, rfl, Nat.le_of_ble_eq_true rfl, rfl, Nat.le_of_ble_eq_true rfl, inxX6, (xT_t4 (List.mem_of_getElem? (i := 195) rfl) rfl)⟩
theorem fl_X6_29 : xFl RX6 29 30 8 := ⟨(6, 13), RX6, TX6, 13, rfl, Nat.le_of_ble_eq_true rfl, rfl, Nat.le_of_ble_eq_true rfl, inxX6, (xT_t4 (List.mem_of_getElem? (i := 197) rfl) rfl)⟩
theorem fl_X6_125 : xFl RX6 125 30 7 := ⟨(6, 13), RX6, TX6, 13, rfl, Nat.le_of_ble_eq_true rfl, rfl, Nat.le_of_ble_eq_true rfl, inxX6, (xT_t4 (List.mem_of_getElem? (i := 196) rfl) rfl)⟩
theorem fl_X6_199 : xFl RX6 199 30 5 := ⟨(6, 13), RX6, TX6, 13, rfl, Nat.le_of_ble_eq_true rfl, rfl, Nat.le_of_ble_eq_true rfl, inxX6, (xT_t4 (List.mem_of_getElem? (i := 194) rfl) rfl)⟩
theorem fl_X6_202 : xFl RX6 202 30 9 := ⟨(6, 13), RX6, TX6, 13, rfl, Nat.le_of_ble_eq_true rfl, rfl, Nat.le_of_ble_eq_true rfl, inxX6, (xT_t4 (List.mem_of_getElem? (i := 198) rfl) rfl)⟩
theorem fl_X6_208 : xFl RX6 208 30 10 := ⟨(6, 13), RX6, TX6, 13, rfl, Nat.le_of_ble_eq_true rfl, rfl, Nat.le_of_ble_eq_true rfl, inxX6, (xT_t4 (List.mem_of_getElem? (i := 199) rfl) rfl)⟩
theorem fl_X6_230 : xFl RX6 230 30 12 := ⟨(6, 13), RX6, TX6, 13, rfl, Nat.le_of_ble_eq_true rfl, rfl, Nat.le_of_ble_eq_true rfl, inxX6, (xT_t4 (List.mem_of_getElem? (i := 201) rfl) rfl)⟩
theorem fl_X6_239 : xFl RX6 239 30 11 := ⟨(6, 13), RX6, TX6, 13, rfl, Nat.le_of_ble_eq_true rfl, rfl, Nat.le_of_ble_eq_true rfl, inxX6, (xT_t4 (List.mem_of_getElem? (i := 200) rfl) rfl)⟩
theorem fp_X0_38 : xFp RX0 38 0 2 .int := ⟨(0, 13), RX0, TX0, 13, tyX0, rfl, Nat.le_of_ble_eq_true rfl, rfl, Nat.le_of_ble_eq_true rfl, inxX0, (xT_t1 (List.mem_of_getElem? (i := 221) rfl) rfl), tyX0_ok, nmX0, rfl, by decide +kernel⟩
theorem fp_X0_42 : xFp RX0 42 0 3 .boolean := ⟨(0, 13), RX0, TX0, 13, tyX0, rfl, Nat.le_of_ble_eq_true rfl, rfl, Nat.le_of_ble_eq_true rfl, inxX0, (xT_t1 (List.mem_of_getElem? (i := 223) rfl) rfl), tyX0_ok, nmX0, rfl, by decide +kernel⟩
theorem fp_X0_46 : xFp RX0 46 0 4 .int := ⟨(0, 13), RX0, TX0, 13, tyX0, rfl, Nat.le_of_ble_eq_true rfl, rfl, Nat.le_of_ble_eq_true rfl, inxX0, (xT_t1 (List.mem_of_getElem? (i := 225) rfl) rfl), tyX0_ok, nmX0, rfl, by decide +kernel⟩
theorem fp_X0_49 : xFp RX0 49 0 5 .int := ⟨(0, 13), RX0, TX0, 13, tyX0, rfl, Nat.le_of_ble_eq_true rfl, rfl, Nat.le_of_ble_eq_true rfl, inxX0, (xT_t1 (List.mem_of_getElem? (i := 227) rfl) rfl), tyX0_ok, nmX0, rfl, by decide +kernel⟩
theorem fp_X0_52 : xFp RX0 52 0 6 .int := ⟨(0, 13), RX0, TX0, 13, tyX0, rfl, Nat.le_of_ble_eq_true rfl, rfl, Nat.le_of_ble_eq_true rfl, inxX0, (xT_t1 (List.mem_of_getElem? (i := 229) rfl) rfl), tyX0_ok, nmX0, rfl, by decide +kernel⟩
theorem fp_X0_55 : xFp RX0 55 0 7 .int := ⟨(0, 13), RX0, TX0, 13, tyX0, rfl, Nat.le_of_ble_eq_true rfl, rfl, Nat.le_of_ble_eq_true rfl, inxX0, (xT_t1 (List.mem_of_getElem? (i := 230) rfl) rfl), tyX0_ok, nmX0, rfl, by decide +kernel⟩
theorem fp_X0_58 : xFp RX0 58 0 9 .boolean := ⟨(0, 13), RX0, TX0, 13, tyX0, rfl, Nat.le_of_ble_eq_true rfl, rfl, Nat.le_of_ble_eq_true rfl, inxX0, (xT_t1 (List.mem_of_getElem? (i := 233) rfl) rfl), tyX0_ok, nmX0, rfl, by decide +kernel⟩
theorem fp_X0_84 : xFp RX0 84 13 4 .int := ⟨(2, 12), RX2, TX2, 12, tyX2, rfl, Nat.le_of_ble_eq_true rfl, rfl, Nat.le_of_ble_eq_true rfl, inxX2, (xT_t1 (List.mem_of_getElem? (i := 173) rfl) rfl), tyX2_ok, nmX2, rfl, by decide +kernel⟩
theorem fp_X0_129 : xFp RX0 129 0 10 .int := ⟨(0, 13), RX0, TX0, 13, tyX0, rfl, Nat.le_of_ble_eq_true rfl, rfl, Nat.le_of_ble_eq_true rfl, inxX0, (xT_t1 (List.mem_of_getElem? (i := 235) rfl) rfl), tyX0_ok, nmX0, rfl, by decide +kernel⟩
theorem fp_X0_132 : xFp RX0 132 0 12 .int := ⟨(0, 13), RX0, TX0, 13, tyX0, rfl, Nat.le_of_ble_eq_true rfl, rfl, Nat.le_of_ble_eq_true rfl, inxX0, (xT_t1 (List.mem_of_getElem? (i := 238) rfl) rfl), tyX0_ok, nmX0, rfl, by decide +kernel⟩
theorem fp_X0_157 : xFp RX0 157 16 12 .int := ⟨(3, 16), RX3, TX3, 16, tyX3, rfl, Nat.le_of_ble_eq_true rfl, rfl, Nat.le_of_ble_eq_true rfl, inxX3, (xT_t1 (List.mem_of_getElem? (i := 115) rfl) rfl), tyX3_ok, nmX3, rfl, by decide +kernel⟩
theorem fp_X0_206 : xFp RX0 206 16 10 .int := ⟨(3, 16), RX3, TX3, 16, tyX3, rfl, Nat.le_of_ble_eq_true rfl, rfl, Nat.le_of_ble_eq_true rfl, inxX3, (xT_t1 (List.mem_of_getElem? (i := 106) rfl) rfl), tyX3_ok, nmX3, rfl, by decide +kernel⟩
theorem fp_X0_218 : xFp RX0 218 16 6 .int := ⟨(3, 16), RX3, TX3, 16, tyX3, rfl, Nat.le_of_ble_eq_true rfl, rfl, Nat.le_of_ble_eq_true rfl, inxX3, (xT_t1 (List.mem_of_getElem? (i := 94) rfl) rfl), tyX3_ok, nmX3, rfl, by decide +kernel⟩
theorem fp_X0_238 : xFp RX0 238 16 4 .int := ⟨(3, 16), RX3, TX3, 16, tyX3, rfl, Nat.le_of_ble_eq_true rfl, rfl, Nat.le_of_ble_eq_true rfl, inxX3, (xT_t1 (List.mem_of_getElem? (i := 89) rfl) rfl), tyX3_ok, nmX3, rfl, by decide +kernel⟩
theorem fp_X0_247 : xFp RX0 247 16 8 .boolean := ⟨(3, 16), RX3, TX3, 16, tyX3, rfl, Nat.le_of_ble_eq_true rfl, rfl, Nat.le_of_ble_eq_true rfl, inxX3, (xT_t1 (List.mem_of_getElem? (i := 101) rfl) rfl), tyX3_ok, nmX3, rfl, by decide +kernel⟩
theorem fp_X0_250 : xFp RX0 250 13 7 .int := ⟨(2, 12), RX2, TX2, 12, tyX2, rfl, Nat.le_of_ble_eq_true rfl, rfl, Nat.le_of_ble_eq_true rfl, inxX2, (xT_t1 (List.mem_of_getElem? (i := 182) rfl) rfl), tyX2_ok, nmX2, rfl, by decide +kernel⟩
theorem fp_X0_265 : xFp RX0 265 13 11 .int := ⟨(2, 12), RX2, TX2, 12, tyX2, rfl, Nat.le_of_ble_eq_true rfl, rfl, Nat.le_of_ble_eq_true rfl, inxX2, (xT_t1 (List.mem_of_getElem? (i := 190) rfl) rfl), tyX2_ok, nmX2, rfl, by decide +kernel⟩
theorem fp_X0_279 : xFp RX0 279 13 9 .boolean := ⟨(2, 12), RX2, TX2, 12, tyX2, rfl, Nat.le_of_ble_eq_true rfl, rfl, Nat.le_of_ble_eq_true rfl, inxX2, (xT_t1 (List.mem_of_getElem? (i := 186) rfl) rfl), tyX2_ok, nmX2, rfl, by decide +kernel⟩
theorem fp_X1_37 : xFp RX1 37 1 0 .int := ⟨(1, 9), RX1, TX1, 9, tyX1, rfl, Nat.le_of_ble_eq_true rfl, rfl, Nat.le_of_ble_eq_true rfl, inxX1, (xT_t1 (List.mem_of_getElem? (i := 30) rfl) rfl), tyX1_ok, nmX1, rfl, by decide +kernel⟩
theorem fp_X1_84 : xFp RX1 84 16 14 .int := ⟨(3, 16), RX3, TX3, 16, tyX3, rfl, Nat.le_of_ble_eq_true rfl, rfl, Nat.le_of_ble_eq_true rfl, inxX3, (xT_t1 (List.mem_of_getElem? (i := 122) rfl) rfl), tyX3_ok, nmX3, rfl, by decide +kernel⟩
theorem fp_X1_89 : xFp RX1 89 16 13 .int := ⟨(3, 16), RX3, TX3, 16, tyX3, rfl, Nat.le_of_ble_eq_true rfl, rfl, Nat.le_of_ble_eq_true rfl, inxX3, (xT_t1 (List.mem_of_getElem? (i := 118) rfl) rfl), tyX3_ok, nmX3, rfl, by decide +kernel⟩
theorem fp_X1_92 : xFp RX1 92 16 15 .int := ⟨(3, 16), RX3, TX3, 16, tyX3, rfl, Nat.le_of_ble_eq_true rfl, rfl, Nat.le_of_ble_eq_true rfl, inxX3, (xT_t1 (List.mem_of_getElem? (i := 126) rfl) rfl), tyX3_ok, nmX3, rfl, by decide +kernel⟩
theorem fp_X2_27 : xFp RX2 27 13 2 .int := ⟨(2, 12), RX2, TX2, 12, tyX2, rfl, Nat.le_of_ble_eq_true rfl, rfl, Nat.le_of_ble_eq_true rfl, inxX2, (xT_t1 (List.mem_of_getElem? (i := 166) rfl) rfl), tyX2_ok, nmX2, rfl, by decide +kernel⟩
theorem fp_X2_31 : xFp RX2 31 13 3 .int := ⟨(2, 12), RX2, TX2, 12, tyX2, rfl, Nat.le_of_ble_eq_true rfl, rfl, Nat.le_of_ble_eq_true rfl, inxX2, (xT_t1 (List.mem_of_getElem? (i := 169) rfl) rfl), tyX2_ok, nmX2, rfl, by decide +kernel⟩
theorem fp_X2_34 : xFp RX2 34 13 4 .int := ⟨(2, 12), RX2, TX2, 12, tyX2, rfl, Nat.le_of_ble_eq_true rfl, rfl, Nat.le_of_ble_eq_true rfl, inxX2, (xT_t1 (List.mem_of_getElem? (i := 172) rfl) rfl), tyX2_ok, nmX2, rfl, by decide +kernel⟩
theorem fp_X2_37 : xFp RX2 37 13 5 .boolean := ⟨(2, 12), RX2, TX2, 12, tyX2, rfl, Nat.le_of_ble_eq_true rfl, rfl, Nat.le_of_ble_eq_true rfl, inxX2, (xT_t1 (List.mem_of_getElem? (i := 175) rfl) rfl), tyX2_ok, nmX2, rfl, by decide +kernel⟩
theorem fp_X2_41 : xFp RX2 41 13 6 .int := ⟨(2, 12), RX2, TX2, 12, tyX2, rfl, Nat.le_of_ble_eq_true rfl, rfl, Nat.le_of_ble_eq_true rfl, inxX2, (xT_t1 (List.mem_of_getElem? (i := 178) rfl) rfl), tyX2_ok, nmX2, rfl, by decide +kernel⟩
theorem fp_X2_47 : xFp RX2 47 13 10 .int := ⟨(2, 12), RX2, TX2, 12, tyX2, rfl, Nat.le_of_ble_eq_true rfl, rfl, Nat.le_of_ble_eq_true rfl, inxX2, (xT_t1 (List.mem_of_getElem? (i := 187) rfl) rfl), tyX2_ok, nmX2, rfl, by decide +kernel⟩
theorem fp_X2_50 : xFp RX2 50 13 11 .int := ⟨(2, 12), RX2, TX2, 12, tyX2, rfl, Nat.le_of_ble_eq_true rfl, rfl, Nat.le_of_ble_eq_true rfl, inxX2, (xT_t1 (List.mem_of_getElem? (i := 189) rfl) rfl), tyX2_ok, nmX2, rfl, by decide +kernel⟩
theorem fp_X2_63 : xFp RX2 63 13 7 .int := ⟨(2, 12), RX2, TX2, 12, tyX2, rfl, Nat.le_of_ble_eq_true rfl, rfl, Nat.le_of_ble_eq_true rfl, inxX2, (xT_t1 (List.mem_of_getElem? (i := 181) rfl) rfl), tyX2_ok, nmX2, rfl, by decide +kernel⟩
theorem fp_X2_66 : xFp RX2 66 13 8 .int := ⟨(2, 12), RX2, TX2, 12, tyX2, rfl, Nat.le_of_ble_eq_true rfl, rfl, Nat.le_of_ble_eq_true rfl, inxX2, (xT_t1 (List.mem_of_getElem? (i := 184) rfl) rfl), tyX2_ok, nmX2, rfl, by decide +kernel⟩
theorem fp_X2_69 : xFp RX2 69 13 9 .boolean := ⟨(2, 12), RX2, TX2, 12, tyX2, rfl, Nat.le_of_ble_eq_true rfl, rfl, Nat.le_of_ble_eq_true rfl, inxX2, (xT_t1 (List.mem_of_getElem? (i := 185) rfl) rfl), tyX2_ok, nmX2, rfl, by decide +kernel⟩
theorem fp_X2_72 : xFp RX2 72 16 10 .int := ⟨(3, 16), RX3, TX3, 16, tyX3, rfl, Nat.le_of_ble_eq_true rfl, rfl, Nat.le_of_ble_eq_true rfl, inxX3, (xT_t1 (List.mem_of_getElem? (i := 105) rfl) rfl), tyX3_ok, nmX3, rfl, by decide +kernel⟩
theorem fp_X2_75 : xFp RX2 75 16 11 .int := ⟨(3, 16), RX3, TX3, 16, tyX3, rfl, Nat.le_of_ble_eq_true rfl, rfl, Nat.le_of_ble_eq_true rfl, inxX3, (xT_t1 (List.mem_of_getElem? (i := 109) rfl) rfl), tyX3_ok, nmX3, rfl, by decide +kernel⟩
theorem fp_X3_15 : xFp RX3 15 16 1 .int := ⟨(3, 16), RX3, TX3, 16, tyX3, rfl, Nat.le_of_ble_eq_true rfl, rfl, Nat.le_of_ble_eq_true rfl, inxX3, (xT_t1 (List.mem_of_getElem? (i := 79) rfl) rfl), tyX3_ok, nmX3, rfl, by decide +kernel⟩
theorem fp_X3_18 : xFp RX3 18 16 2 .int := ⟨(3, 16), RX3, TX3, 16, tyX3, rfl, Nat.le_of_ble_eq_true rfl, rfl, Nat.le_of_ble_eq_true rfl, inxX3, (xT_t1 (List.mem_of_getElem? (i := 81) rfl) rfl), tyX3_ok, nmX3, rfl, by decide +kernel⟩
theorem fp_X3_21 : xFp RX3 21 16 3 .int := ⟨(3, 16), RX3, TX3, 16, tyX3, rfl, Nat.le_of_ble_eq_true rfl, rfl, Nat.le_of_ble_eq_true rfl, inxX3, (xT_t1 (List.mem_of_getElem? (i := 84) rfl) rfl), tyX3_ok, nmX3, rfl, by decide +kernel⟩
theorem fp_X3_24 : xFp RX3 24 16 4 .int := ⟨(3, 16), RX3, TX3, 16, tyX3, rfl, Nat.le_of_ble_eq_true rfl, rfl, Nat.le_of_ble_eq_true rfl, inxX3, (xT_t1 (List.mem_of_getElem? (i := 87) rfl) rfl), tyX3_ok, nmX3, rfl, by decide +kernel⟩
theorem fp_X3_27 : xFp RX3 27 16 5 .int := ⟨(3, 16), RX3, TX3, 16, tyX3, rfl, Nat.le_of_ble_eq_true rfl, rfl, Nat.le_of_ble_eq_true rfl, inxX3, (xT_t1 (List.mem_of_getElem? (i := 90) rfl) rfl), tyX3_ok, nmX3, rfl, by decide +kernel⟩
theorem fp_X3_30 : xFp RX3 30 16 6 .int := ⟨(3, 16), RX3, TX3, 16, tyX3, rfl, Nat.le_of_ble_eq_true rfl, rfl, Nat.le_of_ble_eq_true rfl, inxX3, (xT_t1 (List.mem_of_getElem? (i := 93) rfl) rfl), tyX3_ok, nmX3, rfl, by decide +kernel⟩
theorem fp_X3_33 : xFp RX3 33 16 7 .boolean := ⟨(3, 16), RX3, TX3, 16, tyX3, rfl, Nat.le_of_ble_eq_true rfl, rfl, Nat.le_of_ble_eq_true rfl, inxX3, (xT_t1 (List.mem_of_getElem? (i := 96) rfl) rfl), tyX3_ok, nmX3, rfl, by decide +kernel⟩
theorem fp_X3_37 : xFp RX3 37 16 8 .boolean := ⟨(3, 16), RX3, TX3, 16, tyX3, rfl, Nat.le_of_ble_eq_true rfl, rfl, Nat.le_of_ble_eq_true rfl, inxX3, (xT_t1 (List.mem_of_getElem? (i := 99) rfl) rfl), tyX3_ok, nmX3, rfl, by decide +kernel⟩
theorem fp_X3_40 : xFp RX3 40 16 9 .int := ⟨(3, 16), RX3, TX3, 16, tyX3, rfl, Nat.le_of_ble_eq_true rfl, rfl, Nat.le_of_ble_eq_true rfl, inxX3, (xT_t1 (List.mem_of_getElem? (i := 102) rfl) rfl), tyX3_ok, nmX3, rfl, by decide +kernel⟩
theorem fp_X3_43 : xFp RX3 43 16 10 .int := ⟨(3, 16), RX3, TX3, 16, tyX3, rfl, Nat.le_of_ble_eq_true rfl, rfl, Nat.le_of_ble_eq_true rfl, inxX3, (xT_t1 (List.mem_of_getElem? (i := 104) rfl) rfl), tyX3_ok, nmX3, rfl, by decide +kernel⟩
theorem fp_X3_46 : xFp RX3 46 16 11 .int := ⟨(3, 16), RX3, TX3, 16, tyX3, rfl, Nat.le_of_ble_eq_true rfl, rfl, Nat.le_of_ble_eq_true rfl, inxX3, (xT_t1 (List.mem_of_getElem? (i := 108) rfl) rfl), tyX3_ok, nmX3, rfl, by decide +kernel⟩
theorem fp_X3_49 : xFp RX3 49 16 12 .int := ⟨(3, 16), RX3, TX3, 16, tyX3, rfl, Nat.le_of_ble_eq_true rfl, rfl, Nat.le_of_ble_eq_true rfl, inxX3, (xT_t1 (List.mem_of_getElem? (i := 112) rfl) rfl), tyX3_ok, nmX3, rfl, by decide +kernel⟩
theorem fp_X3_52 : xFp RX3 52 16 13 .int := ⟨(3, 16), RX3, TX3, 16, tyX3, rfl, Nat.le_of_ble_eq_true rfl, rfl, Nat.le_of_ble_eq_true rfl, inxX3, (xT_t1 (List.mem_of_getElem? (i := 116) rfl) rfl), tyX3_ok, nmX3, rfl, by decide +kernel⟩
theorem fp_X3_55 : xFp RX3 55 16 14 .int := ⟨(3, 16), RX3, TX3, 16, tyX3, rfl, Nat.le_of_ble_eq_true rfl, rfl, Nat.le_of_ble_eq_true rfl, inxX3, (xT_t1 (List.mem_of_getElem? (i := 120) rfl) rfl), tyX3_ok, nmX3, rfl, by decide +kernel⟩
theorem fp_X3_58 : xFp RX3 58 16 15 .int := ⟨(3, 16), RX3, TX3, 16, tyX3, rfl, Nat.le_of_ble_eq_true rfl, rfl, Nat.le_of_ble_eq_true rfl, inxX3, (xT_t1 (List.mem_of_getElem? (i := 123) rfl) rfl), tyX3_ok, nmX3, rfl, by decide +kernel⟩
theorem fp_X4_15 : xFp RX4 15 23 2 .int := ⟨(4, 9), RX4, TX4, 9, tyX4, rfl, Nat.le_of_ble_eq_true rfl, rfl, Nat.le_of_ble_eq_true rfl, inxX4, (xT_t2 (List.mem_of_getElem? (i := 37) rfl) rfl), tyX4_ok, nmX4, rfl, by decide +kernel⟩
theorem fp_X4_19 : xFp RX4 19 23 3 .int := ⟨(4, 9), RX4, TX4, 9, tyX4, rfl, Nat.le_of_ble_eq_true rfl, rfl, Nat.le_of_ble_eq_true rfl, inxX4, (xT_t2 (List.mem_of_getElem? (i := 38) rfl) rfl), tyX4_ok, nmX4, rfl, by decide +kernel⟩
theorem fp_X4_36 : xFp RX4 36 23 4 .int := ⟨(4, 9), RX4, TX4, 9, tyX4, rfl, Nat.le_of_ble_eq_true rfl, rfl, Nat.le_of_ble_eq_true rfl, inxX4, (xT_t2 (List.mem_of_getElem? (i := 39) rfl) rfl), tyX4_ok, nmX4, rfl, by decide +kernel⟩
theorem fp_X4_39 : xFp RX4 39 23 5 .int := ⟨(4, 9), RX4, TX4, 9, tyX4, rfl, Nat.le_of_ble_eq_true rfl, rfl, Nat.le_of_ble_eq_true rfl, inxX4, (xT_t2 (List.mem_of_getElem? (i := 41) rfl) rfl), tyX4_ok, nmX4, rfl, by decide +kernel⟩
theorem fp_X4_42 : xFp RX4 42 23 8 .int := ⟨(4, 9), RX4, TX4, 9, tyX4, rfl, Nat.le_of_ble_eq_true rfl, rfl, Nat.le_of_ble_eq_true rfl, inxX4, (xT_t2 (List.mem_of_getElem? (i := 47) rfl) rfl), tyX4_ok, nmX4, rfl, by decide +kernel⟩
theorem fp_X4_49 : xFp RX4 49 23 6 .int := ⟨(4, 9), RX4, TX4, 9, tyX4, rfl, Nat.le_of_ble_eq_true rfl, rfl, Nat.le_of_ble_eq_true rfl, inxX4, (xT_t2 (List.mem_of_getElem? (i := 43) rfl) rfl), tyX4_ok, nmX4, rfl, by decide +kernel⟩
theorem fp_X4_56 : xFp RX4 56 23 7 .int := ⟨(4, 9), RX4, TX4, 9, tyX4, rfl, Nat.le_of_ble_eq_true rfl, rfl, Nat.le_of_ble_eq_true rfl, inxX4, (xT_t2 (List.mem_of_getElem? (i := 45) rfl) rfl), tyX4_ok, nmX4, rfl, by decide +kernel⟩
theorem fp_X5_56 : xFp RX5 56 13 2 .int := ⟨(2, 12), RX2, TX2, 12, tyX2, rfl, Nat.le_of_ble_eq_true rfl, rfl, Nat.le_of_ble_eq_true rfl, inxX2, (xT_t1 (List.mem_of_getElem? (i := 167) rfl) rfl), tyX2_ok, nmX2, rfl, by decide +kernel⟩
theorem fp_X5_71 : xFp RX5 71 13 3 .int := ⟨(2, 12), RX2, TX2, 12, tyX2, rfl, Nat.le_of_ble_eq_true rfl, rfl, Nat.le_of_ble_eq_true rfl, inxX2, (xT_t1 (List.mem_of_getElem? (i := 170) rfl) rfl), tyX2_ok, nmX2, rfl, by decide +kernel⟩
theorem fp_X5_78 : xFp RX5 78 16 1 .int := ⟨(3, 16), RX3, TX3, 16, tyX3, rfl, Nat.le_of_ble_eq_true rfl, rfl, Nat.le_of_ble_eq_true rfl, inxX3, (xT_t1 (List.mem_of_getElem? (i := 80) rfl) rfl), tyX3_ok, nmX3, rfl, by decide +kernel⟩
theorem fp_X5_83 : xFp RX5 83 16 4 .int := ⟨(3, 16), RX3, TX3, 16, tyX3, rfl, Nat.le_of_ble_eq_true rfl, rfl, Nat.le_of_ble_eq_true rfl, inxX3, (xT_t1 (List.mem_of_getElem? (i := 88) rfl) rfl), tyX3_ok, nmX3, rfl, by decide +kernel⟩
theorem fp_X5_86 : xFp RX5 86 16 2 .int := ⟨(3, 16), RX3, TX3, 16, tyX3, rfl, Nat.le_of_ble_eq_true rfl, rfl, Nat.le_of_ble_eq_true rfl, inxX3, (xT_t1 (List.mem_of_getElem? (i := 82) rfl) rfl), tyX3_ok, nmX3, rfl, by decide +kernel⟩
theorem fp_X5_89 : xFp RX5 89 16 3 .int := ⟨(3, 16), RX3, TX3, 16, tyX3, rfl, Nat.le_of_ble_eq_true rfl, rfl, Nat.le_of_ble_eq_true rfl, inxX3, (xT_t1 (List.mem_of_getElem? (i := 85) rfl) rfl), tyX3_ok, nmX3, rfl, by decide +kernel⟩
theorem fp_X5_95 : xFp RX5 95 16 7 .boolean := ⟨(3, 16), RX3, TX3, 16, tyX3, rfl, Nat.le_of_ble_eq_true rfl, rfl, Nat.le_of_ble_eq_true rfl, inxX3, (xT_t1 (List.mem_of_getElem? (i := 97) rfl) rfl), tyX3_ok, nmX3, rfl, by decide +kernel⟩
theorem fp_X5_103 : xFp RX5 103 16 8 .boolean := ⟨(3, 16), RX3, TX3, 16, tyX3, rfl, Nat.le_of_ble_eq_true rfl, rfl, Nat.le_of_ble_eq_true rfl, inxX3, (xT_t1 (List.mem_of_getElem? (i := 100) rfl) rfl), tyX3_ok, nmX3, rfl, by decide +kernel⟩
theorem fp_X5_106 : xFp RX5 106 13 6 .int := ⟨(2, 12), RX2, TX2, 12, tyX2, rfl, Nat.le_of_ble_eq_true rfl, rfl, Nat.le_of_ble_eq_true rfl, inxX2, (xT_t1 (List.mem_of_getElem? (i := 179) rfl) rfl), tyX2_ok, nmX2, rfl, by decide +kernel⟩
theorem fp_X5_109 : xFp RX5 109 13 5 .boolean := ⟨(2, 12), RX2, TX2, 12, tyX2, rfl, Nat.le_of_ble_eq_true rfl, rfl, Nat.le_of_ble_eq_true rfl, inxX2, (xT_t1 (List.mem_of_getElem? (i := 176) rfl) rfl), tyX2_ok, nmX2, rfl, by decide +kernel⟩
theorem fp_X5_112 : xFp RX5 112 16 5 .int := ⟨(3, 16), RX3, TX3, 16, tyX3, rfl, Nat.le_of_ble_eq_true rfl, rfl, Nat.le_of_ble_eq_true rfl, inxX3, (xT_t1 (List.mem_of_getElem? (i := 91) rfl) rfl), tyX3_ok, nmX3, rfl, by decide +kernel⟩
theorem fp_X5_115 : xFp RX5 115 0 3 .boolean := ⟨(0, 13), RX0, TX0, 13, tyX0, rfl, Nat.le_of_ble_eq_true rfl, rfl, Nat.le_of_ble_eq_true rfl, inxX0, (xT_t1 (List.mem_of_getElem? (i := 224) rfl) rfl), tyX0_ok, nmX0, rfl, by decide +kernel⟩
theorem fp_X5_262 : xFp RX5 262 23 1 .int := ⟨(4, 9), RX4, TX4, 9, tyX4, rfl, Nat.le_of_ble_eq_true rfl, rfl, Nat.le_of_ble_eq_true rfl, inxX4, (xT_t2 (List.mem_of_getElem? (i := 36) rfl) rfl), tyX4_ok, nmX4, rfl, by decide +kernel⟩
theorem fp_X6_125 : xFp RX6 125 30 7 .int := ⟨(6, 13), RX6, TX6, 13, tyX6, rfl, Nat.le_of_ble_eq_true rfl, rfl, Nat.le_of_ble_eq_true rfl, inxX6, (xT_t4 (List.mem_of_getElem? (i := 196) rfl) rfl), tyX6_ok, nmX6, rfl, by decide +kernel⟩
theorem fp_X6_199 : xFp RX6 199 30 5 .int := ⟨(6, 13), RX6, TX6, 13, tyX6, rfl, Nat.le_of_ble_eq_true rfl, rfl, Nat.le_of_ble_eq_true rfl, inxX6, (xT_t4 (List.mem_of_getElem? (i := 194) rfl) rfl), tyX6_ok, nmX6, rfl, by decide +kernel⟩
theorem fp_X6_202 : xFp RX6 202 30 9 .int := ⟨(6, 13), RX6, TX6, 13, tyX6, rfl, Nat.le_of_ble_eq_true rfl, rfl, Nat.le_of_ble_eq_true rfl, inxX6, (xT_t4 (List.mem_of_getElem? (i := 198) rfl) rfl), tyX6_ok, nmX6, rfl, by decide +kernel⟩
theorem fp_X6_208 : xFp RX6 208 30 10 .int := ⟨(6, 13), RX6, TX6, 13, tyX6, rfl, Nat.le_of_ble_eq_true rfl, rfl, Nat.le_of_ble_eq_true rfl, inxX6, (xT_t4 (List.mem_of_getElem? (i := 199) rfl) rfl), tyX6_ok, nmX6, rfl, by decide +kernel⟩
theorem fp_X6_230 : xFp RX6 230 30 12 .int := ⟨(6, 13), RX6, TX6, 13, tyX6, rfl, Nat.le_of_ble_eq_true rfl, rfl, Nat.le_of_ble_eq_true rfl, inxX6, (xT_t4 (List.mem_of_getElem? (i := 201) rfl) rfl), tyX6_ok, nmX6, rfl, by decide +kernel⟩
theorem fp_X6_239 : xFp RX6 239 30 11 .boolean := ⟨(6, 13), RX6, TX6, 13, tyX6, rfl, Nat.le_of_ble_eq_true rfl, rfl, Nat.le_of_ble_eq_true rfl, inxX6, (xT_t4 (List.mem_of_getElem? (i := 200) rfl) rfl), tyX6_ok, nmX6, rfl, by decide +kernel⟩
theorem cv_X0_32 : xCv RX0 32 yX1_startAnew mX1_startAnew 1 1 := ⟨(xT_t2 (List.mem_of_getElem? (i := 72) rfl) rfl), (xT_t2 (List.mem_of_getElem? (i := 73) rfl) rfl), (xT_t2 (List.mem_of_getElem? (i := 74) rfl) rfl), (xT_t1 (List.mem_of_getElem? (i := 3) rfl) rfl), (xT_t2 (List.mem_of_getElem? (i := 75) rfl) rfl), by decide +kernel, Nat.le_of_ble_eq_true rfl, (1, 9), TX1, 9, rfl, rfl⟩
theorem cv_X0_36 : xCv RX0 36 yX2_startAnew mX2_startAnew 13 0 := ⟨(xT_t2 (List.mem_of_getElem? (i := 76) rfl) rfl), (xT_t2 (List.mem_of_getElem? (i := 77) rfl) rfl), (xT_t2 (List.mem_of_getElem? (i := 78) rfl) rfl), (xT_t1 (List.mem_of_getElem? (i := 4) rfl) rfl), (xT_t2 (List.mem_of_getElem? (i := 79) rfl) rfl), by decide +kernel, Nat.le_of_ble_eq_true rfl, (2, 12), TX2, 12, rfl, rfl⟩
theorem cv_X0_61 : xCv RX0 61 yX1_copyFrom mX1_copyFrom 1 1 := ⟨(xT_t4 (List.mem_of_getElem? (i := 67) rfl) rfl), (xT_t4 (List.mem_of_getElem? (i := 68) rfl) rfl), (xT_t4 (List.mem_of_getElem? (i := 69) rfl) rfl), (xT_t1 (List.mem_of_getElem? (i := 3) rfl) rfl), (xT_t4 (List.mem_of_getElem? (i := 70) rfl) rfl), by decide +kernel, Nat.le_of_ble_eq_true rfl, (1, 9), TX1, 9, rfl, rfl⟩
theorem cv_X0_65 : xCv RX0 65 yX2_copyFrom mX2_copyFrom 13 1 := ⟨(xT_t4 (List.mem_of_getElem? (i := 72) rfl) rfl), (xT_t4 (List.mem_of_getElem? (i := 73) rfl) rfl), (xT_t4 (List.mem_of_getElem? (i := 74) rfl) rfl), (xT_t1 (List.mem_of_getElem? (i := 4) rfl) rfl), (xT_t4 (List.mem_of_getElem? (i := 75) rfl) rfl), by decide +kernel, Nat.le_of_ble_eq_true rfl, (2, 12), TX2, 12, rfl, rfl⟩
theorem cv_X0_90 : xCv RX0 90 yX0_poolSize mX0_poolSize 0 0 := ⟨(xT_t2 (List.mem_of_getElem? (i := 123) rfl) rfl), (xT_t2 (List.mem_of_getElem? (i := 124) rfl) rfl), (xT_t2 (List.mem_of_getElem? (i := 125) rfl) rfl), (xT_t1 (List.mem_of_getElem? (i := 2) rfl) rfl), (xT_t2 (List.mem_of_getElem? (i := 126) rfl) rfl), by decide +kernel, Nat.le_of_ble_eq_true rfl, (0, 13), TX0, 13, rfl, rfl⟩
theorem cv_X0_94 : xCv RX0 94 yX2_sharedInUse mX2_sharedInUse 13 0 := ⟨(xT_t2 (List.mem_of_getElem? (i := 127) rfl) rfl), (xT_t2 (List.mem_of_getElem? (i := 128) rfl) rfl), (xT_t2 (List.mem_of_getElem? (i := 129) rfl) rfl), (xT_t1 (List.mem_of_getElem? (i := 4) rfl) rfl), (xT_t2 (List.mem_of_getElem? (i := 130) rfl) rfl), by decide +kernel, Nat.le_of_ble_eq_true rfl, (2, 12), TX2, 12, rfl, rfl⟩
theorem cv_X0_97 : xCv RX0 97 yX0_portAt mX0_portAt 0 1 := ⟨(xT_t2 (List.mem_of_getElem? (i := 193) rfl) rfl), (xT_t2 (List.mem_of_getElem? (i := 116) rfl) rfl), (xT_t2 (List.mem_of_getElem? (i := 117) rfl) rfl), (xT_t1 (List.mem_of_getElem? (i := 2) rfl) rfl), (xT_t2 (List.mem_of_getElem? (i := 118) rfl) rfl), by decide +kernel, Nat.le_of_ble_eq_true rfl, (0, 13), TX0, 13, rfl, rfl⟩
theorem cv_X0_101 : xCv RX0 101 yX0_sharedLeft mX0_sharedLeft 0 0 := ⟨(xT_t2 (List.mem_of_getElem? (i := 194) rfl) rfl), (xT_t2 (List.mem_of_getElem? (i := 120) rfl) rfl), (xT_t2 (List.mem_of_getElem? (i := 121) rfl) rfl), (xT_t1 (List.mem_of_getElem? (i := 2) rfl) rfl), (xT_t2 (List.mem_of_getElem? (i := 122) rfl) rfl), by decide +kernel, Nat.le_of_ble_eq_true rfl, (0, 13), TX0, 13, rfl, rfl⟩
theorem cv_X0_104 : xCv RX0 104 yX2_guaranteedInUse mX2_guaranteedInUse 13 0 := ⟨(xT_t2 (List.mem_of_getElem? (i := 195) rfl) rfl), (xT_t2 (List.mem_of_getElem? (i := 140) rfl) rfl), (xT_t2 (List.mem_of_getElem? (i := 141) rfl) rfl), (xT_t1 (List.mem_of_getElem? (i := 4) rfl) rfl), (xT_t2 (List.mem_of_getElem? (i := 142) rfl) rfl), by decide +kernel, Nat.le_of_ble_eq_true rfl, (2, 12), TX2, 12, rfl, rfl⟩
theorem cv_X0_113 : xCv RX0 113 yX0_endGrant mX0_endGrant 0 2 := ⟨(xT_t2 (List.mem_of_getElem? (i := 199) rfl) rfl), (xT_t2 (List.mem_of_getElem? (i := 200) rfl) rfl), (xT_t2 (List.mem_of_getElem? (i := 201) rfl) rfl), (xT_t1 (List.mem_of_getElem? (i := 2) rfl) rfl), (xT_t2 (List.mem_of_getElem? (i := 202) rfl) rfl), by decide +kernel, Nat.le_of_ble_eq_true rfl, (0, 13), TX0, 13, rfl, rfl⟩
theorem cv_X0_117 : xCv RX0 117 yX0_rememberGrant mX0_rememberGrant 0 1 := ⟨(xT_t2 (List.mem_of_getElem? (i := 204) rfl) rfl), (xT_t2 (List.mem_of_getElem? (i := 206) rfl) rfl), (xT_s (List.mem_of_getElem? (i := 0) rfl) rfl), (xT_t1 (List.mem_of_getElem? (i := 2) rfl) rfl), (xT_t2 (List.mem_of_getElem? (i := 207) rfl) rfl), by decide +kernel, Nat.le_of_ble_eq_true rfl, (0, 13), TX0, 13, rfl, rfl⟩
theorem cv_X0_120 : xCv RX0 120 yX2_shareBeyondGuarantee mX2_shareBeyondGuarantee 13 0 := ⟨(xT_t2 (List.mem_of_getElem? (i := 203) rfl) rfl), (xT_t2 (List.mem_of_getElem? (i := 132) rfl) rfl), (xT_t2 (List.mem_of_getElem? (i := 133) rfl) rfl), (xT_t1 (List.mem_of_getElem? (i := 4) rfl) rfl), (xT_t2 (List.mem_of_getElem? (i := 134) rfl) rfl), by decide +kernel, Nat.le_of_ble_eq_true rfl, (2, 12), TX2, 12, rfl, rfl⟩
theorem cv_X0_123 : xCv RX0 123 yX2_guaranteeLeft mX2_guaranteeLeft 13 0 := ⟨(xT_t2 (List.mem_of_getElem? (i := 225) rfl) rfl), (xT_t2 (List.mem_of_getElem? (i := 136) rfl) rfl), (xT_t2 (List.mem_of_getElem? (i := 137) rfl) rfl), (xT_t1 (List.mem_of_getElem? (i := 4) rfl) rfl), (xT_t2 (List.mem_of_getElem? (i := 138) rfl) rfl), by decide +kernel, Nat.le_of_ble_eq_true rfl, (2, 12), TX2, 12, rfl, rfl⟩
theorem cv_X0_135 : xCv RX0 135 yX3_poolRefusal mX3_poolRefusal 16 2 := ⟨(xT_t2 (List.mem_of_getElem? (i := 227) rfl) rfl), (xT_t2 (List.mem_of_getElem? (i := 228) rfl) rfl), (xT_t2 (List.mem_of_getElem? (i := 229) rfl) rfl), (xT_t1 (List.mem_of_getElem? (i := 5) rfl) rfl), (xT_t2 (List.mem_of_getElem? (i := 230) rfl) rfl), by decide +kernel, Nat.le_of_ble_eq_true rfl, (3, 16), TX3, 16, rfl, rfl⟩
theorem cv_X0_144 : xCv RX0 144 yX0_victimsNeeded mX0_victimsNeeded 0 5 := ⟨(xT_t2 (List.mem_of_getElem? (i := 239) rfl) rfl), (xT_t3 (List.mem_of_getElem? (i := 1) rfl) rfl), (xT_s (List.mem_of_getElem? (i := 1) rfl) rfl), (xT_t1 (List.mem_of_getElem? (i := 2) rfl) rfl), (xT_t3 (List.mem_of_getElem? (i := 2) rfl) rfl), by decide +kernel, Nat.le_of_ble_eq_true rfl, (0, 13), TX0, 13, rfl, rfl⟩
theorem cv_X0_151 : xCv RX0 151 yX2_headroomInUse mX2_headroomInUse 13 0 := ⟨(xT_t2 (List.mem_of_getElem? (i := 238) rfl) rfl), (xT_t2 (List.mem_of_getElem? (i := 151) rfl) rfl), (xT_t2 (List.mem_of_getElem? (i := 152) rfl) rfl), (xT_t1 (List.mem_of_getElem? (i := 4) rfl) rfl), (xT_t2 (List.mem_of_getElem? (i := 153) rfl) rfl), by decide +kernel, Nat.le_of_ble_eq_true rfl, (2, 12), TX2, 12, rfl, rfl⟩
theorem cv_X0_169 : xCv RX0 169 yX1_sizeOf mX1_sizeOf 1 1 := ⟨(xT_t3 (List.mem_of_getElem? (i := 3) rfl) rfl), (xT_t3 (List.mem_of_getElem? (i := 4) rfl) rfl), (xT_t3 (List.mem_of_getElem? (i := 5) rfl) rfl), (xT_t1 (List.mem_of_getElem? (i := 3) rfl) rfl), (xT_t3 (List.mem_of_getElem? (i := 6) rfl) rfl), by decide +kernel, Nat.le_of_ble_eq_true rfl, (1, 9), TX1, 9, rfl, rfl⟩
theorem cv_X0_173 : xCv RX0 173 yX1_packetAhead mX1_packetAhead 1 1 := ⟨(xT_t3 (List.mem_of_getElem? (i := 11) rfl) rfl), (xT_t3 (List.mem_of_getElem? (i := 12) rfl) rfl), (xT_t3 (List.mem_of_getElem? (i := 13) rfl) rfl), (xT_t1 (List.mem_of_getElem? (i := 3) rfl) rfl), (xT_t3 (List.mem_of_getElem? (i := 14) rfl) rfl), by decide +kernel, Nat.le_of_ble_eq_true rfl, (1, 9), TX1, 9, rfl, rfl⟩
theorem cv_X0_176 : xCv RX0 176 yX0_judge mX0_judge 0 3 := ⟨(xT_t2 (List.mem_of_getElem? (i := 221) rfl) rfl), (xT_t2 (List.mem_of_getElem? (i := 222) rfl) rfl), (xT_t2 (List.mem_of_getElem? (i := 223) rfl) rfl), (xT_t1 (List.mem_of_getElem? (i := 2) rfl) rfl), (xT_t2 (List.mem_of_getElem? (i := 224) rfl) rfl), by decide +kernel, Nat.le_of_ble_eq_true rfl, (0, 13), TX0, 13, rfl, rfl⟩
theorem cv_X0_180 : xCv RX0 180 yX2_countLoss mX2_countLoss 13 2 := ⟨(xT_t3 (List.mem_of_getElem? (i := 18) rfl) rfl), (xT_t3 (List.mem_of_getElem? (i := 19) rfl) rfl), (xT_t3 (List.mem_of_getElem? (i := 20) rfl) rfl), (xT_t1 (List.mem_of_getElem? (i := 4) rfl) rfl), (xT_t3 (List.mem_of_getElem? (i := 21) rfl) rfl), by decide +kernel, Nat.le_of_ble_eq_true rfl, (2, 12), TX2, 12, rfl, rfl⟩
theorem cv_X0_184 : xCv RX0 184 yX0_removeVictims mX0_removeVictims 0 2 := ⟨(xT_t3 (List.mem_of_getElem? (i := 22) rfl) rfl), (xT_t3 (List.mem_of_getElem? (i := 24) rfl) rfl), (xT_s (List.mem_of_getElem? (i := 2) rfl) rfl), (xT_t1 (List.mem_of_getElem? (i := 2) rfl) rfl), (xT_t3 (List.mem_of_getElem? (i := 25) rfl) rfl), by decide +kernel, Nat.le_of_ble_eq_true rfl, (0, 13), TX0, 13, rfl, rfl⟩
theorem cv_X0_187 : xCv RX0 187 yX0_chargeCells mX0_chargeCells 0 3 := ⟨(xT_t3 (List.mem_of_getElem? (i := 49) rfl) rfl), (xT_t3 (List.mem_of_getElem? (i := 51) rfl) rfl), (xT_s (List.mem_of_getElem? (i := 4) rfl) rfl), (xT_t1 (List.mem_of_getElem? (i := 2) rfl) rfl), (xT_t3 (List.mem_of_getElem? (i := 52) rfl) rfl), by decide +kernel, Nat.le_of_ble_eq_true rfl, (0, 13), TX0, 13, rfl, rfl⟩
theorem cv_X0_190 : xCv RX0 190 yX1_place mX1_place 1 2 := ⟨(xT_t3 (List.mem_of_getElem? (i := 62) rfl) rfl), (xT_t3 (List.mem_of_getElem? (i := 63) rfl) rfl), (xT_t3 (List.mem_of_getElem? (i := 64) rfl) rfl), (xT_t1 (List.mem_of_getElem? (i := 3) rfl) rfl), (xT_t3 (List.mem_of_getElem? (i := 65) rfl) rfl), by decide +kernel, Nat.le_of_ble_eq_true rfl, (1, 9), TX1, 9, rfl, rfl⟩
theorem cv_X0_193 : xCv RX0 193 yX1_joinQueue mX1_joinQueue 1 2 := ⟨(xT_t3 (List.mem_of_getElem? (i := 86) rfl) rfl), (xT_t3 (List.mem_of_getElem? (i := 87) rfl) rfl), (xT_t3 (List.mem_of_getElem? (i := 88) rfl) rfl), (xT_t1 (List.mem_of_getElem? (i := 3) rfl) rfl), (xT_t3 (List.mem_of_getElem? (i := 89) rfl) rfl), by decide +kernel, Nat.le_of_ble_eq_true rfl, (1, 9), TX1, 9, rfl, rfl⟩
theorem cv_X0_197 : xCv RX0 197 yX0_takeOut mX0_takeOut 0 3 := ⟨(xT_t3 (List.mem_of_getElem? (i := 26) rfl) rfl), (xT_t3 (List.mem_of_getElem? (i := 28) rfl) rfl), (xT_s (List.mem_of_getElem? (i := 3) rfl) rfl), (xT_t1 (List.mem_of_getElem? (i := 2) rfl) rfl), (xT_t3 (List.mem_of_getElem? (i := 29) rfl) rfl), by decide +kernel, Nat.le_of_ble_eq_true rfl, (0, 13), TX0, 13, rfl, rfl⟩
theorem cv_X0_200 : xCv RX0 200 yX3_pause mX3_pause 16 0 := ⟨(xT_t3 (List.mem_of_getElem? (i := 53) rfl) rfl), (xT_t3 (List.mem_of_getElem? (i := 54) rfl) rfl), (xT_t3 (List.mem_of_getElem? (i := 55) rfl) rfl), (xT_t1 (List.mem_of_getElem? (i := 5) rfl) rfl), (xT_t3 (List.mem_of_getElem? (i := 56) rfl) rfl), by decide +kernel, Nat.le_of_ble_eq_true rfl, (3, 16), TX3, 16, rfl, rfl⟩
theorem cv_X0_203 : xCv RX0 203 yX3_addShared mX3_addShared 16 2 := ⟨(xT_t3 (List.mem_of_getElem? (i := 57) rfl) rfl), (xT_t3 (List.mem_of_getElem? (i := 58) rfl) rfl), (xT_t3 (List.mem_of_getElem? (i := 59) rfl) rfl), (xT_t1 (List.mem_of_getElem? (i := 5) rfl) rfl), (xT_t3 (List.mem_of_getElem? (i := 60) rfl) rfl), by decide +kernel, Nat.le_of_ble_eq_true rfl, (3, 16), TX3, 16, rfl, rfl⟩
theorem cv_X0_209 : xCv RX0 209 yX3_giveBack mX3_giveBack 16 1 := ⟨(xT_t3 (List.mem_of_getElem? (i := 30) rfl) rfl), (xT_t3 (List.mem_of_getElem? (i := 31) rfl) rfl), (xT_t3 (List.mem_of_getElem? (i := 32) rfl) rfl), (xT_t1 (List.mem_of_getElem? (i := 5) rfl) rfl), (xT_t3 (List.mem_of_getElem? (i := 33) rfl) rfl), by decide +kernel, Nat.le_of_ble_eq_true rfl, (3, 16), TX3, 16, rfl, rfl⟩
theorem cv_X0_212 : xCv RX0 212 yX1_leaveQueue mX1_leaveQueue 1 2 := ⟨(xT_t3 (List.mem_of_getElem? (i := 35) rfl) rfl), (xT_t3 (List.mem_of_getElem? (i := 36) rfl) rfl), (xT_t3 (List.mem_of_getElem? (i := 37) rfl) rfl), (xT_t1 (List.mem_of_getElem? (i := 3) rfl) rfl), (xT_t3 (List.mem_of_getElem? (i := 38) rfl) rfl), by decide +kernel, Nat.le_of_ble_eq_true rfl, (1, 9), TX1, 9, rfl, rfl⟩
theorem cv_X0_215 : xCv RX0 215 yX1_release mX1_release 1 1 := ⟨(xT_t3 (List.mem_of_getElem? (i := 39) rfl) rfl), (xT_t3 (List.mem_of_getElem? (i := 40) rfl) rfl), (xT_t3 (List.mem_of_getElem? (i := 41) rfl) rfl), (xT_t1 (List.mem_of_getElem? (i := 3) rfl) rfl), (xT_t3 (List.mem_of_getElem? (i := 42) rfl) rfl), by decide +kernel, Nat.le_of_ble_eq_true rfl, (1, 9), TX1, 9, rfl, rfl⟩
theorem cv_X0_221 : xCv RX0 221 yX2_isIdle mX2_isIdle 13 0 := ⟨(xT_t3 (List.mem_of_getElem? (i := 44) rfl) rfl), (xT_t3 (List.mem_of_getElem? (i := 45) rfl) rfl), (xT_t3 (List.mem_of_getElem? (i := 46) rfl) rfl), (xT_t1 (List.mem_of_getElem? (i := 4) rfl) rfl), (xT_t3 (List.mem_of_getElem? (i := 47) rfl) rfl), by decide +kernel, Nat.le_of_ble_eq_true rfl, (2, 12), TX2, 12, rfl, rfl⟩
theorem cv_X0_225 : xCv RX0 225 yX2_restartSending mX2_restartSending 13 0 := ⟨(xT_t3 (List.mem_of_getElem? (i := 48) rfl) rfl), (xT_t2 (List.mem_of_getElem? (i := 85) rfl) rfl), (xT_t2 (List.mem_of_getElem? (i := 86) rfl) rfl), (xT_t1 (List.mem_of_getElem? (i := 4) rfl) rfl), (xT_t2 (List.mem_of_getElem? (i := 87) rfl) rfl), by decide +kernel, Nat.le_of_ble_eq_true rfl, (2, 12), TX2, 12, rfl, rfl⟩
theorem cv_X0_231 : xCv RX0 231 yX0_send mX0_send 0 1 := ⟨(xT_t3 (List.mem_of_getElem? (i := 98) rfl) rfl), (xT_t3 (List.mem_of_getElem? (i := 99) rfl) rfl), (xT_t3 (List.mem_of_getElem? (i := 100) rfl) rfl), (xT_t1 (List.mem_of_getElem? (i := 2) rfl) rfl), (xT_t3 (List.mem_of_getElem? (i := 101) rfl) rfl), by decide +kernel, Nat.le_of_ble_eq_true rfl, (0, 13), TX0, 13, rfl, rfl⟩
theorem cv_X0_244 : xCv RX0 244 yX3_limitWith mX3_limitWith 16 1 := ⟨(xT_t3 (List.mem_of_getElem? (i := 123) rfl) rfl), (xT_t2 (List.mem_of_getElem? (i := 232) rfl) rfl), (xT_t2 (List.mem_of_getElem? (i := 233) rfl) rfl), (xT_t1 (List.mem_of_getElem? (i := 5) rfl) rfl), (xT_t2 (List.mem_of_getElem? (i := 234) rfl) rfl), by decide +kernel, Nat.le_of_ble_eq_true rfl, (3, 16), TX3, 16, rfl, rfl⟩
theorem cv_X0_259 : xCv RX0 259 yX0_sendInTurns mX0_sendInTurns 0 1 := ⟨(xT_t3 (List.mem_of_getElem? (i := 102) rfl) rfl), (xT_t3 (List.mem_of_getElem? (i := 104) rfl) rfl), (xT_s (List.mem_of_getElem? (i := 7) rfl) rfl), (xT_t1 (List.mem_of_getElem? (i := 2) rfl) rfl), (xT_t3 (List.mem_of_getElem? (i := 105) rfl) rfl), by decide +kernel, Nat.le_of_ble_eq_true rfl, (0, 13), TX0, 13, rfl, rfl⟩
theorem cv_X0_262 : xCv RX0 262 yX0_sendByPriority mX0_sendByPriority 0 1 := ⟨(xT_t3 (List.mem_of_getElem? (i := 115) rfl) rfl), (xT_t3 (List.mem_of_getElem? (i := 117) rfl) rfl), (xT_s (List.mem_of_getElem? (i := 8) rfl) rfl), (xT_t1 (List.mem_of_getElem? (i := 2) rfl) rfl), (xT_t3 (List.mem_of_getElem? (i := 118) rfl) rfl), by decide +kernel, Nat.le_of_ble_eq_true rfl, (0, 13), TX0, 13, rfl, rfl⟩
theorem cv_X0_268 : xCv RX0 268 yX2_highestBusyQueue mX2_highestBusyQueue 13 0 := ⟨(xT_t3 (List.mem_of_getElem? (i := 119) rfl) rfl), (xT_t3 (List.mem_of_getElem? (i := 120) rfl) rfl), (xT_t3 (List.mem_of_getElem? (i := 121) rfl) rfl), (xT_t1 (List.mem_of_getElem? (i := 4) rfl) rfl), (xT_t3 (List.mem_of_getElem? (i := 122) rfl) rfl), by decide +kernel, Nat.le_of_ble_eq_true rfl, (2, 12), TX2, 12, rfl, rfl⟩
theorem cv_X0_273 : xCv RX0 273 yX2_queueAtTurn mX2_queueAtTurn 13 0 := ⟨(xT_t3 (List.mem_of_getElem? (i := 107) rfl) rfl), (xT_t3 (List.mem_of_getElem? (i := 108) rfl) rfl), (xT_t3 (List.mem_of_getElem? (i := 109) rfl) rfl), (xT_t1 (List.mem_of_getElem? (i := 4) rfl) rfl), (xT_t3 (List.mem_of_getElem? (i := 110) rfl) rfl), by decide +kernel, Nat.le_of_ble_eq_true rfl, (2, 12), TX2, 12, rfl, rfl⟩
theorem cv_X0_276 : xCv RX0 276 yX2_passTurn mX2_passTurn 13 0 := ⟨(xT_t3 (List.mem_of_getElem? (i := 111) rfl) rfl), (xT_t3 (List.mem_of_getElem? (i := 112) rfl) rfl), (xT_t3 (List.mem_of_getElem? (i := 113) rfl) rfl), (xT_t1 (List.mem_of_getElem? (i := 4) rfl) rfl), (xT_t3 (List.mem_of_getElem? (i := 114) rfl) rfl), by decide +kernel, Nat.le_of_ble_eq_true rfl, (2, 12), TX2, 12, rfl, rfl⟩
theorem cv_X1_47 : xCv RX1 47 yX1_isCell mX1_isCell 1 1 := ⟨(xT_t3 (List.mem_of_getElem? (i := 7) rfl) rfl), (xT_t3 (List.mem_of_getElem? (i := 8) rfl) rfl), (xT_t3 (List.mem_of_getElem? (i := 9) rfl) rfl), (xT_t1 (List.mem_of_getElem? (i := 3) rfl) rfl), (xT_t3 (List.mem_of_getElem? (i := 10) rfl) rfl), by decide +kernel, Nat.le_of_ble_eq_true rfl, (1, 9), TX1, 9, rfl, rfl⟩
theorem cv_X1_51 : xCv RX1 51 yX1_partsOf mX1_partsOf 1 1 := ⟨(xT_t4 (List.mem_of_getElem? (i := 20) rfl) rfl), (xT_t4 (List.mem_of_getElem? (i := 9) rfl) rfl), (xT_t4 (List.mem_of_getElem? (i := 10) rfl) rfl), (xT_t1 (List.mem_of_getElem? (i := 3) rfl) rfl), (xT_t4 (List.mem_of_getElem? (i := 11) rfl) rfl), by decide +kernel, Nat.le_of_ble_eq_true rfl, (1, 9), TX1, 9, rfl, rfl⟩
theorem cv_X1_55 : xCv RX1 55 yX1_partBehind mX1_partBehind 1 1 := ⟨(xT_t4 (List.mem_of_getElem? (i := 21) rfl) rfl), (xT_t4 (List.mem_of_getElem? (i := 22) rfl) rfl), (xT_t4 (List.mem_of_getElem? (i := 23) rfl) rfl), (xT_t1 (List.mem_of_getElem? (i := 3) rfl) rfl), (xT_t4 (List.mem_of_getElem? (i := 24) rfl) rfl), by decide +kernel, Nat.le_of_ble_eq_true rfl, (1, 9), TX1, 9, rfl, rfl⟩
theorem cv_X1_64 : xCv RX1 64 yX1_startsRun mX1_startsRun 1 1 := ⟨(xT_t3 (List.mem_of_getElem? (i := 70) rfl) rfl), (xT_t3 (List.mem_of_getElem? (i := 71) rfl) rfl), (xT_t3 (List.mem_of_getElem? (i := 72) rfl) rfl), (xT_t1 (List.mem_of_getElem? (i := 3) rfl) rfl), (xT_t3 (List.mem_of_getElem? (i := 73) rfl) rfl), by decide +kernel, Nat.le_of_ble_eq_true rfl, (1, 9), TX1, 9, rfl, rfl⟩
theorem cv_X1_67 : xCv RX1 67 yX1_chooseRun mX1_chooseRun 1 1 := ⟨(xT_t3 (List.mem_of_getElem? (i := 66) rfl) rfl), (xT_t3 (List.mem_of_getElem? (i := 68) rfl) rfl), (xT_s (List.mem_of_getElem? (i := 5) rfl) rfl), (xT_t1 (List.mem_of_getElem? (i := 3) rfl) rfl), (xT_t3 (List.mem_of_getElem? (i := 69) rfl) rfl), by decide +kernel, Nat.le_of_ble_eq_true rfl, (1, 9), TX1, 9, rfl, rfl⟩
theorem cv_X1_70 : xCv RX1 70 yX1_freeLength mX1_freeLength 1 1 := ⟨(xT_t3 (List.mem_of_getElem? (i := 74) rfl) rfl), (xT_t3 (List.mem_of_getElem? (i := 75) rfl) rfl), (xT_t3 (List.mem_of_getElem? (i := 76) rfl) rfl), (xT_t1 (List.mem_of_getElem? (i := 3) rfl) rfl), (xT_t3 (List.mem_of_getElem? (i := 77) rfl) rfl), by decide +kernel, Nat.le_of_ble_eq_true rfl, (1, 9), TX1, 9, rfl, rfl⟩
theorem cv_X1_76 : xCv RX1 76 yX1_occupy mX1_occupy 1 2 := ⟨(xT_t3 (List.mem_of_getElem? (i := 82) rfl) rfl), (xT_t3 (List.mem_of_getElem? (i := 84) rfl) rfl), (xT_s (List.mem_of_getElem? (i := 6) rfl) rfl), (xT_t1 (List.mem_of_getElem? (i := 3) rfl) rfl), (xT_t3 (List.mem_of_getElem? (i := 85) rfl) rfl), by decide +kernel, Nat.le_of_ble_eq_true rfl, (1, 9), TX1, 9, rfl, rfl⟩
theorem cv_X2_24 : xCv RX2 24 yX3_startAnew mX3_startAnew 16 0 := ⟨(xT_t2 (List.mem_of_getElem? (i := 80) rfl) rfl), (xT_t2 (List.mem_of_getElem? (i := 81) rfl) rfl), (xT_t2 (List.mem_of_getElem? (i := 82) rfl) rfl), (xT_t1 (List.mem_of_getElem? (i := 5) rfl) rfl), (xT_t2 (List.mem_of_getElem? (i := 83) rfl) rfl), by decide +kernel, Nat.le_of_ble_eq_true rfl, (3, 16), TX3, 16, rfl, rfl⟩
theorem cv_X2_44 : xCv RX2 44 yX2_restartSending mX2_restartSending 13 0 := ⟨(xT_t2 (List.mem_of_getElem? (i := 84) rfl) rfl), (xT_t2 (List.mem_of_getElem? (i := 85) rfl) rfl), (xT_t2 (List.mem_of_getElem? (i := 86) rfl) rfl), (xT_t1 (List.mem_of_getElem? (i := 4) rfl) rfl), (xT_t2 (List.mem_of_getElem? (i := 87) rfl) rfl), by decide +kernel, Nat.le_of_ble_eq_true rfl, (2, 12), TX2, 12, rfl, rfl⟩
theorem cv_X2_53 : xCv RX2 53 yX3_copyFrom mX3_copyFrom 16 1 := ⟨(xT_t4 (List.mem_of_getElem? (i := 76) rfl) rfl), (xT_t4 (List.mem_of_getElem? (i := 77) rfl) rfl), (xT_t4 (List.mem_of_getElem? (i := 78) rfl) rfl), (xT_t1 (List.mem_of_getElem? (i := 5) rfl) rfl), (xT_t4 (List.mem_of_getElem? (i := 79) rfl) rfl), by decide +kernel, Nat.le_of_ble_eq_true rfl, (3, 16), TX3, 16, rfl, rfl⟩
theorem cv_X2_81 : xCv RX2 81 yX2_guaranteedInUse mX2_guaranteedInUse 13 0 := ⟨(xT_t2 (List.mem_of_getElem? (i := 139) rfl) rfl), (xT_t2 (List.mem_of_getElem? (i := 140) rfl) rfl), (xT_t2 (List.mem_of_getElem? (i := 141) rfl) rfl), (xT_t1 (List.mem_of_getElem? (i := 4) rfl) rfl), (xT_t2 (List.mem_of_getElem? (i := 142) rfl) rfl), by decide +kernel, Nat.le_of_ble_eq_true rfl, (2, 12), TX2, 12, rfl, rfl⟩
theorem cv_X2_88 : xCv RX2 88 yX2_guaranteeLeft mX2_guaranteeLeft 13 0 := ⟨(xT_t2 (List.mem_of_getElem? (i := 135) rfl) rfl), (xT_t2 (List.mem_of_getElem? (i := 136) rfl) rfl), (xT_t2 (List.mem_of_getElem? (i := 137) rfl) rfl), (xT_t1 (List.mem_of_getElem? (i := 4) rfl) rfl), (xT_t2 (List.mem_of_getElem? (i := 138) rfl) rfl), by decide +kernel, Nat.le_of_ble_eq_true rfl, (2, 12), TX2, 12, rfl, rfl⟩
theorem cv_X3_61 : xCv RX3 61 yX3_limitWith mX3_limitWith 16 1 := ⟨(xT_t2 (List.mem_of_getElem? (i := 231) rfl) rfl), (xT_t2 (List.mem_of_getElem? (i := 232) rfl) rfl), (xT_t2 (List.mem_of_getElem? (i := 233) rfl) rfl), (xT_t1 (List.mem_of_getElem? (i := 5) rfl) rfl), (xT_t2 (List.mem_of_getElem? (i := 234) rfl) rfl), by decide +kernel, Nat.le_of_ble_eq_true rfl, (3, 16), TX3, 16, rfl, rfl⟩
theorem cv_X4_25 : xCv RX4 25 yX4_rewind mX4_rewind 23 0 := ⟨(xT_t4 (List.mem_of_getElem? (i := 110) rfl) rfl), (xT_t4 (List.mem_of_getElem? (i := 111) rfl) rfl), (xT_t4 (List.mem_of_getElem? (i := 112) rfl) rfl), (xT_t1 (List.mem_of_getElem? (i := 6) rfl) rfl), (xT_t4 (List.mem_of_getElem? (i := 113) rfl) rfl), by decide +kernel, Nat.le_of_ble_eq_true rfl, (4, 9), TX4, 9, rfl, rfl⟩
theorem cv_X4_28 : xCv RX4 28 yX4_readOrder mX4_readOrder 23 1 := ⟨(xT_t4 (List.mem_of_getElem? (i := 114) rfl) rfl), (xT_t4 (List.mem_of_getElem? (i := 115) rfl) rfl), (xT_t4 (List.mem_of_getElem? (i := 116) rfl) rfl), (xT_t1 (List.mem_of_getElem? (i := 6) rfl) rfl), (xT_t4 (List.mem_of_getElem? (i := 117) rfl) rfl), by decide +kernel, Nat.le_of_ble_eq_true rfl, (4, 9), TX4, 9, rfl, rfl⟩
theorem cv_X4_32 : xCv RX4 32 yX4_letterHere mX4_letterHere 23 0 := ⟨(xT_t4 (List.mem_of_getElem? (i := 118) rfl) rfl), (xT_t4 (List.mem_of_getElem? (i := 120) rfl) rfl), (xT_s (List.mem_of_getElem? (i := 10) rfl) rfl), (xT_t1 (List.mem_of_getElem? (i := 6) rfl) rfl), (xT_t4 (List.mem_of_getElem? (i := 121) rfl) rfl), by decide +kernel, Nat.le_of_ble_eq_true rfl, (4, 9), TX4, 9, rfl, rfl⟩
theorem cv_X4_45 : xCv RX4 45 yX4_readDigit mX4_readDigit 23 1 := ⟨(xT_t4 (List.mem_of_getElem? (i := 122) rfl) rfl), (xT_t4 (List.mem_of_getElem? (i := 124) rfl) rfl), (xT_s (List.mem_of_getElem? (i := 11) rfl) rfl), (xT_t1 (List.mem_of_getElem? (i := 6) rfl) rfl), (xT_t4 (List.mem_of_getElem? (i := 125) rfl) rfl), by decide +kernel, Nat.le_of_ble_eq_true rfl, (4, 9), TX4, 9, rfl, rfl⟩
theorem cv_X4_52 : xCv RX4 52 yX4_readNumber mX4_readNumber 23 2 := ⟨(xT_t4 (List.mem_of_getElem? (i := 126) rfl) rfl), (xT_t4 (List.mem_of_getElem? (i := 128) rfl) rfl), (xT_s (List.mem_of_getElem? (i := 12) rfl) rfl), (xT_t1 (List.mem_of_getElem? (i := 6) rfl) rfl), (xT_t4 (List.mem_of_getElem? (i := 129) rfl) rfl), by decide +kernel, Nat.le_of_ble_eq_true rfl, (4, 9), TX4, 9, rfl, rfl⟩
theorem cv_X4_59 : xCv RX4 59 yX4_readCount mX4_readCount 23 0 := ⟨(xT_t4 (List.mem_of_getElem? (i := 131) rfl) rfl), (xT_t4 (List.mem_of_getElem? (i := 133) rfl) rfl), (xT_s (List.mem_of_getElem? (i := 13) rfl) rfl), (xT_t1 (List.mem_of_getElem? (i := 6) rfl) rfl), (xT_t4 (List.mem_of_getElem? (i := 134) rfl) rfl), by decide +kernel, Nat.le_of_ble_eq_true rfl, (4, 9), TX4, 9, rfl, rfl⟩
theorem cv_X4_62 : xCv RX4 62 yX4_expect mX4_expect 23 1 := ⟨(xT_t4 (List.mem_of_getElem? (i := 135) rfl) rfl), (xT_t4 (List.mem_of_getElem? (i := 137) rfl) rfl), (xT_s (List.mem_of_getElem? (i := 14) rfl) rfl), (xT_t1 (List.mem_of_getElem? (i := 6) rfl) rfl), (xT_t4 (List.mem_of_getElem? (i := 138) rfl) rfl), by decide +kernel, Nat.le_of_ble_eq_true rfl, (4, 9), TX4, 9, rfl, rfl⟩
theorem cv_X5_34 : xCv RX5 34 yX0_startAnew mX0_startAnew 0 2 := ⟨(xT_t2 (List.mem_of_getElem? (i := 68) rfl) rfl), (xT_t2 (List.mem_of_getElem? (i := 69) rfl) rfl), (xT_t2 (List.mem_of_getElem? (i := 70) rfl) rfl), (xT_t1 (List.mem_of_getElem? (i := 2) rfl) rfl), (xT_t2 (List.mem_of_getElem? (i := 71) rfl) rfl), by decide +kernel, Nat.le_of_ble_eq_true rfl, (0, 13), TX0, 13, rfl, rfl⟩
theorem cv_X5_52 : xCv RX5 52 yX0_portAt mX0_portAt 0 1 := ⟨(xT_t2 (List.mem_of_getElem? (i := 115) rfl) rfl), (xT_t2 (List.mem_of_getElem? (i := 116) rfl) rfl), (xT_t2 (List.mem_of_getElem? (i := 117) rfl) rfl), (xT_t1 (List.mem_of_getElem? (i := 2) rfl) rfl), (xT_t2 (List.mem_of_getElem? (i := 118) rfl) rfl), by decide +kernel, Nat.le_of_ble_eq_true rfl, (0, 13), TX0, 13, rfl, rfl⟩
theorem cv_X5_61 : xCv RX5 61 yX0_sharedLeft mX0_sharedLeft 0 0 := ⟨(xT_t2 (List.mem_of_getElem? (i := 119) rfl) rfl), (xT_t2 (List.mem_of_getElem? (i := 120) rfl) rfl), (xT_t2 (List.mem_of_getElem? (i := 121) rfl) rfl), (xT_t1 (List.mem_of_getElem? (i := 2) rfl) rfl), (xT_t2 (List.mem_of_getElem? (i := 122) rfl) rfl), by decide +kernel, Nat.le_of_ble_eq_true rfl, (0, 13), TX0, 13, rfl, rfl⟩
theorem cv_X5_65 : xCv RX5 65 yX2_shareBeyondGuarantee mX2_shareBeyondGuarantee 13 0 := ⟨(xT_t2 (List.mem_of_getElem? (i := 131) rfl) rfl), (xT_t2 (List.mem_of_getElem? (i := 132) rfl) rfl), (xT_t2 (List.mem_of_getElem? (i := 133) rfl) rfl), (xT_t1 (List.mem_of_getElem? (i := 4) rfl) rfl), (xT_t2 (List.mem_of_getElem? (i := 134) rfl) rfl), by decide +kernel, Nat.le_of_ble_eq_true rfl, (2, 12), TX2, 12, rfl, rfl⟩
theorem cv_X5_68 : xCv RX5 68 yX2_headroomInUse mX2_headroomInUse 13 0 := ⟨(xT_t2 (List.mem_of_getElem? (i := 150) rfl) rfl), (xT_t2 (List.mem_of_getElem? (i := 151) rfl) rfl), (xT_t2 (List.mem_of_getElem? (i := 152) rfl) rfl), (xT_t1 (List.mem_of_getElem? (i := 4) rfl) rfl), (xT_t2 (List.mem_of_getElem? (i := 153) rfl) rfl), by decide +kernel, Nat.le_of_ble_eq_true rfl, (2, 12), TX2, 12, rfl, rfl⟩
theorem cv_X5_74 : xCv RX5 74 yX0_queueAt mX0_queueAt 0 2 := ⟨(xT_t2 (List.mem_of_getElem? (i := 158) rfl) rfl), (xT_t2 (List.mem_of_getElem? (i := 159) rfl) rfl), (xT_t2 (List.mem_of_getElem? (i := 160) rfl) rfl), (xT_t1 (List.mem_of_getElem? (i := 2) rfl) rfl), (xT_t2 (List.mem_of_getElem? (i := 161) rfl) rfl), by decide +kernel, Nat.le_of_ble_eq_true rfl, (0, 13), TX0, 13, rfl, rfl⟩
theorem cv_X5_118 : xCv RX5 118 yX0_giveGrant mX0_giveGrant 0 3 := ⟨(xT_t2 (List.mem_of_getElem? (i := 189) rfl) rfl), (xT_t2 (List.mem_of_getElem? (i := 190) rfl) rfl), (xT_t2 (List.mem_of_getElem? (i := 191) rfl) rfl), (xT_t1 (List.mem_of_getElem? (i := 2) rfl) rfl), (xT_t2 (List.mem_of_getElem? (i := 192) rfl) rfl), by decide +kernel, Nat.le_of_ble_eq_true rfl, (0, 13), TX0, 13, rfl, rfl⟩
theorem cv_X5_125 : xCv RX5 125 yX0_endGrant mX0_endGrant 0 2 := ⟨(xT_t2 (List.mem_of_getElem? (i := 212) rfl) rfl), (xT_t2 (List.mem_of_getElem? (i := 200) rfl) rfl), (xT_t2 (List.mem_of_getElem? (i := 201) rfl) rfl), (xT_t1 (List.mem_of_getElem? (i := 2) rfl) rfl), (xT_t2 (List.mem_of_getElem? (i := 202) rfl) rfl), by decide +kernel, Nat.le_of_ble_eq_true rfl, (0, 13), TX0, 13, rfl, rfl⟩
theorem cv_X5_129 : xCv RX5 129 yX0_receive mX0_receive 0 3 := ⟨(xT_t2 (List.mem_of_getElem? (i := 217) rfl) rfl), (xT_t2 (List.mem_of_getElem? (i := 218) rfl) rfl), (xT_t2 (List.mem_of_getElem? (i := 219) rfl) rfl), (xT_t1 (List.mem_of_getElem? (i := 2) rfl) rfl), (xT_t2 (List.mem_of_getElem? (i := 220) rfl) rfl), by decide +kernel, Nat.le_of_ble_eq_true rfl, (0, 13), TX0, 13, rfl, rfl⟩
theorem cv_X5_133 : xCv RX5 133 yX0_passTick mX0_passTick 0 0 := ⟨(xT_t3 (List.mem_of_getElem? (i := 94) rfl) rfl), (xT_t3 (List.mem_of_getElem? (i := 95) rfl) rfl), (xT_t3 (List.mem_of_getElem? (i := 96) rfl) rfl), (xT_t1 (List.mem_of_getElem? (i := 2) rfl) rfl), (xT_t3 (List.mem_of_getElem? (i := 97) rfl) rfl), by decide +kernel, Nat.le_of_ble_eq_true rfl, (0, 13), TX0, 13, rfl, rfl⟩
theorem cv_X5_136 : xCv RX5 136 yX0_discardAll mX0_discardAll 0 1 := ⟨(xT_t3 (List.mem_of_getElem? (i := 128) rfl) rfl), (xT_t3 (List.mem_of_getElem? (i := 129) rfl) rfl), (xT_t3 (List.mem_of_getElem? (i := 130) rfl) rfl), (xT_t1 (List.mem_of_getElem? (i := 2) rfl) rfl), (xT_t3 (List.mem_of_getElem? (i := 131) rfl) rfl), by decide +kernel, Nat.le_of_ble_eq_true rfl, (0, 13), TX0, 13, rfl, rfl⟩
theorem cv_X5_157 : xCv RX5 157 yX5_lossOfArrivals mX5_lossOfArrivals 20 4 := ⟨(xT_t3 (List.mem_of_getElem? (i := 141) rfl) rfl), (xT_t3 (List.mem_of_getElem? (i := 143) rfl) rfl), (xT_s (List.mem_of_getElem? (i := 9) rfl) rfl), (xT_t1 (List.mem_of_getElem? (i := 1) rfl) rfl), (xT_t3 (List.mem_of_getElem? (i := 144) rfl) rfl), by decide +kernel, Nat.le_of_ble_eq_true rfl, (5, 5), TX5, 5, rfl, rfl⟩
theorem cv_X5_161 : xCv RX5 161 yX0_poolSize mX0_poolSize 0 0 := ⟨(xT_t3 (List.mem_of_getElem? (i := 153) rfl) rfl), (xT_t2 (List.mem_of_getElem? (i := 124) rfl) rfl), (xT_t2 (List.mem_of_getElem? (i := 125) rfl) rfl), (xT_t1 (List.mem_of_getElem? (i := 2) rfl) rfl), (xT_t2 (List.mem_of_getElem? (i := 126) rfl) rfl), by decide +kernel, Nat.le_of_ble_eq_true rfl, (0, 13), TX0, 13, rfl, rfl⟩
theorem cv_X5_164 : xCv RX5 164 yX2_guaranteeLeft mX2_guaranteeLeft 13 0 := ⟨(xT_t3 (List.mem_of_getElem? (i := 158) rfl) rfl), (xT_t2 (List.mem_of_getElem? (i := 136) rfl) rfl), (xT_t2 (List.mem_of_getElem? (i := 137) rfl) rfl), (xT_t1 (List.mem_of_getElem? (i := 4) rfl) rfl), (xT_t2 (List.mem_of_getElem? (i := 138) rfl) rfl), by decide +kernel, Nat.le_of_ble_eq_true rfl, (2, 12), TX2, 12, rfl, rfl⟩
theorem cv_X5_167 : xCv RX5 167 yX3_limitWith mX3_limitWith 16 1 := ⟨(xT_t3 (List.mem_of_getElem? (i := 167) rfl) rfl), (xT_t2 (List.mem_of_getElem? (i := 232) rfl) rfl), (xT_t2 (List.mem_of_getElem? (i := 233) rfl) rfl), (xT_t1 (List.mem_of_getElem? (i := 5) rfl) rfl), (xT_t2 (List.mem_of_getElem? (i := 234) rfl) rfl), by decide +kernel, Nat.le_of_ble_eq_true rfl, (3, 16), TX3, 16, rfl, rfl⟩
theorem cv_X5_214 : xCv RX5 214 yX1_packetBehind mX1_packetBehind 1 1 := ⟨(xT_t3 (List.mem_of_getElem? (i := 232) rfl) rfl), (xT_t3 (List.mem_of_getElem? (i := 233) rfl) rfl), (xT_t3 (List.mem_of_getElem? (i := 234) rfl) rfl), (xT_t1 (List.mem_of_getElem? (i := 3) rfl) rfl), (xT_t3 (List.mem_of_getElem? (i := 235) rfl) rfl), by decide +kernel, Nat.le_of_ble_eq_true rfl, (1, 9), TX1, 9, rfl, rfl⟩
theorem cv_X5_217 : xCv RX5 217 yX1_numberOf mX1_numberOf 1 1 := ⟨(xT_t3 (List.mem_of_getElem? (i := 236) rfl) rfl), (xT_t3 (List.mem_of_getElem? (i := 237) rfl) rfl), (xT_t3 (List.mem_of_getElem? (i := 238) rfl) rfl), (xT_t1 (List.mem_of_getElem? (i := 3) rfl) rfl), (xT_t3 (List.mem_of_getElem? (i := 239) rfl) rfl), by decide +kernel, Nat.le_of_ble_eq_true rfl, (1, 9), TX1, 9, rfl, rfl⟩
theorem cv_X5_220 : xCv RX5 220 yX1_find mX1_find 1 1 := ⟨(xT_t4 (List.mem_of_getElem? (i := 4) rfl) rfl), (xT_t4 (List.mem_of_getElem? (i := 5) rfl) rfl), (xT_t4 (List.mem_of_getElem? (i := 6) rfl) rfl), (xT_t1 (List.mem_of_getElem? (i := 3) rfl) rfl), (xT_t4 (List.mem_of_getElem? (i := 7) rfl) rfl), by decide +kernel, Nat.le_of_ble_eq_true rfl, (1, 9), TX1, 9, rfl, rfl⟩
theorem cv_X5_223 : xCv RX5 223 yX1_partsOf mX1_partsOf 1 1 := ⟨(xT_t4 (List.mem_of_getElem? (i := 8) rfl) rfl), (xT_t4 (List.mem_of_getElem? (i := 9) rfl) rfl), (xT_t4 (List.mem_of_getElem? (i := 10) rfl) rfl), (xT_t1 (List.mem_of_getElem? (i := 3) rfl) rfl), (xT_t4 (List.mem_of_getElem? (i := 11) rfl) rfl), by decide +kernel, Nat.le_of_ble_eq_true rfl, (1, 9), TX1, 9, rfl, rfl⟩
theorem cv_X5_226 : xCv RX5 226 yX1_partStart mX1_partStart 1 2 := ⟨(xT_t4 (List.mem_of_getElem? (i := 16) rfl) rfl), (xT_t4 (List.mem_of_getElem? (i := 17) rfl) rfl), (xT_t4 (List.mem_of_getElem? (i := 18) rfl) rfl), (xT_t1 (List.mem_of_getElem? (i := 3) rfl) rfl), (xT_t4 (List.mem_of_getElem? (i := 19) rfl) rfl), by decide +kernel, Nat.le_of_ble_eq_true rfl, (1, 9), TX1, 9, rfl, rfl⟩
theorem cv_X5_232 : xCv RX5 232 yX1_countRuns mX1_countRuns 1 0 := ⟨(xT_t4 (List.mem_of_getElem? (i := 33) rfl) rfl), (xT_t4 (List.mem_of_getElem? (i := 34) rfl) rfl), (xT_t4 (List.mem_of_getElem? (i := 35) rfl) rfl), (xT_t1 (List.mem_of_getElem? (i := 3) rfl) rfl), (xT_t4 (List.mem_of_getElem? (i := 36) rfl) rfl), by decide +kernel, Nat.le_of_ble_eq_true rfl, (1, 9), TX1, 9, rfl, rfl⟩
theorem cv_X5_235 : xCv RX5 235 yX1_findRun mX1_findRun 1 1 := ⟨(xT_t4 (List.mem_of_getElem? (i := 41) rfl) rfl), (xT_t4 (List.mem_of_getElem? (i := 42) rfl) rfl), (xT_t4 (List.mem_of_getElem? (i := 43) rfl) rfl), (xT_t1 (List.mem_of_getElem? (i := 3) rfl) rfl), (xT_t4 (List.mem_of_getElem? (i := 44) rfl) rfl), by decide +kernel, Nat.le_of_ble_eq_true rfl, (1, 9), TX1, 9, rfl, rfl⟩
theorem cv_X5_238 : xCv RX5 238 yX1_freeLength mX1_freeLength 1 1 := ⟨(xT_t4 (List.mem_of_getElem? (i := 49) rfl) rfl), (xT_t3 (List.mem_of_getElem? (i := 75) rfl) rfl), (xT_t3 (List.mem_of_getElem? (i := 76) rfl) rfl), (xT_t1 (List.mem_of_getElem? (i := 3) rfl) rfl), (xT_t3 (List.mem_of_getElem? (i := 77) rfl) rfl), by decide +kernel, Nat.le_of_ble_eq_true rfl, (1, 9), TX1, 9, rfl, rfl⟩
theorem cv_X5_241 : xCv RX5 241 yX0_judge mX0_judge 0 3 := ⟨(xT_t4 (List.mem_of_getElem? (i := 54) rfl) rfl), (xT_t2 (List.mem_of_getElem? (i := 222) rfl) rfl), (xT_t2 (List.mem_of_getElem? (i := 223) rfl) rfl), (xT_t1 (List.mem_of_getElem? (i := 2) rfl) rfl), (xT_t2 (List.mem_of_getElem? (i := 224) rfl) rfl), by decide +kernel, Nat.le_of_ble_eq_true rfl, (0, 13), TX0, 13, rfl, rfl⟩
theorem cv_X5_248 : xCv RX5 248 yX0_copyFrom mX0_copyFrom 0 1 := ⟨(xT_t4 (List.mem_of_getElem? (i := 63) rfl) rfl), (xT_t4 (List.mem_of_getElem? (i := 64) rfl) rfl), (xT_t4 (List.mem_of_getElem? (i := 65) rfl) rfl), (xT_t1 (List.mem_of_getElem? (i := 2) rfl) rfl), (xT_t4 (List.mem_of_getElem? (i := 66) rfl) rfl), by decide +kernel, Nat.le_of_ble_eq_true rfl, (0, 13), TX0, 13, rfl, rfl⟩
theorem cv_X5_252 : xCv RX5 252 yX2_isIdle mX2_isIdle 13 0 := ⟨(xT_t4 (List.mem_of_getElem? (i := 85) rfl) rfl), (xT_t3 (List.mem_of_getElem? (i := 45) rfl) rfl), (xT_t3 (List.mem_of_getElem? (i := 46) rfl) rfl), (xT_t1 (List.mem_of_getElem? (i := 4) rfl) rfl), (xT_t3 (List.mem_of_getElem? (i := 47) rfl) rfl), by decide +kernel, Nat.le_of_ble_eq_true rfl, (2, 12), TX2, 12, rfl, rfl⟩
theorem cv_X5_256 : xCv RX5 256 yX0_send mX0_send 0 1 := ⟨(xT_t4 (List.mem_of_getElem? (i := 86) rfl) rfl), (xT_t3 (List.mem_of_getElem? (i := 99) rfl) rfl), (xT_t3 (List.mem_of_getElem? (i := 100) rfl) rfl), (xT_t1 (List.mem_of_getElem? (i := 2) rfl) rfl), (xT_t3 (List.mem_of_getElem? (i := 101) rfl) rfl), by decide +kernel, Nat.le_of_ble_eq_true rfl, (0, 13), TX0, 13, rfl, rfl⟩
theorem cv_X5_266 : xCv RX5 266 yX4_findFault mX4_findFault 23 1 := ⟨(xT_t4 (List.mem_of_getElem? (i := 106) rfl) rfl), (xT_t4 (List.mem_of_getElem? (i := 107) rfl) rfl), (xT_t4 (List.mem_of_getElem? (i := 108) rfl) rfl), (xT_t1 (List.mem_of_getElem? (i := 6) rfl) rfl), (xT_t4 (List.mem_of_getElem? (i := 109) rfl) rfl), by decide +kernel, Nat.le_of_ble_eq_true rfl, (4, 9), TX4, 9, rfl, rfl⟩
theorem cv_X5_269 : xCv RX5 269 yX4_rewind mX4_rewind 23 0 := ⟨(xT_t4 (List.mem_of_getElem? (i := 143) rfl) rfl), (xT_t4 (List.mem_of_getElem? (i := 111) rfl) rfl), (xT_t4 (List.mem_of_getElem? (i := 112) rfl) rfl), (xT_t1 (List.mem_of_getElem? (i := 6) rfl) rfl), (xT_t4 (List.mem_of_getElem? (i := 113) rfl) rfl), by decide +kernel, Nat.le_of_ble_eq_true rfl, (4, 9), TX4, 9, rfl, rfl⟩
theorem cv_X5_272 : xCv RX5 272 yX4_hasMore mX4_hasMore 23 0 := ⟨(xT_t4 (List.mem_of_getElem? (i := 144) rfl) rfl), (xT_t4 (List.mem_of_getElem? (i := 145) rfl) rfl), (xT_t4 (List.mem_of_getElem? (i := 146) rfl) rfl), (xT_t1 (List.mem_of_getElem? (i := 6) rfl) rfl), (xT_t4 (List.mem_of_getElem? (i := 147) rfl) rfl), by decide +kernel, Nat.le_of_ble_eq_true rfl, (4, 9), TX4, 9, rfl, rfl⟩
theorem cv_X5_275 : xCv RX5 275 yX4_readOrder mX4_readOrder 23 1 := ⟨(xT_t4 (List.mem_of_getElem? (i := 148) rfl) rfl), (xT_t4 (List.mem_of_getElem? (i := 115) rfl) rfl), (xT_t4 (List.mem_of_getElem? (i := 116) rfl) rfl), (xT_t1 (List.mem_of_getElem? (i := 6) rfl) rfl), (xT_t4 (List.mem_of_getElem? (i := 117) rfl) rfl), by decide +kernel, Nat.le_of_ble_eq_true rfl, (4, 9), TX4, 9, rfl, rfl⟩
theorem cv_X5_302 : xCv RX5 302 yX5_mixPort mX5_mixPort 20 2 := ⟨(xT_t4 (List.mem_of_getElem? (i := 163) rfl) rfl), (xT_t4 (List.mem_of_getElem? (i := 165) rfl) rfl), (xT_s (List.mem_of_getElem? (i := 15) rfl) rfl), (xT_t1 (List.mem_of_getElem? (i := 1) rfl) rfl), (xT_t4 (List.mem_of_getElem? (i := 166) rfl) rfl), by decide +kernel, Nat.le_of_ble_eq_true rfl, (5, 5), TX5, 5, rfl, rfl⟩
theorem cv_X5_306 : xCv RX5 306 yX1_startsRun mX1_startsRun 1 1 := ⟨(xT_t4 (List.mem_of_getElem? (i := 172) rfl) rfl), (xT_t3 (List.mem_of_getElem? (i := 71) rfl) rfl), (xT_t3 (List.mem_of_getElem? (i := 72) rfl) rfl), (xT_t1 (List.mem_of_getElem? (i := 3) rfl) rfl), (xT_t3 (List.mem_of_getElem? (i := 73) rfl) rfl), by decide +kernel, Nat.le_of_ble_eq_true rfl, (1, 9), TX1, 9, rfl, rfl⟩
theorem cv_X5_314 : xCv RX5 314 yX5_mixPackets mX5_mixPackets 20 2 := ⟨(xT_t4 (List.mem_of_getElem? (i := 167) rfl) rfl), (xT_t4 (List.mem_of_getElem? (i := 169) rfl) rfl), (xT_s (List.mem_of_getElem? (i := 16) rfl) rfl), (xT_t1 (List.mem_of_getElem? (i := 1) rfl) rfl), (xT_t4 (List.mem_of_getElem? (i := 170) rfl) rfl), by decide +kernel, Nat.le_of_ble_eq_true rfl, (5, 5), TX5, 5, rfl, rfl⟩
theorem cv_X5_318 : xCv RX5 318 yX1_partBehind mX1_partBehind 1 1 := ⟨(xT_t4 (List.mem_of_getElem? (i := 171) rfl) rfl), (xT_t4 (List.mem_of_getElem? (i := 22) rfl) rfl), (xT_t4 (List.mem_of_getElem? (i := 23) rfl) rfl), (xT_t1 (List.mem_of_getElem? (i := 3) rfl) rfl), (xT_t4 (List.mem_of_getElem? (i := 24) rfl) rfl), by decide +kernel, Nat.le_of_ble_eq_true rfl, (1, 9), TX1, 9, rfl, rfl⟩
theorem cv_X6_32 : xCv RX6 32 yX6_starts mX6_starts 30 2 := ⟨(xT_t4 (List.mem_of_getElem? (i := 179) rfl) rfl), (xT_t4 (List.mem_of_getElem? (i := 181) rfl) rfl), (xT_s (List.mem_of_getElem? (i := 17) rfl) rfl), (xT_t1 (List.mem_of_getElem? (i := 7) rfl) rfl), (xT_t4 (List.mem_of_getElem? (i := 182) rfl) rfl), by decide +kernel, Nat.le_of_ble_eq_true rfl, (6, 13), TX6, 13, rfl, rfl⟩
theorem cv_X6_40 : xCv RX6 40 yX6_isPort mX6_isPort 30 1 := ⟨(xT_t5 (List.mem_of_getElem? (i := 0) rfl) rfl), (xT_t5 (List.mem_of_getElem? (i := 2) rfl) rfl), (xT_s (List.mem_of_getElem? (i := 18) rfl) rfl), (xT_t1 (List.mem_of_getElem? (i := 7) rfl) rfl), (xT_t5 (List.mem_of_getElem? (i := 3) rfl) rfl), by decide +kernel, Nat.le_of_ble_eq_true rfl, (6, 13), TX6, 13, rfl, rfl⟩
theorem cv_X6_51 : xCv RX6 51 yX6_guarantee mX6_guarantee 30 1 := ⟨(xT_t5 (List.mem_of_getElem? (i := 12) rfl) rfl), (xT_t5 (List.mem_of_getElem? (i := 14) rfl) rfl), (xT_s (List.mem_of_getElem? (i := 21) rfl) rfl), (xT_t1 (List.mem_of_getElem? (i := 7) rfl) rfl), (xT_t5 (List.mem_of_getElem? (i := 15) rfl) rfl), by decide +kernel, Nat.le_of_ble_eq_true rfl, (6, 13), TX6, 13, rfl, rfl⟩
theorem cv_X6_55 : xCv RX6 55 yX6_pool mX6_pool 30 0 := ⟨(xT_t5 (List.mem_of_getElem? (i := 8) rfl) rfl), (xT_t5 (List.mem_of_getElem? (i := 10) rfl) rfl), (xT_s (List.mem_of_getElem? (i := 20) rfl) rfl), (xT_t1 (List.mem_of_getElem? (i := 7) rfl) rfl), (xT_t5 (List.mem_of_getElem? (i := 11) rfl) rfl), by decide +kernel, Nat.le_of_ble_eq_true rfl, (6, 13), TX6, 13, rfl, rfl⟩
theorem cv_X6_59 : xCv RX6 59 yX6_sum mX6_sum 30 2 := ⟨(xT_t5 (List.mem_of_getElem? (i := 24) rfl) rfl), (xT_t5 (List.mem_of_getElem? (i := 26) rfl) rfl), (xT_s (List.mem_of_getElem? (i := 24) rfl) rfl), (xT_t1 (List.mem_of_getElem? (i := 7) rfl) rfl), (xT_t5 (List.mem_of_getElem? (i := 27) rfl) rfl), by decide +kernel, Nat.le_of_ble_eq_true rfl, (6, 13), TX6, 13, rfl, rfl⟩
theorem cv_X6_62 : xCv RX6 62 yX6_free mX6_free 30 0 := ⟨(xT_t5 (List.mem_of_getElem? (i := 4) rfl) rfl), (xT_t5 (List.mem_of_getElem? (i := 6) rfl) rfl), (xT_s (List.mem_of_getElem? (i := 19) rfl) rfl), (xT_t1 (List.mem_of_getElem? (i := 7) rfl) rfl), (xT_t5 (List.mem_of_getElem? (i := 7) rfl) rfl), by decide +kernel, Nat.le_of_ble_eq_true rfl, (6, 13), TX6, 13, rfl, rfl⟩
theorem cv_X6_65 : xCv RX6 65 yX6_freeOf mX6_freeOf 30 1 := ⟨(xT_t5 (List.mem_of_getElem? (i := 20) rfl) rfl), (xT_t5 (List.mem_of_getElem? (i := 22) rfl) rfl), (xT_s (List.mem_of_getElem? (i := 23) rfl) rfl), (xT_t1 (List.mem_of_getElem? (i := 7) rfl) rfl), (xT_t5 (List.mem_of_getElem? (i := 23) rfl) rfl), by decide +kernel, Nat.le_of_ble_eq_true rfl, (6, 13), TX6, 13, rfl, rfl⟩
theorem cv_X6_71 : xCv RX6 71 yX6_converts mX6_converts 30 1 := ⟨(xT_t5 (List.mem_of_getElem? (i := 16) rfl) rfl), (xT_t5 (List.mem_of_getElem? (i := 18) rfl) rfl), (xT_s (List.mem_of_getElem? (i := 22) rfl) rfl), (xT_t1 (List.mem_of_getElem? (i := 7) rfl) rfl), (xT_t5 (List.mem_of_getElem? (i := 19) rfl) rfl), by decide +kernel, Nat.le_of_ble_eq_true rfl, (6, 13), TX6, 13, rfl, rfl⟩
theorem cv_X6_75 : xCv RX6 75 yX6_isQueue mX6_isQueue 30 2 := ⟨(xT_t5 (List.mem_of_getElem? (i := 43) rfl) rfl), (xT_t5 (List.mem_of_getElem? (i := 45) rfl) rfl), (xT_s (List.mem_of_getElem? (i := 26) rfl) rfl), (xT_t1 (List.mem_of_getElem? (i := 7) rfl) rfl), (xT_t5 (List.mem_of_getElem? (i := 46) rfl) rfl), by decide +kernel, Nat.le_of_ble_eq_true rfl, (6, 13), TX6, 13, rfl, rfl⟩
theorem cv_X6_79 : xCv RX6 79 yX6_set mX6_set 30 6 := ⟨(xT_t5 (List.mem_of_getElem? (i := 39) rfl) rfl), (xT_t5 (List.mem_of_getElem? (i := 41) rfl) rfl), (xT_s (List.mem_of_getElem? (i := 25) rfl) rfl), (xT_t1 (List.mem_of_getElem? (i := 7) rfl) rfl), (xT_t5 (List.mem_of_getElem? (i := 42) rfl) rfl), by decide +kernel, Nat.le_of_ble_eq_true rfl, (6, 13), TX6, 13, rfl, rfl⟩
theorem cv_X6_83 : xCv RX6 83 yX6_keeps mX6_keeps 30 0 := ⟨(xT_t5 (List.mem_of_getElem? (i := 71) rfl) rfl), (xT_t5 (List.mem_of_getElem? (i := 73) rfl) rfl), (xT_s (List.mem_of_getElem? (i := 27) rfl) rfl), (xT_t1 (List.mem_of_getElem? (i := 7) rfl) rfl), (xT_t5 (List.mem_of_getElem? (i := 74) rfl) rfl), by decide +kernel, Nat.le_of_ble_eq_true rfl, (6, 13), TX6, 13, rfl, rfl⟩
theorem cv_X6_86 : xCv RX6 86 yX6_drops mX6_drops 30 1 := ⟨(xT_t5 (List.mem_of_getElem? (i := 75) rfl) rfl), (xT_t5 (List.mem_of_getElem? (i := 77) rfl) rfl), (xT_s (List.mem_of_getElem? (i := 28) rfl) rfl), (xT_t1 (List.mem_of_getElem? (i := 7) rfl) rfl), (xT_t5 (List.mem_of_getElem? (i := 78) rfl) rfl), by decide +kernel, Nat.le_of_ble_eq_true rfl, (6, 13), TX6, 13, rfl, rfl⟩
theorem cv_X6_89 : xCv RX6 89 yX6_brings mX6_brings 30 0 := ⟨(xT_t5 (List.mem_of_getElem? (i := 79) rfl) rfl), (xT_t5 (List.mem_of_getElem? (i := 81) rfl) rfl), (xT_s (List.mem_of_getElem? (i := 29) rfl) rfl), (xT_t1 (List.mem_of_getElem? (i := 7) rfl) rfl), (xT_t5 (List.mem_of_getElem? (i := 82) rfl) rfl), by decide +kernel, Nat.le_of_ble_eq_true rfl, (6, 13), TX6, 13, rfl, rfl⟩
theorem cv_X6_95 : xCv RX6 95 yX6_isFree mX6_isFree 30 1 := ⟨(xT_t5 (List.mem_of_getElem? (i := 164) rfl) rfl), (xT_t5 (List.mem_of_getElem? (i := 166) rfl) rfl), (xT_s (List.mem_of_getElem? (i := 46) rfl) rfl), (xT_t1 (List.mem_of_getElem? (i := 7) rfl) rfl), (xT_t5 (List.mem_of_getElem? (i := 167) rfl) rfl), by decide +kernel, Nat.le_of_ble_eq_true rfl, (6, 13), TX6, 13, rfl, rfl⟩
theorem cv_X6_98 : xCv RX6 98 yX6_runAt mX6_runAt 30 1 := ⟨(xT_t5 (List.mem_of_getElem? (i := 160) rfl) rfl), (xT_t5 (List.mem_of_getElem? (i := 162) rfl) rfl), (xT_s (List.mem_of_getElem? (i := 45) rfl) rfl), (xT_t1 (List.mem_of_getElem? (i := 7) rfl) rfl), (xT_t5 (List.mem_of_getElem? (i := 163) rfl) rfl), by decide +kernel, Nat.le_of_ble_eq_true rfl, (6, 13), TX6, 13, rfl, rfl⟩
theorem cv_X6_101 : xCv RX6 101 yX6_newSlot mX6_newSlot 30 0 := ⟨(xT_t5 (List.mem_of_getElem? (i := 152) rfl) rfl), (xT_t5 (List.mem_of_getElem? (i := 154) rfl) rfl), (xT_s (List.mem_of_getElem? (i := 43) rfl) rfl), (xT_t1 (List.mem_of_getElem? (i := 7) rfl) rfl), (xT_t5 (List.mem_of_getElem? (i := 155) rfl) rfl), by decide +kernel, Nat.le_of_ble_eq_true rfl, (6, 13), TX6, 13, rfl, rfl⟩
theorem cv_X6_104 : xCv RX6 104 yX6_places mX6_places 30 1 := ⟨(xT_t5 (List.mem_of_getElem? (i := 156) rfl) rfl), (xT_t5 (List.mem_of_getElem? (i := 158) rfl) rfl), (xT_s (List.mem_of_getElem? (i := 44) rfl) rfl), (xT_t1 (List.mem_of_getElem? (i := 7) rfl) rfl), (xT_t5 (List.mem_of_getElem? (i := 159) rfl) rfl), by decide +kernel, Nat.le_of_ble_eq_true rfl, (6, 13), TX6, 13, rfl, rfl⟩
theorem cv_X6_110 : xCv RX6 110 yX6_hasPackets mX6_hasPackets 30 1 := ⟨(xT_t5 (List.mem_of_getElem? (i := 137) rfl) rfl), (xT_t5 (List.mem_of_getElem? (i := 139) rfl) rfl), (xT_s (List.mem_of_getElem? (i := 40) rfl) rfl), (xT_t1 (List.mem_of_getElem? (i := 7) rfl) rfl), (xT_t5 (List.mem_of_getElem? (i := 140) rfl) rfl), by decide +kernel, Nat.le_of_ble_eq_true rfl, (6, 13), TX6, 13, rfl, rfl⟩
theorem cv_X6_113 : xCv RX6 113 yX6_limit mX6_limit 30 1 := ⟨(xT_t5 (List.mem_of_getElem? (i := 103) rfl) rfl), (xT_t5 (List.mem_of_getElem? (i := 105) rfl) rfl), (xT_s (List.mem_of_getElem? (i := 33) rfl) rfl), (xT_t1 (List.mem_of_getElem? (i := 7) rfl) rfl), (xT_t5 (List.mem_of_getElem? (i := 106) rfl) rfl), by decide +kernel, Nat.le_of_ble_eq_true rfl, (6, 13), TX6, 13, rfl, rfl⟩
theorem cv_X6_116 : xCv RX6 116 yX6_early mX6_early 30 2 := ⟨(xT_t5 (List.mem_of_getElem? (i := 99) rfl) rfl), (xT_t5 (List.mem_of_getElem? (i := 101) rfl) rfl), (xT_s (List.mem_of_getElem? (i := 32) rfl) rfl), (xT_t1 (List.mem_of_getElem? (i := 7) rfl) rfl), (xT_t5 (List.mem_of_getElem? (i := 102) rfl) rfl), by decide +kernel, Nat.le_of_ble_eq_true rfl, (6, 13), TX6, 13, rfl, rfl⟩
theorem cv_X6_119 : xCv RX6 119 yX6_pushes mX6_pushes 30 2 := ⟨(xT_t5 (List.mem_of_getElem? (i := 107) rfl) rfl), (xT_t5 (List.mem_of_getElem? (i := 109) rfl) rfl), (xT_s (List.mem_of_getElem? (i := 34) rfl) rfl), (xT_t1 (List.mem_of_getElem? (i := 7) rfl) rfl), (xT_t5 (List.mem_of_getElem? (i := 110) rfl) rfl), by decide +kernel, Nat.le_of_ble_eq_true rfl, (6, 13), TX6, 13, rfl, rfl⟩
theorem cv_X6_122 : xCv RX6 122 yX6_lessens mX6_lessens 30 2 := ⟨(xT_t5 (List.mem_of_getElem? (i := 117) rfl) rfl), (xT_t5 (List.mem_of_getElem? (i := 119) rfl) rfl), (xT_s (List.mem_of_getElem? (i := 35) rfl) rfl), (xT_t1 (List.mem_of_getElem? (i := 7) rfl) rfl), (xT_t5 (List.mem_of_getElem? (i := 120) rfl) rfl), by decide +kernel, Nat.le_of_ble_eq_true rfl, (6, 13), TX6, 13, rfl, rfl⟩
theorem cv_X6_132 : xCv RX6 132 yX6_leaves mX6_leaves 30 2 := ⟨(xT_t5 (List.mem_of_getElem? (i := 129) rfl) rfl), (xT_t5 (List.mem_of_getElem? (i := 131) rfl) rfl), (xT_s (List.mem_of_getElem? (i := 38) rfl) rfl), (xT_t1 (List.mem_of_getElem? (i := 7) rfl) rfl), (xT_t5 (List.mem_of_getElem? (i := 132) rfl) rfl), by decide +kernel, Nat.le_of_ble_eq_true rfl, (6, 13), TX6, 13, rfl, rfl⟩
theorem cv_X6_135 : xCv RX6 135 yX6_settles mX6_settles 30 1 := ⟨(xT_t5 (List.mem_of_getElem? (i := 133) rfl) rfl), (xT_t5 (List.mem_of_getElem? (i := 135) rfl) rfl), (xT_s (List.mem_of_getElem? (i := 39) rfl) rfl), (xT_t1 (List.mem_of_getElem? (i := 7) rfl) rfl), (xT_t5 (List.mem_of_getElem? (i := 136) rfl) rfl), by decide +kernel, Nat.le_of_ble_eq_true rfl, (6, 13), TX6, 13, rfl, rfl⟩
theorem cv_X6_138 : xCv RX6 138 yX6_loses mX6_loses 30 3 := ⟨(xT_t5 (List.mem_of_getElem? (i := 121) rfl) rfl), (xT_t5 (List.mem_of_getElem? (i := 123) rfl) rfl), (xT_s (List.mem_of_getElem? (i := 36) rfl) rfl), (xT_t1 (List.mem_of_getElem? (i := 7) rfl) rfl), (xT_t5 (List.mem_of_getElem? (i := 124) rfl) rfl), by decide +kernel, Nat.le_of_ble_eq_true rfl, (6, 13), TX6, 13, rfl, rfl⟩
theorem cv_X6_142 : xCv RX6 142 yX6_decides mX6_decides 30 2 := ⟨(xT_t5 (List.mem_of_getElem? (i := 95) rfl) rfl), (xT_t5 (List.mem_of_getElem? (i := 97) rfl) rfl), (xT_s (List.mem_of_getElem? (i := 31) rfl) rfl), (xT_t1 (List.mem_of_getElem? (i := 7) rfl) rfl), (xT_t5 (List.mem_of_getElem? (i := 98) rfl) rfl), by decide +kernel, Nat.le_of_ble_eq_true rfl, (6, 13), TX6, 13, rfl, rfl⟩
theorem cv_X6_145 : xCv RX6 145 yX6_removesVictims mX6_removesVictims 30 1 := ⟨(xT_t5 (List.mem_of_getElem? (i := 125) rfl) rfl), (xT_t5 (List.mem_of_getElem? (i := 127) rfl) rfl), (xT_s (List.mem_of_getElem? (i := 37) rfl) rfl), (xT_t1 (List.mem_of_getElem? (i := 7) rfl) rfl), (xT_t5 (List.mem_of_getElem? (i := 128) rfl) rfl), by decide +kernel, Nat.le_of_ble_eq_true rfl, (6, 13), TX6, 13, rfl, rfl⟩
theorem cv_X6_148 : xCv RX6 148 yX6_counts mX6_counts 30 3 := ⟨(xT_t5 (List.mem_of_getElem? (i := 141) rfl) rfl), (xT_t5 (List.mem_of_getElem? (i := 143) rfl) rfl), (xT_s (List.mem_of_getElem? (i := 41) rfl) rfl), (xT_t1 (List.mem_of_getElem? (i := 7) rfl) rfl), (xT_t5 (List.mem_of_getElem? (i := 144) rfl) rfl), by decide +kernel, Nat.le_of_ble_eq_true rfl, (6, 13), TX6, 13, rfl, rfl⟩
theorem cv_X6_151 : xCv RX6 151 yX6_enters mX6_enters 30 2 := ⟨(xT_t5 (List.mem_of_getElem? (i := 148) rfl) rfl), (xT_t5 (List.mem_of_getElem? (i := 150) rfl) rfl), (xT_s (List.mem_of_getElem? (i := 42) rfl) rfl), (xT_t1 (List.mem_of_getElem? (i := 7) rfl) rfl), (xT_t5 (List.mem_of_getElem? (i := 151) rfl) rfl), by decide +kernel, Nat.le_of_ble_eq_true rfl, (6, 13), TX6, 13, rfl, rfl⟩
theorem cv_X6_154 : xCv RX6 154 yX6_arrives mX6_arrives 30 2 := ⟨(xT_t5 (List.mem_of_getElem? (i := 91) rfl) rfl), (xT_t5 (List.mem_of_getElem? (i := 93) rfl) rfl), (xT_s (List.mem_of_getElem? (i := 30) rfl) rfl), (xT_t1 (List.mem_of_getElem? (i := 7) rfl) rfl), (xT_t5 (List.mem_of_getElem? (i := 94) rfl) rfl), by decide +kernel, Nat.le_of_ble_eq_true rfl, (6, 13), TX6, 13, rfl, rfl⟩
theorem cv_X6_157 : xCv RX6 157 yX6_firstSize mX6_firstSize 30 1 := ⟨(xT_t5 (List.mem_of_getElem? (i := 184) rfl) rfl), (xT_t5 (List.mem_of_getElem? (i := 186) rfl) rfl), (xT_s (List.mem_of_getElem? (i := 50) rfl) rfl), (xT_t1 (List.mem_of_getElem? (i := 7) rfl) rfl), (xT_t5 (List.mem_of_getElem? (i := 187) rfl) rfl), by decide +kernel, Nat.le_of_ble_eq_true rfl, (6, 13), TX6, 13, rfl, rfl⟩
theorem cv_X6_160 : xCv RX6 160 yX6_departs mX6_departs 30 2 := ⟨(xT_t5 (List.mem_of_getElem? (i := 188) rfl) rfl), (xT_t5 (List.mem_of_getElem? (i := 190) rfl) rfl), (xT_s (List.mem_of_getElem? (i := 51) rfl) rfl), (xT_t1 (List.mem_of_getElem? (i := 7) rfl) rfl), (xT_t5 (List.mem_of_getElem? (i := 191) rfl) rfl), by decide +kernel, Nat.le_of_ble_eq_true rfl, (6, 13), TX6, 13, rfl, rfl⟩
theorem cv_X6_163 : xCv RX6 163 yX6_sends mX6_sends 30 1 := ⟨(xT_t5 (List.mem_of_getElem? (i := 180) rfl) rfl), (xT_t5 (List.mem_of_getElem? (i := 182) rfl) rfl), (xT_s (List.mem_of_getElem? (i := 49) rfl) rfl), (xT_t1 (List.mem_of_getElem? (i := 7) rfl) rfl), (xT_t5 (List.mem_of_getElem? (i := 183) rfl) rfl), by decide +kernel, Nat.le_of_ble_eq_true rfl, (6, 13), TX6, 13, rfl, rfl⟩
theorem cv_X6_166 : xCv RX6 166 yX6_tick mX6_tick 30 0 := ⟨(xT_t5 (List.mem_of_getElem? (i := 176) rfl) rfl), (xT_t5 (List.mem_of_getElem? (i := 178) rfl) rfl), (xT_s (List.mem_of_getElem? (i := 48) rfl) rfl), (xT_t1 (List.mem_of_getElem? (i := 7) rfl) rfl), (xT_t5 (List.mem_of_getElem? (i := 179) rfl) rfl), by decide +kernel, Nat.le_of_ble_eq_true rfl, (6, 13), TX6, 13, rfl, rfl⟩
theorem cv_X6_169 : xCv RX6 169 yX6_ticking mX6_ticking 30 1 := ⟨(xT_t5 (List.mem_of_getElem? (i := 172) rfl) rfl), (xT_t5 (List.mem_of_getElem? (i := 174) rfl) rfl), (xT_s (List.mem_of_getElem? (i := 47) rfl) rfl), (xT_t1 (List.mem_of_getElem? (i := 7) rfl) rfl), (xT_t5 (List.mem_of_getElem? (i := 175) rfl) rfl), by decide +kernel, Nat.le_of_ble_eq_true rfl, (6, 13), TX6, 13, rfl, rfl⟩
theorem cv_X6_172 : xCv RX6 172 yX6_flushes mX6_flushes 30 1 := ⟨(xT_t5 (List.mem_of_getElem? (i := 196) rfl) rfl), (xT_t5 (List.mem_of_getElem? (i := 198) rfl) rfl), (xT_s (List.mem_of_getElem? (i := 52) rfl) rfl), (xT_t1 (List.mem_of_getElem? (i := 7) rfl) rfl), (xT_t5 (List.mem_of_getElem? (i := 199) rfl) rfl), by decide +kernel, Nat.le_of_ble_eq_true rfl, (6, 13), TX6, 13, rfl, rfl⟩
theorem cv_X6_183 : xCv RX6 183 yX6_ofPort mX6_ofPort 30 2 := ⟨(xT_t5 (List.mem_of_getElem? (i := 224) rfl) rfl), (xT_t5 (List.mem_of_getElem? (i := 226) rfl) rfl), (xT_s (List.mem_of_getElem? (i := 53) rfl) rfl), (xT_t1 (List.mem_of_getElem? (i := 7) rfl) rfl), (xT_t5 (List.mem_of_getElem? (i := 227) rfl) rfl), by decide +kernel, Nat.le_of_ble_eq_true rfl, (6, 13), TX6, 13, rfl, rfl⟩
theorem cv_X6_186 : xCv RX6 186 yX6_ofQueue mX6_ofQueue 30 3 := ⟨(xT_t5 (List.mem_of_getElem? (i := 236) rfl) rfl), (xT_t5 (List.mem_of_getElem? (i := 238) rfl) rfl), (xT_s (List.mem_of_getElem? (i := 54) rfl) rfl), (xT_t1 (List.mem_of_getElem? (i := 7) rfl) rfl), (xT_t5 (List.mem_of_getElem? (i := 239) rfl) rfl), by decide +kernel, Nat.le_of_ble_eq_true rfl, (6, 13), TX6, 13, rfl, rfl⟩
theorem cv_X6_190 : xCv RX6 190 yX6_slotOf mX6_slotOf 30 1 := ⟨(xT_t6 (List.mem_of_getElem? (i := 64) rfl) rfl), (xT_t6 (List.mem_of_getElem? (i := 66) rfl) rfl), (xT_s (List.mem_of_getElem? (i := 55) rfl) rfl), (xT_t1 (List.mem_of_getElem? (i := 7) rfl) rfl), (xT_t6 (List.mem_of_getElem? (i := 67) rfl) rfl), by decide +kernel, Nat.le_of_ble_eq_true rfl, (6, 13), TX6, 13, rfl, rfl⟩
theorem cv_X6_193 : xCv RX6 193 yX6_ofFragment mX6_ofFragment 30 3 := ⟨(xT_t6 (List.mem_of_getElem? (i := 72) rfl) rfl), (xT_t6 (List.mem_of_getElem? (i := 74) rfl) rfl), (xT_s (List.mem_of_getElem? (i := 56) rfl) rfl), (xT_t1 (List.mem_of_getElem? (i := 7) rfl) rfl), (xT_t6 (List.mem_of_getElem? (i := 75) rfl) rfl), by decide +kernel, Nat.le_of_ble_eq_true rfl, (6, 13), TX6, 13, rfl, rfl⟩
theorem cv_X6_196 : xCv RX6 196 yX6_beginOf mX6_beginOf 30 1 := ⟨(xT_t6 (List.mem_of_getElem? (i := 88) rfl) rfl), (xT_t6 (List.mem_of_getElem? (i := 90) rfl) rfl), (xT_s (List.mem_of_getElem? (i := 57) rfl) rfl), (xT_t1 (List.mem_of_getElem? (i := 7) rfl) rfl), (xT_t6 (List.mem_of_getElem? (i := 91) rfl) rfl), by decide +kernel, Nat.le_of_ble_eq_true rfl, (6, 13), TX6, 13, rfl, rfl⟩
theorem cv_X6_205 : xCv RX6 205 yX6_here mX6_here 30 0 := ⟨(xT_t6 (List.mem_of_getElem? (i := 136) rfl) rfl), (xT_t6 (List.mem_of_getElem? (i := 138) rfl) rfl), (xT_s (List.mem_of_getElem? (i := 60) rfl) rfl), (xT_t1 (List.mem_of_getElem? (i := 7) rfl) rfl), (xT_t6 (List.mem_of_getElem? (i := 139) rfl) rfl), by decide +kernel, Nat.le_of_ble_eq_true rfl, (6, 13), TX6, 13, rfl, rfl⟩
theorem cv_X6_211 : xCv RX6 211 yX6_isDigit mX6_isDigit 30 0 := ⟨(xT_t6 (List.mem_of_getElem? (i := 144) rfl) rfl), (xT_t6 (List.mem_of_getElem? (i := 146) rfl) rfl), (xT_s (List.mem_of_getElem? (i := 62) rfl) rfl), (xT_t1 (List.mem_of_getElem? (i := 7) rfl) rfl), (xT_t6 (List.mem_of_getElem? (i := 147) rfl) rfl), by decide +kernel, Nat.le_of_ble_eq_true rfl, (6, 13), TX6, 13, rfl, rfl⟩
theorem cv_X6_215 : xCv RX6 215 yX6_faults mX6_faults 30 1 := ⟨(xT_t6 (List.mem_of_getElem? (i := 148) rfl) rfl), (xT_t6 (List.mem_of_getElem? (i := 150) rfl) rfl), (xT_s (List.mem_of_getElem? (i := 63) rfl) rfl), (xT_t1 (List.mem_of_getElem? (i := 7) rfl) rfl), (xT_t6 (List.mem_of_getElem? (i := 151) rfl) rfl), by decide +kernel, Nat.le_of_ble_eq_true rfl, (6, 13), TX6, 13, rfl, rfl⟩
theorem cv_X6_218 : xCv RX6 218 yX6_digit mX6_digit 30 1 := ⟨(xT_t6 (List.mem_of_getElem? (i := 140) rfl) rfl), (xT_t6 (List.mem_of_getElem? (i := 142) rfl) rfl), (xT_s (List.mem_of_getElem? (i := 61) rfl) rfl), (xT_t1 (List.mem_of_getElem? (i := 7) rfl) rfl), (xT_t6 (List.mem_of_getElem? (i := 143) rfl) rfl), by decide +kernel, Nat.le_of_ble_eq_true rfl, (6, 13), TX6, 13, rfl, rfl⟩
theorem cv_X6_221 : xCv RX6 221 yX6_number mX6_number 30 2 := ⟨(xT_t6 (List.mem_of_getElem? (i := 152) rfl) rfl), (xT_t6 (List.mem_of_getElem? (i := 154) rfl) rfl), (xT_s (List.mem_of_getElem? (i := 64) rfl) rfl), (xT_t1 (List.mem_of_getElem? (i := 7) rfl) rfl), (xT_t6 (List.mem_of_getElem? (i := 155) rfl) rfl), by decide +kernel, Nat.le_of_ble_eq_true rfl, (6, 13), TX6, 13, rfl, rfl⟩
theorem cv_X6_224 : xCv RX6 224 yX6_ends mX6_ends 30 0 := ⟨(xT_t6 (List.mem_of_getElem? (i := 156) rfl) rfl), (xT_t6 (List.mem_of_getElem? (i := 158) rfl) rfl), (xT_s (List.mem_of_getElem? (i := 65) rfl) rfl), (xT_t1 (List.mem_of_getElem? (i := 7) rfl) rfl), (xT_t6 (List.mem_of_getElem? (i := 159) rfl) rfl), by decide +kernel, Nat.le_of_ble_eq_true rfl, (6, 13), TX6, 13, rfl, rfl⟩
theorem cv_X6_227 : xCv RX6 227 yX6_acts mX6_acts 30 0 := ⟨(xT_t6 (List.mem_of_getElem? (i := 164) rfl) rfl), (xT_t6 (List.mem_of_getElem? (i := 166) rfl) rfl), (xT_s (List.mem_of_getElem? (i := 67) rfl) rfl), (xT_t1 (List.mem_of_getElem? (i := 7) rfl) rfl), (xT_t6 (List.mem_of_getElem? (i := 167) rfl) rfl), by decide +kernel, Nat.le_of_ble_eq_true rfl, (6, 13), TX6, 13, rfl, rfl⟩
theorem cv_X6_233 : xCv RX6 233 yX6_sign mX6_sign 30 1 := ⟨(xT_t6 (List.mem_of_getElem? (i := 160) rfl) rfl), (xT_t6 (List.mem_of_getElem? (i := 162) rfl) rfl), (xT_s (List.mem_of_getElem? (i := 66) rfl) rfl), (xT_t1 (List.mem_of_getElem? (i := 7) rfl) rfl), (xT_t6 (List.mem_of_getElem? (i := 163) rfl) rfl), by decide +kernel, Nat.le_of_ble_eq_true rfl, (6, 13), TX6, 13, rfl, rfl⟩
theorem cv_X6_236 : xCv RX6 236 yX6_grant mX6_grant 30 2 := ⟨(xT_t6 (List.mem_of_getElem? (i := 168) rfl) rfl), (xT_t5 (List.mem_of_getElem? (i := 68) rfl) rfl), (xT_t5 (List.mem_of_getElem? (i := 69) rfl) rfl), (xT_t1 (List.mem_of_getElem? (i := 7) rfl) rfl), (xT_t5 (List.mem_of_getElem? (i := 70) rfl) rfl), by decide +kernel, Nat.le_of_ble_eq_true rfl, (6, 13), TX6, 13, rfl, rfl⟩
theorem cv_X6_243 : xCv RX6 243 yX6_order mX6_order 30 0 := ⟨(xT_t6 (List.mem_of_getElem? (i := 132) rfl) rfl), (xT_t6 (List.mem_of_getElem? (i := 134) rfl) rfl), (xT_s (List.mem_of_getElem? (i := 59) rfl) rfl), (xT_t1 (List.mem_of_getElem? (i := 7) rfl) rfl), (xT_t6 (List.mem_of_getElem? (i := 135) rfl) rfl), by decide +kernel, Nat.le_of_ble_eq_true rfl, (6, 13), TX6, 13, rfl, rfl⟩
theorem cv_X6_246 : xCv RX6 246 yX6_reads mX6_reads 30 1 := ⟨(xT_t6 (List.mem_of_getElem? (i := 128) rfl) rfl), (xT_t6 (List.mem_of_getElem? (i := 130) rfl) rfl), (xT_s (List.mem_of_getElem? (i := 58) rfl) rfl), (xT_t1 (List.mem_of_getElem? (i := 7) rfl) rfl), (xT_t6 (List.mem_of_getElem? (i := 131) rfl) rfl), by decide +kernel, Nat.le_of_ble_eq_true rfl, (6, 13), TX6, 13, rfl, rfl⟩
theorem cv_X6_252 : xCv RX6 252 yX6_sumOf mX6_sumOf 30 2 := ⟨(xT_t6 (List.mem_of_getElem? (i := 186) rfl) rfl), (xT_t6 (List.mem_of_getElem? (i := 188) rfl) rfl), (xT_s (List.mem_of_getElem? (i := 68) rfl) rfl), (xT_t1 (List.mem_of_getElem? (i := 7) rfl) rfl), (xT_t6 (List.mem_of_getElem? (i := 189) rfl) rfl), by decide +kernel, Nat.le_of_ble_eq_true rfl, (6, 13), TX6, 13, rfl, rfl⟩
theorem cv_X6_258 : xCv RX6 258 yX6_sumOfQueue mX6_sumOfQueue 30 2 := ⟨(xT_t6 (List.mem_of_getElem? (i := 191) rfl) rfl), (xT_t6 (List.mem_of_getElem? (i := 193) rfl) rfl), (xT_s (List.mem_of_getElem? (i := 69) rfl) rfl), (xT_t1 (List.mem_of_getElem? (i := 7) rfl) rfl), (xT_t6 (List.mem_of_getElem? (i := 194) rfl) rfl), by decide +kernel, Nat.le_of_ble_eq_true rfl, (6, 13), TX6, 13, rfl, rfl⟩
theorem cs_X0_140 : xCs RX0 140 yX0_headroomRefusal mX0_headroomRefusal 3 := ⟨(xT_t2 (List.mem_of_getElem? (i := 235) rfl) rfl), (xT_t2 (List.mem_of_getElem? (i := 236) rfl) rfl), (xT_t1 (List.mem_of_getElem? (i := 2) rfl) rfl), (xT_t2 (List.mem_of_getElem? (i := 237) rfl) rfl), by decide +kernel, Nat.le_of_ble_eq_true rfl⟩
theorem cs_X1_80 : xCs RX1 80 yX1_suitsBetter mX1_suitsBetter 3 := ⟨(xT_t3 (List.mem_of_getElem? (i := 79) rfl) rfl), (xT_t3 (List.mem_of_getElem? (i := 80) rfl) rfl), (xT_t1 (List.mem_of_getElem? (i := 3) rfl) rfl), (xT_t3 (List.mem_of_getElem? (i := 81) rfl) rfl), by decide +kernel, Nat.le_of_ble_eq_true rfl⟩
theorem cs_X5_38 : xCs RX5 38 yX5_isOutside mX5_isOutside 3 := ⟨(xT_t2 (List.mem_of_getElem? (i := 108) rfl) rfl), (xT_t2 (List.mem_of_getElem? (i := 109) rfl) rfl), (xT_t1 (List.mem_of_getElem? (i := 1) rfl) rfl), (xT_t2 (List.mem_of_getElem? (i := 110) rfl) rfl), by decide +kernel, Nat.le_of_ble_eq_true rfl⟩
theorem cs_X5_99 : xCs RX5 99 yX5_asNumber mX5_asNumber 1 := ⟨(xT_t2 (List.mem_of_getElem? (i := 170) rfl) rfl), (xT_t2 (List.mem_of_getElem? (i := 171) rfl) rfl), (xT_t1 (List.mem_of_getElem? (i := 1) rfl) rfl), (xT_t2 (List.mem_of_getElem? (i := 172) rfl) rfl), by decide +kernel, Nat.le_of_ble_eq_true rfl⟩
theorem cs_X5_259 : xCs RX5 259 yX5_greatestCommonDivisor mX5_greatestCommonDivisor 2 := ⟨(xT_t4 (List.mem_of_getElem? (i := 91) rfl) rfl), (xT_t4 (List.mem_of_getElem? (i := 92) rfl) rfl), (xT_t1 (List.mem_of_getElem? (i := 1) rfl) rfl), (xT_t4 (List.mem_of_getElem? (i := 93) rfl) rfl), by decide +kernel, Nat.le_of_ble_eq_true rfl⟩
theorem cs_X6_36 : xCs RX6 36 yX6_in mX6_in 3 := ⟨(xT_t4 (List.mem_of_getElem? (i := 233) rfl) rfl), (xT_t4 (List.mem_of_getElem? (i := 234) rfl) rfl), (xT_t1 (List.mem_of_getElem? (i := 7) rfl) rfl), (xT_t4 (List.mem_of_getElem? (i := 235) rfl) rfl), by decide +kernel, Nat.le_of_ble_eq_true rfl⟩
theorem cs_X6_44 : xCs RX6 44 yX6_port mX6_port 2 := ⟨(xT_t4 (List.mem_of_getElem? (i := 183) rfl) rfl), (xT_t4 (List.mem_of_getElem? (i := 184) rfl) rfl), (xT_t1 (List.mem_of_getElem? (i := 7) rfl) rfl), (xT_t4 (List.mem_of_getElem? (i := 185) rfl) rfl), by decide +kernel, Nat.le_of_ble_eq_true rfl⟩
theorem cs_X6_48 : xCs RX6 48 yX6_queue mX6_queue 2 := ⟨(xT_t4 (List.mem_of_getElem? (i := 186) rfl) rfl), (xT_t4 (List.mem_of_getElem? (i := 187) rfl) rfl), (xT_t1 (List.mem_of_getElem? (i := 7) rfl) rfl), (xT_t4 (List.mem_of_getElem? (i := 188) rfl) rfl), by decide +kernel, Nat.le_of_ble_eq_true rfl⟩
theorem cs_X6_68 : xCs RX6 68 yX6_least mX6_least 2 := ⟨(xT_t5 (List.mem_of_getElem? (i := 28) rfl) rfl), (xT_t5 (List.mem_of_getElem? (i := 29) rfl) rfl), (xT_t1 (List.mem_of_getElem? (i := 7) rfl) rfl), (xT_t5 (List.mem_of_getElem? (i := 30) rfl) rfl), by decide +kernel, Nat.le_of_ble_eq_true rfl⟩
theorem cs_X6_92 : xCs RX6 92 yX6_packet mX6_packet 2 := ⟨(xT_t5 (List.mem_of_getElem? (i := 114) rfl) rfl), (xT_t5 (List.mem_of_getElem? (i := 115) rfl) rfl), (xT_t1 (List.mem_of_getElem? (i := 7) rfl) rfl), (xT_t5 (List.mem_of_getElem? (i := 116) rfl) rfl), by decide +kernel, Nat.le_of_ble_eq_true rfl⟩
theorem cs_X6_107 : xCs RX6 107 yX6_entry mX6_entry 2 := ⟨(xT_t5 (List.mem_of_getElem? (i := 111) rfl) rfl), (xT_t5 (List.mem_of_getElem? (i := 112) rfl) rfl), (xT_t1 (List.mem_of_getElem? (i := 7) rfl) rfl), (xT_t5 (List.mem_of_getElem? (i := 113) rfl) rfl), by decide +kernel, Nat.le_of_ble_eq_true rfl⟩
theorem cs_X6_129 : xCs RX6 129 yX6_most mX6_most 2 := ⟨(xT_t5 (List.mem_of_getElem? (i := 145) rfl) rfl), (xT_t5 (List.mem_of_getElem? (i := 146) rfl) rfl), (xT_t1 (List.mem_of_getElem? (i := 7) rfl) rfl), (xT_t5 (List.mem_of_getElem? (i := 147) rfl) rfl), by decide +kernel, Nat.le_of_ble_eq_true rfl⟩
theorem lk_X0_68 : Cond.methodLink RX0 68 arraycopyName ∈ xT := (xT_t3 (List.mem_of_getElem? (i := 15) rfl) rfl)
theorem lk_X1_41 : Cond.methodLink RX1 41 arraycopyName ∈ xT := (xT_t4 (List.mem_of_getElem? (i := 71) rfl) rfl)
theorem lk_X2_57 : Cond.methodLink RX2 57 arraycopyName ∈ xT := (xT_t4 (List.mem_of_getElem? (i := 80) rfl) rfl)
theorem lk_X0_107 : Cond.methodLink RX0 107 Lib.Math.max.name ∈ xT := (xT_t2 (List.mem_of_getElem? (i := 196) rfl) rfl)
theorem lk_X0_126 : Cond.methodLink RX0 126 Lib.Math.min.name ∈ xT := (xT_t2 (List.mem_of_getElem? (i := 226) rfl) rfl)
theorem lk_X1_58 : Cond.methodLink RX1 58 Lib.Math.max.name ∈ xT := (xT_t3 (List.mem_of_getElem? (i := 78) rfl) rfl)
theorem lk_X1_73 : Cond.methodLink RX1 73 Lib.Math.min.name ∈ xT := (xT_t3 (List.mem_of_getElem? (i := 43) rfl) rfl)
theorem lk_X2_91 : Cond.methodLink RX2 91 Lib.Math.min.name ∈ xT := (xT_t2 (List.mem_of_getElem? (i := 143) rfl) rfl)
theorem lk_X3_65 : Cond.methodLink RX3 65 Lib.Math.max.name ∈ xT := (xT_t3 (List.mem_of_getElem? (i := 61) rfl) rfl)
theorem lk_X3_71 : Cond.methodLink RX3 71 Lib.Math.min.name ∈ xT := (xT_t3 (List.mem_of_getElem? (i := 34) rfl) rfl)
theorem lk_X4_65 : Cond.methodLink RX4 65 Lib.Math.min.name ∈ xT := (xT_t4 (List.mem_of_getElem? (i := 130) rfl) rfl)
theorem lk_X5_143 : Cond.methodLink RX5 143 Lib.Math.max.name ∈ xT := (xT_t3 (List.mem_of_getElem? (i := 136) rfl) rfl)
theorem w_copy : Cond.native arraycopyName ∈ xT ∧ Cond.static arraycopyName ∈ xT ∧ Cond.initialized "java/lang/System" ∈ xT := ⟨(xT_t3 (List.mem_of_getElem? (i := 17) rfl) rfl), (xT_t3 (List.mem_of_getElem? (i := 16) rfl) rfl), (xT_t1 (List.mem_of_getElem? (i := 9) rfl) rfl)⟩
theorem w_max : Cond.static Lib.Math.max.name ∈ xT ∧ Cond.initialized "java/lang/Math" ∈ xT ∧ Cond.code Lib.Math.max.name Lib.Math.max.code 2 (some .int) ∈ xT := ⟨(xT_t2 (List.mem_of_getElem? (i := 197) rfl) rfl), (xT_t1 (List.mem_of_getElem? (i := 8) rfl) rfl), (xT_t2 (List.mem_of_getElem? (i := 198) rfl) rfl)⟩
theorem w_min : Cond.static Lib.Math.min.name ∈ xT ∧ Cond.initialized "java/lang/Math" ∈ xT ∧ Cond.code Lib.Math.min.name Lib.Math.min.code 2 (some .int) ∈ xT := ⟨(xT_t2 (List.mem_of_getElem? (i := 144) rfl) rfl), (xT_t1 (List.mem_of_getElem? (i := 8) rfl) rfl), (xT_t2 (List.mem_of_getElem? (i := 145) rfl) rfl)⟩
theorem tk_X0_272 : Cond.constant RX0 272 100000 ∈ xT := (xT_t3 (List.mem_of_getElem? (i := 106) rfl) rfl)
theorem tk_X5_149 : Cond.constantLong RX5 149 1103515245 ∈ xT := (xT_t3 (List.mem_of_getElem? (i := 137) rfl) rfl)
theorem tk_X5_151 : Cond.constantLong RX5 151 12345 ∈ xT := (xT_t3 (List.mem_of_getElem? (i := 138) rfl) rfl)
theorem tk_X5_153 : Cond.constantLong RX5 153 2147483648 ∈ xT := (xT_t3 (List.mem_of_getElem? (i := 139) rfl) rfl)
theorem tk_X5_155 : Cond.constantLong RX5 155 65536 ∈ xT := (xT_t3 (List.mem_of_getElem? (i := 140) rfl) rfl)
theorem tk_X5_294 : Cond.constantLong RX5 294 7 ∈ xT := (xT_t4 (List.mem_of_getElem? (i := 161) rfl) rfl)
theorem tk_X5_296 : Cond.constantLong RX5 296 31 ∈ xT := (xT_t4 (List.mem_of_getElem? (i := 162) rfl) rfl)
theorem tk_X6_175 : Cond.constantLong RX6 175 1103515245 ∈ xT := (xT_t5 (List.mem_of_getElem? (i := 204) rfl) rfl)
theorem tk_X6_177 : Cond.constantLong RX6 177 12345 ∈ xT := (xT_t5 (List.mem_of_getElem? (i := 205) rfl) rfl)
theorem tk_X6_179 : Cond.constantLong RX6 179 2147483648 ∈ xT := (xT_t5 (List.mem_of_getElem? (i := 206) rfl) rfl)
theorem tk_X6_181 : Cond.constantLong RX6 181 65536 ∈ xT := (xT_t5 (List.mem_of_getElem? (i := 207) rfl) rfl)
theorem tk_X6_250 : Cond.constantLong RX6 250 31 ∈ xT := (xT_t6 (List.mem_of_getElem? (i := 190) rfl) rfl)
theorem tk_X6_256 : Cond.constantLong RX6 256 7 ∈ xT := (xT_t6 (List.mem_of_getElem? (i := 185) rfl) rfl)
