section
-- ===== PART A: goes FIRST, ahead of the names: the tables' words, and 'selects' of the private methods out of them =====
/-- a private method of a class that the tables say can be made, by its rows of tables_1 -/
def lw_okq (q : MethodName × Nat) : Prop := (q.1.cls ≠ "java/lang/invoke/MethodHandle" ∧ q.1.cls ≠ "java/lang/invoke/VarHandle") ∧ Cond.instantiable q.1.cls q.2 ∈ tables_1 ∧ Cond.privateMethod q.1 ∈ tables_1 ∧ Cond.instanceMethod q.1 ∈ tables_1
theorem lw_p0 : lw_okq (⟨"SharedPacketBuffer$Device", "rememberGrant", "(I)V"⟩, 13) := ⟨⟨by decide +kernel, by decide +kernel⟩, List.mem_of_getElem? (i := 19) (by decide +kernel), List.mem_of_getElem? (i := 445) (by decide +kernel), List.mem_of_getElem? (i := 446) (by decide +kernel)⟩
theorem lw_p1 : lw_okq (⟨"SharedPacketBuffer$Device", "victimsNeeded", "(LSharedPacketBuffer$Port;LSharedPacketBuffer$Queue;III)I"⟩, 13) := ⟨⟨by decide +kernel, by decide +kernel⟩, List.mem_of_getElem? (i := 19) (by decide +kernel), List.mem_of_getElem? (i := 480) (by decide +kernel), List.mem_of_getElem? (i := 481) (by decide +kernel)⟩
theorem lw_p2 : lw_okq (⟨"SharedPacketBuffer$Device", "removeVictims", "(LSharedPacketBuffer$Port;I)V"⟩, 13) := ⟨⟨by decide +kernel, by decide +kernel⟩, List.mem_of_getElem? (i := 19) (by decide +kernel), List.mem_of_getElem? (i := 503) (by decide +kernel), List.mem_of_getElem? (i := 504) (by decide +kernel)⟩
theorem lw_p3 : lw_okq (⟨"SharedPacketBuffer$Device", "takeOut", "(LSharedPacketBuffer$Port;LSharedPacketBuffer$Queue;I)V"⟩, 13) := ⟨⟨by decide +kernel, by decide +kernel⟩, List.mem_of_getElem? (i := 19) (by decide +kernel), List.mem_of_getElem? (i := 507) (by decide +kernel), List.mem_of_getElem? (i := 508) (by decide +kernel)⟩
theorem lw_p4 : lw_okq (⟨"SharedPacketBuffer$Device", "chargeCells", "(LSharedPacketBuffer$Port;LSharedPacketBuffer$Queue;I)V"⟩, 13) := ⟨⟨by decide +kernel, by decide +kernel⟩, List.mem_of_getElem? (i := 19) (by decide +kernel), List.mem_of_getElem? (i := 530) (by decide +kernel), List.mem_of_getElem? (i := 531) (by decide +kernel)⟩
theorem lw_p5 : lw_okq (⟨"SharedPacketBuffer$Memory", "chooseRun", "(I)I"⟩, 9) := ⟨⟨by decide +kernel, by decide +kernel⟩, List.mem_of_getElem? (i := 25) (by decide +kernel), List.mem_of_getElem? (i := 547) (by decide +kernel), List.mem_of_getElem? (i := 548) (by decide +kernel)⟩
theorem lw_p6 : lw_okq (⟨"SharedPacketBuffer$Memory", "occupy", "(II)V"⟩, 9) := ⟨⟨by decide +kernel, by decide +kernel⟩, List.mem_of_getElem? (i := 25) (by decide +kernel), List.mem_of_getElem? (i := 563) (by decide +kernel), List.mem_of_getElem? (i := 564) (by decide +kernel)⟩
theorem lw_p7 : lw_okq (⟨"SharedPacketBuffer$Device", "sendInTurns", "(LSharedPacketBuffer$Port;)I"⟩, 13) := ⟨⟨by decide +kernel, by decide +kernel⟩, List.mem_of_getElem? (i := 19) (by decide +kernel), List.mem_of_getElem? (i := 583) (by decide +kernel), List.mem_of_getElem? (i := 584) (by decide +kernel)⟩
theorem lw_p8 : lw_okq (⟨"SharedPacketBuffer$Device", "sendByPriority", "(LSharedPacketBuffer$Port;)I"⟩, 13) := ⟨⟨by decide +kernel, by decide +kernel⟩, List.mem_of_getElem? (i := 19) (by decide +kernel), List.mem_of_getElem? (i := 596) (by decide +kernel), List.mem_of_getElem? (i := 597) (by decide +kernel)⟩
theorem lw_p9 : lw_okq (⟨"SharedPacketBuffer", "lossOfArrivals", "(LSharedPacketBuffer$Port;LSharedPacketBuffer$Queue;II)I"⟩, 5) := ⟨⟨by decide +kernel, by decide +kernel⟩, List.mem_of_getElem? (i := 11) (by decide +kernel), List.mem_of_getElem? (i := 622) (by decide +kernel), List.mem_of_getElem? (i := 623) (by decide +kernel)⟩
theorem lw_p10 : lw_okq (⟨"SharedPacketBuffer$Text", "letterHere", "()I"⟩, 9) := ⟨⟨by decide +kernel, by decide +kernel⟩, List.mem_of_getElem? (i := 268) (by decide +kernel), List.mem_of_getElem? (i := 839) (by decide +kernel), List.mem_of_getElem? (i := 840) (by decide +kernel)⟩
theorem lw_p11 : lw_okq (⟨"SharedPacketBuffer$Text", "readDigit", "(I)I"⟩, 9) := ⟨⟨by decide +kernel, by decide +kernel⟩, List.mem_of_getElem? (i := 268) (by decide +kernel), List.mem_of_getElem? (i := 843) (by decide +kernel), List.mem_of_getElem? (i := 844) (by decide +kernel)⟩
theorem lw_p12 : lw_okq (⟨"SharedPacketBuffer$Text", "readNumber", "(II)I"⟩, 9) := ⟨⟨by decide +kernel, by decide +kernel⟩, List.mem_of_getElem? (i := 268) (by decide +kernel), List.mem_of_getElem? (i := 847) (by decide +kernel), List.mem_of_getElem? (i := 848) (by decide +kernel)⟩
theorem lw_p13 : lw_okq (⟨"SharedPacketBuffer$Text", "readCount", "()V"⟩, 9) := ⟨⟨by decide +kernel, by decide +kernel⟩, List.mem_of_getElem? (i := 268) (by decide +kernel), List.mem_of_getElem? (i := 852) (by decide +kernel), List.mem_of_getElem? (i := 853) (by decide +kernel)⟩
theorem lw_p14 : lw_okq (⟨"SharedPacketBuffer$Text", "expect", "(I)V"⟩, 9) := ⟨⟨by decide +kernel, by decide +kernel⟩, List.mem_of_getElem? (i := 268) (by decide +kernel), List.mem_of_getElem? (i := 856) (by decide +kernel), List.mem_of_getElem? (i := 857) (by decide +kernel)⟩
theorem lw_p15 : lw_okq (⟨"SharedPacketBuffer", "mixPort", "(JLSharedPacketBuffer$Port;)J"⟩, 5) := ⟨⟨by decide +kernel, by decide +kernel⟩, List.mem_of_getElem? (i := 11) (by decide +kernel), List.mem_of_getElem? (i := 884) (by decide +kernel), List.mem_of_getElem? (i := 885) (by decide +kernel)⟩
def lw_privs_1 : List (MethodName × Nat) := [(⟨"SharedPacketBuffer$Device", "rememberGrant", "(I)V"⟩, 13), (⟨"SharedPacketBuffer$Device", "victimsNeeded", "(LSharedPacketBuffer$Port;LSharedPacketBuffer$Queue;III)I"⟩, 13), (⟨"SharedPacketBuffer$Device", "removeVictims", "(LSharedPacketBuffer$Port;I)V"⟩, 13), (⟨"SharedPacketBuffer$Device", "takeOut", "(LSharedPacketBuffer$Port;LSharedPacketBuffer$Queue;I)V"⟩, 13), (⟨"SharedPacketBuffer$Device", "chargeCells", "(LSharedPacketBuffer$Port;LSharedPacketBuffer$Queue;I)V"⟩, 13), (⟨"SharedPacketBuffer$Memory", "chooseRun", "(I)I"⟩, 9), (⟨"SharedPacketBuffer$Memory", "occupy", "(II)V"⟩, 9), (⟨"SharedPacketBuffer$Device", "sendInTurns", "(LSharedPacketBuffer$Port;)I"⟩, 13), (⟨"SharedPacketBuffer$Device", "sendByPriority", "(LSharedPacketBuffer$Port;)I"⟩, 13), (⟨"SharedPacketBuffer", "lossOfArrivals", "(LSharedPacketBuffer$Port;LSharedPacketBuffer$Queue;II)I"⟩, 5), (⟨"SharedPacketBuffer$Text", "letterHere", "()I"⟩, 9), (⟨"SharedPacketBuffer$Text", "readDigit", "(I)I"⟩, 9), (⟨"SharedPacketBuffer$Text", "readNumber", "(II)I"⟩, 9), (⟨"SharedPacketBuffer$Text", "readCount", "()V"⟩, 9), (⟨"SharedPacketBuffer$Text", "expect", "(I)V"⟩, 9), (⟨"SharedPacketBuffer", "mixPort", "(JLSharedPacketBuffer$Port;)J"⟩, 5)]
theorem lw_r1 : ∀ q ∈ lw_privs_1, lw_okq q := List.forall_mem_cons.mpr ⟨lw_p0, List.forall_mem_cons.mpr ⟨lw_p1, List.forall_mem_cons.mpr ⟨lw_p2, List.forall_mem_cons.mpr ⟨lw_p3, List.forall_mem_cons.mpr ⟨lw_p4, List.forall_mem_cons.mpr ⟨lw_p5, List.forall_mem_cons.mpr ⟨lw_p6, List.forall_mem_cons.mpr ⟨lw_p7, List.forall_mem_cons.mpr ⟨lw_p8, List.forall_mem_cons.mpr ⟨lw_p9, List.forall_mem_cons.mpr ⟨lw_p10, List.forall_mem_cons.mpr ⟨lw_p11, List.forall_mem_cons.mpr ⟨lw_p12, List.forall_mem_cons.mpr ⟨lw_p13, List.forall_mem_cons.mpr ⟨lw_p14, List.forall_mem_cons.mpr ⟨lw_p15, fun _ h => absurd h List.not_mem_nil⟩⟩⟩⟩⟩⟩⟩⟩⟩⟩⟩⟩⟩⟩⟩⟩
theorem lw_p16 : lw_okq (⟨"SharedPacketBuffer", "mixPackets", "(JLSharedPacketBuffer$Queue;)J"⟩, 5) := ⟨⟨by decide +kernel, by decide +kernel⟩, List.mem_of_getElem? (i := 11) (by decide +kernel), List.mem_of_getElem? (i := 888) (by decide +kernel), List.mem_of_getElem? (i := 889) (by decide +kernel)⟩
theorem lw_p17 : lw_okq (⟨"SharedPacketBufferModel", "starts", "(II)V"⟩, 13) := ⟨⟨by decide +kernel, by decide +kernel⟩, List.mem_of_getElem? (i := 894) (by decide +kernel), List.mem_of_getElem? (i := 900) (by decide +kernel), List.mem_of_getElem? (i := 901) (by decide +kernel)⟩
theorem lw_p18 : lw_okq (⟨"SharedPacketBufferModel", "isPort", "(I)Z"⟩, 13) := ⟨⟨by decide +kernel, by decide +kernel⟩, List.mem_of_getElem? (i := 894) (by decide +kernel), List.mem_of_getElem? (i := 961) (by decide +kernel), List.mem_of_getElem? (i := 962) (by decide +kernel)⟩
theorem lw_p19 : lw_okq (⟨"SharedPacketBufferModel", "free", "()I"⟩, 13) := ⟨⟨by decide +kernel, by decide +kernel⟩, List.mem_of_getElem? (i := 894) (by decide +kernel), List.mem_of_getElem? (i := 965) (by decide +kernel), List.mem_of_getElem? (i := 966) (by decide +kernel)⟩
theorem lw_p20 : lw_okq (⟨"SharedPacketBufferModel", "pool", "()I"⟩, 13) := ⟨⟨by decide +kernel, by decide +kernel⟩, List.mem_of_getElem? (i := 894) (by decide +kernel), List.mem_of_getElem? (i := 969) (by decide +kernel), List.mem_of_getElem? (i := 970) (by decide +kernel)⟩
theorem lw_p21 : lw_okq (⟨"SharedPacketBufferModel", "guarantee", "(I)I"⟩, 13) := ⟨⟨by decide +kernel, by decide +kernel⟩, List.mem_of_getElem? (i := 894) (by decide +kernel), List.mem_of_getElem? (i := 973) (by decide +kernel), List.mem_of_getElem? (i := 974) (by decide +kernel)⟩
theorem lw_p22 : lw_okq (⟨"SharedPacketBufferModel", "converts", "(I)V"⟩, 13) := ⟨⟨by decide +kernel, by decide +kernel⟩, List.mem_of_getElem? (i := 894) (by decide +kernel), List.mem_of_getElem? (i := 977) (by decide +kernel), List.mem_of_getElem? (i := 978) (by decide +kernel)⟩
theorem lw_p23 : lw_okq (⟨"SharedPacketBufferModel", "freeOf", "(I)I"⟩, 13) := ⟨⟨by decide +kernel, by decide +kernel⟩, List.mem_of_getElem? (i := 894) (by decide +kernel), List.mem_of_getElem? (i := 981) (by decide +kernel), List.mem_of_getElem? (i := 982) (by decide +kernel)⟩
theorem lw_p24 : lw_okq (⟨"SharedPacketBufferModel", "sum", "(II)I"⟩, 13) := ⟨⟨by decide +kernel, by decide +kernel⟩, List.mem_of_getElem? (i := 894) (by decide +kernel), List.mem_of_getElem? (i := 985) (by decide +kernel), List.mem_of_getElem? (i := 986) (by decide +kernel)⟩
theorem lw_p25 : lw_okq (⟨"SharedPacketBufferModel", "set", "(IIIIII)I"⟩, 13) := ⟨⟨by decide +kernel, by decide +kernel⟩, List.mem_of_getElem? (i := 894) (by decide +kernel), List.mem_of_getElem? (i := 1000) (by decide +kernel), List.mem_of_getElem? (i := 1001) (by decide +kernel)⟩
theorem lw_p26 : lw_okq (⟨"SharedPacketBufferModel", "isQueue", "(II)Z"⟩, 13) := ⟨⟨by decide +kernel, by decide +kernel⟩, List.mem_of_getElem? (i := 894) (by decide +kernel), List.mem_of_getElem? (i := 1004) (by decide +kernel), List.mem_of_getElem? (i := 1005) (by decide +kernel)⟩
theorem lw_p27 : lw_okq (⟨"SharedPacketBufferModel", "keeps", "()V"⟩, 13) := ⟨⟨by decide +kernel, by decide +kernel⟩, List.mem_of_getElem? (i := 894) (by decide +kernel), List.mem_of_getElem? (i := 1032) (by decide +kernel), List.mem_of_getElem? (i := 1033) (by decide +kernel)⟩
theorem lw_p28 : lw_okq (⟨"SharedPacketBufferModel", "drops", "(I)V"⟩, 13) := ⟨⟨by decide +kernel, by decide +kernel⟩, List.mem_of_getElem? (i := 894) (by decide +kernel), List.mem_of_getElem? (i := 1036) (by decide +kernel), List.mem_of_getElem? (i := 1037) (by decide +kernel)⟩
theorem lw_p29 : lw_okq (⟨"SharedPacketBufferModel", "brings", "()V"⟩, 13) := ⟨⟨by decide +kernel, by decide +kernel⟩, List.mem_of_getElem? (i := 894) (by decide +kernel), List.mem_of_getElem? (i := 1040) (by decide +kernel), List.mem_of_getElem? (i := 1041) (by decide +kernel)⟩
theorem lw_p30 : lw_okq (⟨"SharedPacketBufferModel", "arrives", "(II)I"⟩, 13) := ⟨⟨by decide +kernel, by decide +kernel⟩, List.mem_of_getElem? (i := 894) (by decide +kernel), List.mem_of_getElem? (i := 1052) (by decide +kernel), List.mem_of_getElem? (i := 1053) (by decide +kernel)⟩
theorem lw_p31 : lw_okq (⟨"SharedPacketBufferModel", "decides", "(II)I"⟩, 13) := ⟨⟨by decide +kernel, by decide +kernel⟩, List.mem_of_getElem? (i := 894) (by decide +kernel), List.mem_of_getElem? (i := 1056) (by decide +kernel), List.mem_of_getElem? (i := 1057) (by decide +kernel)⟩
def lw_privs_2 : List (MethodName × Nat) := [(⟨"SharedPacketBuffer", "mixPackets", "(JLSharedPacketBuffer$Queue;)J"⟩, 5), (⟨"SharedPacketBufferModel", "starts", "(II)V"⟩, 13), (⟨"SharedPacketBufferModel", "isPort", "(I)Z"⟩, 13), (⟨"SharedPacketBufferModel", "free", "()I"⟩, 13), (⟨"SharedPacketBufferModel", "pool", "()I"⟩, 13), (⟨"SharedPacketBufferModel", "guarantee", "(I)I"⟩, 13), (⟨"SharedPacketBufferModel", "converts", "(I)V"⟩, 13), (⟨"SharedPacketBufferModel", "freeOf", "(I)I"⟩, 13), (⟨"SharedPacketBufferModel", "sum", "(II)I"⟩, 13), (⟨"SharedPacketBufferModel", "set", "(IIIIII)I"⟩, 13), (⟨"SharedPacketBufferModel", "isQueue", "(II)Z"⟩, 13), (⟨"SharedPacketBufferModel", "keeps", "()V"⟩, 13), (⟨"SharedPacketBufferModel", "drops", "(I)V"⟩, 13), (⟨"SharedPacketBufferModel", "brings", "()V"⟩, 13), (⟨"SharedPacketBufferModel", "arrives", "(II)I"⟩, 13), (⟨"SharedPacketBufferModel", "decides", "(II)I"⟩, 13)]
theorem lw_r2 : ∀ q ∈ lw_privs_2, lw_okq q := List.forall_mem_cons.mpr ⟨lw_p16, List.forall_mem_cons.mpr ⟨lw_p17, List.forall_mem_cons.mpr ⟨lw_p18, List.forall_mem_cons.mpr ⟨lw_p19, List.forall_mem_cons.mpr ⟨lw_p20, List.forall_mem_cons.mpr ⟨lw_p21, List.forall_mem_cons.mpr ⟨lw_p22, List.forall_mem_cons.mpr ⟨lw_p23, List.forall_mem_cons.mpr ⟨lw_p24, List.forall_mem_cons.mpr ⟨lw_p25, List.forall_mem_cons.mpr ⟨lw_p26, List.forall_mem_cons.mpr ⟨lw_p27, List.forall_mem_cons.mpr ⟨lw_p28, List.forall_mem_cons.mpr ⟨lw_p29, List.forall_mem_cons.mpr ⟨lw_p30, List.forall_mem_cons.mpr ⟨lw_p31, fun _ h => absurd h List.not_mem_nil⟩⟩⟩⟩⟩⟩⟩⟩⟩⟩⟩⟩⟩⟩⟩⟩
theorem lw_p32 : lw_okq (⟨"SharedPacketBufferModel", "early", "(II)I"⟩, 13) := ⟨⟨by decide +kernel, by decide +kernel⟩, List.mem_of_getElem? (i := 894) (by decide +kernel), List.mem_of_getElem? (i := 1060) (by decide +kernel), List.mem_of_getElem? (i := 1061) (by decide +kernel)⟩
theorem lw_p33 : lw_okq (⟨"SharedPacketBufferModel", "limit", "(I)I"⟩, 13) := ⟨⟨by decide +kernel, by decide +kernel⟩, List.mem_of_getElem? (i := 894) (by decide +kernel), List.mem_of_getElem? (i := 1064) (by decide +kernel), List.mem_of_getElem? (i := 1065) (by decide +kernel)⟩
theorem lw_p34 : lw_okq (⟨"SharedPacketBufferModel", "pushes", "(II)Z"⟩, 13) := ⟨⟨by decide +kernel, by decide +kernel⟩, List.mem_of_getElem? (i := 894) (by decide +kernel), List.mem_of_getElem? (i := 1068) (by decide +kernel), List.mem_of_getElem? (i := 1069) (by decide +kernel)⟩
theorem lw_p35 : lw_okq (⟨"SharedPacketBufferModel", "lessens", "(II)V"⟩, 13) := ⟨⟨by decide +kernel, by decide +kernel⟩, List.mem_of_getElem? (i := 894) (by decide +kernel), List.mem_of_getElem? (i := 1078) (by decide +kernel), List.mem_of_getElem? (i := 1079) (by decide +kernel)⟩
theorem lw_p36 : lw_okq (⟨"SharedPacketBufferModel", "loses", "(III)V"⟩, 13) := ⟨⟨by decide +kernel, by decide +kernel⟩, List.mem_of_getElem? (i := 894) (by decide +kernel), List.mem_of_getElem? (i := 1082) (by decide +kernel), List.mem_of_getElem? (i := 1083) (by decide +kernel)⟩
theorem lw_p37 : lw_okq (⟨"SharedPacketBufferModel", "removesVictims", "(I)V"⟩, 13) := ⟨⟨by decide +kernel, by decide +kernel⟩, List.mem_of_getElem? (i := 894) (by decide +kernel), List.mem_of_getElem? (i := 1086) (by decide +kernel), List.mem_of_getElem? (i := 1087) (by decide +kernel)⟩
theorem lw_p38 : lw_okq (⟨"SharedPacketBufferModel", "leaves", "(II)I"⟩, 13) := ⟨⟨by decide +kernel, by decide +kernel⟩, List.mem_of_getElem? (i := 894) (by decide +kernel), List.mem_of_getElem? (i := 1090) (by decide +kernel), List.mem_of_getElem? (i := 1091) (by decide +kernel)⟩
theorem lw_p39 : lw_okq (⟨"SharedPacketBufferModel", "settles", "(I)V"⟩, 13) := ⟨⟨by decide +kernel, by decide +kernel⟩, List.mem_of_getElem? (i := 894) (by decide +kernel), List.mem_of_getElem? (i := 1094) (by decide +kernel), List.mem_of_getElem? (i := 1095) (by decide +kernel)⟩
theorem lw_p40 : lw_okq (⟨"SharedPacketBufferModel", "hasPackets", "(I)Z"⟩, 13) := ⟨⟨by decide +kernel, by decide +kernel⟩, List.mem_of_getElem? (i := 894) (by decide +kernel), List.mem_of_getElem? (i := 1098) (by decide +kernel), List.mem_of_getElem? (i := 1099) (by decide +kernel)⟩
theorem lw_p41 : lw_okq (⟨"SharedPacketBufferModel", "counts", "(III)V"⟩, 13) := ⟨⟨by decide +kernel, by decide +kernel⟩, List.mem_of_getElem? (i := 894) (by decide +kernel), List.mem_of_getElem? (i := 1102) (by decide +kernel), List.mem_of_getElem? (i := 1103) (by decide +kernel)⟩
theorem lw_p42 : lw_okq (⟨"SharedPacketBufferModel", "enters", "(II)V"⟩, 13) := ⟨⟨by decide +kernel, by decide +kernel⟩, List.mem_of_getElem? (i := 894) (by decide +kernel), List.mem_of_getElem? (i := 1109) (by decide +kernel), List.mem_of_getElem? (i := 1110) (by decide +kernel)⟩
theorem lw_p43 : lw_okq (⟨"SharedPacketBufferModel", "newSlot", "()I"⟩, 13) := ⟨⟨by decide +kernel, by decide +kernel⟩, List.mem_of_getElem? (i := 894) (by decide +kernel), List.mem_of_getElem? (i := 1113) (by decide +kernel), List.mem_of_getElem? (i := 1114) (by decide +kernel)⟩
theorem lw_p44 : lw_okq (⟨"SharedPacketBufferModel", "places", "(I)V"⟩, 13) := ⟨⟨by decide +kernel, by decide +kernel⟩, List.mem_of_getElem? (i := 894) (by decide +kernel), List.mem_of_getElem? (i := 1117) (by decide +kernel), List.mem_of_getElem? (i := 1118) (by decide +kernel)⟩
theorem lw_p45 : lw_okq (⟨"SharedPacketBufferModel", "runAt", "(I)I"⟩, 13) := ⟨⟨by decide +kernel, by decide +kernel⟩, List.mem_of_getElem? (i := 894) (by decide +kernel), List.mem_of_getElem? (i := 1121) (by decide +kernel), List.mem_of_getElem? (i := 1122) (by decide +kernel)⟩
theorem lw_p46 : lw_okq (⟨"SharedPacketBufferModel", "isFree", "(I)Z"⟩, 13) := ⟨⟨by decide +kernel, by decide +kernel⟩, List.mem_of_getElem? (i := 894) (by decide +kernel), List.mem_of_getElem? (i := 1125) (by decide +kernel), List.mem_of_getElem? (i := 1126) (by decide +kernel)⟩
theorem lw_p47 : lw_okq (⟨"SharedPacketBufferModel", "ticking", "(I)I"⟩, 13) := ⟨⟨by decide +kernel, by decide +kernel⟩, List.mem_of_getElem? (i := 894) (by decide +kernel), List.mem_of_getElem? (i := 1133) (by decide +kernel), List.mem_of_getElem? (i := 1134) (by decide +kernel)⟩
def lw_privs_3 : List (MethodName × Nat) := [(⟨"SharedPacketBufferModel", "early", "(II)I"⟩, 13), (⟨"SharedPacketBufferModel", "limit", "(I)I"⟩, 13), (⟨"SharedPacketBufferModel", "pushes", "(II)Z"⟩, 13), (⟨"SharedPacketBufferModel", "lessens", "(II)V"⟩, 13), (⟨"SharedPacketBufferModel", "loses", "(III)V"⟩, 13), (⟨"SharedPacketBufferModel", "removesVictims", "(I)V"⟩, 13), (⟨"SharedPacketBufferModel", "leaves", "(II)I"⟩, 13), (⟨"SharedPacketBufferModel", "settles", "(I)V"⟩, 13), (⟨"SharedPacketBufferModel", "hasPackets", "(I)Z"⟩, 13), (⟨"SharedPacketBufferModel", "counts", "(III)V"⟩, 13), (⟨"SharedPacketBufferModel", "enters", "(II)V"⟩, 13), (⟨"SharedPacketBufferModel", "newSlot", "()I"⟩, 13), (⟨"SharedPacketBufferModel", "places", "(I)V"⟩, 13), (⟨"SharedPacketBufferModel", "runAt", "(I)I"⟩, 13), (⟨"SharedPacketBufferModel", "isFree", "(I)Z"⟩, 13), (⟨"SharedPacketBufferModel", "ticking", "(I)I"⟩, 13)]
theorem lw_r3 : ∀ q ∈ lw_privs_3, lw_okq q := List.forall_mem_cons.mpr ⟨lw_p32, List.forall_mem_cons.mpr ⟨lw_p33, List.forall_mem_cons.mpr ⟨lw_p34, List.forall_mem_cons.mpr ⟨lw_p35, List.forall_mem_cons.mpr ⟨lw_p36, List.forall_mem_cons.mpr ⟨lw_p37, List.forall_mem_cons.mpr ⟨lw_p38, List.forall_mem_cons.mpr ⟨lw_p39, List.forall_mem_cons.mpr ⟨lw_p40, List.forall_mem_cons.mpr ⟨lw_p41, List.forall_mem_cons.mpr ⟨lw_p42, List.forall_mem_cons.mpr ⟨lw_p43, List.forall_mem_cons.mpr ⟨lw_p44, List.forall_mem_cons.mpr ⟨lw_p45, List.forall_mem_cons.mpr ⟨lw_p46, List.forall_mem_cons.mpr ⟨lw_p47, fun _ h => absurd h List.not_mem_nil⟩⟩⟩⟩⟩⟩⟩⟩⟩⟩⟩⟩⟩⟩⟩⟩
theorem lw_p48 : lw_okq (⟨"SharedPacketBufferModel", "tick", "()I"⟩, 13) := ⟨⟨by decide +kernel, by decide +kernel⟩, List.mem_of_getElem? (i := 894) (by decide +kernel), List.mem_of_getElem? (i := 1137) (by decide +kernel), List.mem_of_getElem? (i := 1138) (by decide +kernel)⟩
theorem lw_p49 : lw_okq (⟨"SharedPacketBufferModel", "sends", "(I)I"⟩, 13) := ⟨⟨by decide +kernel, by decide +kernel⟩, List.mem_of_getElem? (i := 894) (by decide +kernel), List.mem_of_getElem? (i := 1141) (by decide +kernel), List.mem_of_getElem? (i := 1142) (by decide +kernel)⟩
theorem lw_p50 : lw_okq (⟨"SharedPacketBufferModel", "firstSize", "(I)I"⟩, 13) := ⟨⟨by decide +kernel, by decide +kernel⟩, List.mem_of_getElem? (i := 894) (by decide +kernel), List.mem_of_getElem? (i := 1145) (by decide +kernel), List.mem_of_getElem? (i := 1146) (by decide +kernel)⟩
theorem lw_p51 : lw_okq (⟨"SharedPacketBufferModel", "departs", "(II)V"⟩, 13) := ⟨⟨by decide +kernel, by decide +kernel⟩, List.mem_of_getElem? (i := 894) (by decide +kernel), List.mem_of_getElem? (i := 1149) (by decide +kernel), List.mem_of_getElem? (i := 1150) (by decide +kernel)⟩
theorem lw_p52 : lw_okq (⟨"SharedPacketBufferModel", "flushes", "(I)I"⟩, 13) := ⟨⟨by decide +kernel, by decide +kernel⟩, List.mem_of_getElem? (i := 894) (by decide +kernel), List.mem_of_getElem? (i := 1157) (by decide +kernel), List.mem_of_getElem? (i := 1158) (by decide +kernel)⟩
theorem lw_p53 : lw_okq (⟨"SharedPacketBufferModel", "ofPort", "(II)I"⟩, 13) := ⟨⟨by decide +kernel, by decide +kernel⟩, List.mem_of_getElem? (i := 894) (by decide +kernel), List.mem_of_getElem? (i := 1185) (by decide +kernel), List.mem_of_getElem? (i := 1186) (by decide +kernel)⟩
theorem lw_p54 : lw_okq (⟨"SharedPacketBufferModel", "ofQueue", "(III)I"⟩, 13) := ⟨⟨by decide +kernel, by decide +kernel⟩, List.mem_of_getElem? (i := 894) (by decide +kernel), List.mem_of_getElem? (i := 1197) (by decide +kernel), List.mem_of_getElem? (i := 1198) (by decide +kernel)⟩
theorem lw_p55 : lw_okq (⟨"SharedPacketBufferModel", "slotOf", "(I)I"⟩, 13) := ⟨⟨by decide +kernel, by decide +kernel⟩, List.mem_of_getElem? (i := 894) (by decide +kernel), List.mem_of_getElem? (i := 1265) (by decide +kernel), List.mem_of_getElem? (i := 1266) (by decide +kernel)⟩
theorem lw_p56 : lw_okq (⟨"SharedPacketBufferModel", "ofFragment", "(III)I"⟩, 13) := ⟨⟨by decide +kernel, by decide +kernel⟩, List.mem_of_getElem? (i := 894) (by decide +kernel), List.mem_of_getElem? (i := 1273) (by decide +kernel), List.mem_of_getElem? (i := 1274) (by decide +kernel)⟩
theorem lw_p57 : lw_okq (⟨"SharedPacketBufferModel", "beginOf", "(I)I"⟩, 13) := ⟨⟨by decide +kernel, by decide +kernel⟩, List.mem_of_getElem? (i := 894) (by decide +kernel), List.mem_of_getElem? (i := 1289) (by decide +kernel), List.mem_of_getElem? (i := 1290) (by decide +kernel)⟩
theorem lw_p58 : lw_okq (⟨"SharedPacketBufferModel", "reads", "(Z)V"⟩, 13) := ⟨⟨by decide +kernel, by decide +kernel⟩, List.mem_of_getElem? (i := 894) (by decide +kernel), List.mem_of_getElem? (i := 1329) (by decide +kernel), List.mem_of_getElem? (i := 1330) (by decide +kernel)⟩
theorem lw_p59 : lw_okq (⟨"SharedPacketBufferModel", "order", "()V"⟩, 13) := ⟨⟨by decide +kernel, by decide +kernel⟩, List.mem_of_getElem? (i := 894) (by decide +kernel), List.mem_of_getElem? (i := 1333) (by decide +kernel), List.mem_of_getElem? (i := 1334) (by decide +kernel)⟩
theorem lw_p60 : lw_okq (⟨"SharedPacketBufferModel", "here", "()I"⟩, 13) := ⟨⟨by decide +kernel, by decide +kernel⟩, List.mem_of_getElem? (i := 894) (by decide +kernel), List.mem_of_getElem? (i := 1337) (by decide +kernel), List.mem_of_getElem? (i := 1338) (by decide +kernel)⟩
theorem lw_p61 : lw_okq (⟨"SharedPacketBufferModel", "digit", "(I)I"⟩, 13) := ⟨⟨by decide +kernel, by decide +kernel⟩, List.mem_of_getElem? (i := 894) (by decide +kernel), List.mem_of_getElem? (i := 1341) (by decide +kernel), List.mem_of_getElem? (i := 1342) (by decide +kernel)⟩
theorem lw_p62 : lw_okq (⟨"SharedPacketBufferModel", "isDigit", "()Z"⟩, 13) := ⟨⟨by decide +kernel, by decide +kernel⟩, List.mem_of_getElem? (i := 894) (by decide +kernel), List.mem_of_getElem? (i := 1345) (by decide +kernel), List.mem_of_getElem? (i := 1346) (by decide +kernel)⟩
theorem lw_p63 : lw_okq (⟨"SharedPacketBufferModel", "faults", "(I)V"⟩, 13) := ⟨⟨by decide +kernel, by decide +kernel⟩, List.mem_of_getElem? (i := 894) (by decide +kernel), List.mem_of_getElem? (i := 1349) (by decide +kernel), List.mem_of_getElem? (i := 1350) (by decide +kernel)⟩
def lw_privs_4 : List (MethodName × Nat) := [(⟨"SharedPacketBufferModel", "tick", "()I"⟩, 13), (⟨"SharedPacketBufferModel", "sends", "(I)I"⟩, 13), (⟨"SharedPacketBufferModel", "firstSize", "(I)I"⟩, 13), (⟨"SharedPacketBufferModel", "departs", "(II)V"⟩, 13), (⟨"SharedPacketBufferModel", "flushes", "(I)I"⟩, 13), (⟨"SharedPacketBufferModel", "ofPort", "(II)I"⟩, 13), (⟨"SharedPacketBufferModel", "ofQueue", "(III)I"⟩, 13), (⟨"SharedPacketBufferModel", "slotOf", "(I)I"⟩, 13), (⟨"SharedPacketBufferModel", "ofFragment", "(III)I"⟩, 13), (⟨"SharedPacketBufferModel", "beginOf", "(I)I"⟩, 13), (⟨"SharedPacketBufferModel", "reads", "(Z)V"⟩, 13), (⟨"SharedPacketBufferModel", "order", "()V"⟩, 13), (⟨"SharedPacketBufferModel", "here", "()I"⟩, 13), (⟨"SharedPacketBufferModel", "digit", "(I)I"⟩, 13), (⟨"SharedPacketBufferModel", "isDigit", "()Z"⟩, 13), (⟨"SharedPacketBufferModel", "faults", "(I)V"⟩, 13)]
theorem lw_r4 : ∀ q ∈ lw_privs_4, lw_okq q := List.forall_mem_cons.mpr ⟨lw_p48, List.forall_mem_cons.mpr ⟨lw_p49, List.forall_mem_cons.mpr ⟨lw_p50, List.forall_mem_cons.mpr ⟨lw_p51, List.forall_mem_cons.mpr ⟨lw_p52, List.forall_mem_cons.mpr ⟨lw_p53, List.forall_mem_cons.mpr ⟨lw_p54, List.forall_mem_cons.mpr ⟨lw_p55, List.forall_mem_cons.mpr ⟨lw_p56, List.forall_mem_cons.mpr ⟨lw_p57, List.forall_mem_cons.mpr ⟨lw_p58, List.forall_mem_cons.mpr ⟨lw_p59, List.forall_mem_cons.mpr ⟨lw_p60, List.forall_mem_cons.mpr ⟨lw_p61, List.forall_mem_cons.mpr ⟨lw_p62, List.forall_mem_cons.mpr ⟨lw_p63, fun _ h => absurd h List.not_mem_nil⟩⟩⟩⟩⟩⟩⟩⟩⟩⟩⟩⟩⟩⟩⟩⟩
theorem lw_p64 : lw_okq (⟨"SharedPacketBufferModel", "number", "(II)I"⟩, 13) := ⟨⟨by decide +kernel, by decide +kernel⟩, List.mem_of_getElem? (i := 894) (by decide +kernel), List.mem_of_getElem? (i := 1353) (by decide +kernel), List.mem_of_getElem? (i := 1354) (by decide +kernel)⟩
theorem lw_p65 : lw_okq (⟨"SharedPacketBufferModel", "ends", "()V"⟩, 13) := ⟨⟨by decide +kernel, by decide +kernel⟩, List.mem_of_getElem? (i := 894) (by decide +kernel), List.mem_of_getElem? (i := 1357) (by decide +kernel), List.mem_of_getElem? (i := 1358) (by decide +kernel)⟩
theorem lw_p66 : lw_okq (⟨"SharedPacketBufferModel", "sign", "(I)V"⟩, 13) := ⟨⟨by decide +kernel, by decide +kernel⟩, List.mem_of_getElem? (i := 894) (by decide +kernel), List.mem_of_getElem? (i := 1361) (by decide +kernel), List.mem_of_getElem? (i := 1362) (by decide +kernel)⟩
theorem lw_p67 : lw_okq (⟨"SharedPacketBufferModel", "acts", "()Z"⟩, 13) := ⟨⟨by decide +kernel, by decide +kernel⟩, List.mem_of_getElem? (i := 894) (by decide +kernel), List.mem_of_getElem? (i := 1365) (by decide +kernel), List.mem_of_getElem? (i := 1366) (by decide +kernel)⟩
theorem lw_p68 : lw_okq (⟨"SharedPacketBufferModel", "sumOf", "(JI)J"⟩, 13) := ⟨⟨by decide +kernel, by decide +kernel⟩, List.mem_of_getElem? (i := 894) (by decide +kernel), List.mem_of_getElem? (i := 1387) (by decide +kernel), List.mem_of_getElem? (i := 1388) (by decide +kernel)⟩
theorem lw_p69 : lw_okq (⟨"SharedPacketBufferModel", "sumOfQueue", "(JI)J"⟩, 13) := ⟨⟨by decide +kernel, by decide +kernel⟩, List.mem_of_getElem? (i := 894) (by decide +kernel), List.mem_of_getElem? (i := 1392) (by decide +kernel), List.mem_of_getElem? (i := 1393) (by decide +kernel)⟩
def lw_privs_5 : List (MethodName × Nat) := [(⟨"SharedPacketBufferModel", "number", "(II)I"⟩, 13), (⟨"SharedPacketBufferModel", "ends", "()V"⟩, 13), (⟨"SharedPacketBufferModel", "sign", "(I)V"⟩, 13), (⟨"SharedPacketBufferModel", "acts", "()Z"⟩, 13), (⟨"SharedPacketBufferModel", "sumOf", "(JI)J"⟩, 13), (⟨"SharedPacketBufferModel", "sumOfQueue", "(JI)J"⟩, 13)]
theorem lw_r5 : ∀ q ∈ lw_privs_5, lw_okq q := List.forall_mem_cons.mpr ⟨lw_p64, List.forall_mem_cons.mpr ⟨lw_p65, List.forall_mem_cons.mpr ⟨lw_p66, List.forall_mem_cons.mpr ⟨lw_p67, List.forall_mem_cons.mpr ⟨lw_p68, List.forall_mem_cons.mpr ⟨lw_p69, fun _ h => absurd h List.not_mem_nil⟩⟩⟩⟩⟩⟩
def lw_privs : List (MethodName × Nat) := lw_privs_1 ++ (lw_privs_2 ++ (lw_privs_3 ++ (lw_privs_4 ++ (lw_privs_5))))
def lw_tbl : List Cond := k2_sels lw_privs ++ tables_1
theorem lw_privs_ok : ∀ q ∈ lw_privs, lw_okq q := by
  show ∀ q ∈ lw_privs_1 ++ (lw_privs_2 ++ (lw_privs_3 ++ (lw_privs_4 ++ (lw_privs_5)))), lw_okq q
  exact List.forall_mem_append.mpr ⟨lw_r1, List.forall_mem_append.mpr ⟨lw_r2, List.forall_mem_append.mpr ⟨lw_r3, List.forall_mem_append.mpr ⟨lw_r4, lw_r5⟩⟩⟩⟩
end
section
def RX0 : String := "SharedPacketBuffer$Device"
def TX0 : u_T := fun k => match k with
  | 0 => ("SharedPacketBuffer$Device", "memory", "LSharedPacketBuffer$Memory;", true)
  | 1 => ("SharedPacketBuffer$Device", "ports", "[LSharedPacketBuffer$Port;", true)
  | 2 => ("SharedPacketBuffer$Device", "portCount", "I", false)
  | 3 => ("SharedPacketBuffer$Device", "pushOut", "Z", false)
  | 4 => ("SharedPacketBuffer$Device", "time", "I", false)
  | 5 => ("SharedPacketBuffer$Device", "admitted", "I", false)
  | 6 => ("SharedPacketBuffer$Device", "olderGrant", "I", false)
  | 7 => ("SharedPacketBuffer$Device", "newerGrant", "I", false)
  | 8 => ("SharedPacketBuffer$Device", "lastRefusals", "[I", true)
  | 9 => ("SharedPacketBuffer$Device", "hasRefused", "Z", false)
  | 10 => ("SharedPacketBuffer$Device", "stage", "I", false)
  | 11 => ("SharedPacketBuffer$Device", "refusals", "[I", true)
  | _ => ("SharedPacketBuffer$Device", "victims", "I", false)
def tyX0 : Nat → FieldType := fun k => match k with
  | 0 => .object "SharedPacketBuffer$Memory"
  | 1 => .array (.object "SharedPacketBuffer$Port")
  | 2 => .int
  | 3 => .boolean
  | 4 => .int
  | 5 => .int
  | 6 => .int
  | 7 => .int
  | 8 => .array .int
  | 9 => .boolean
  | 10 => .int
  | 11 => .array .int
  | _ => .int
theorem nmX0 : ∀ a, a < 13 → ∀ b, b < 13 → a ≠ b → (TX0 a).2.1 ≠ (TX0 b).2.1 := by decide +kernel
theorem tyX0_ok : ∀ k, k < 13 → parseFieldDescriptor (TX0 k).2.2.1 = some (tyX0 k) := by decide +kernel
abbrev cX0_init : ByteArray := prog_2_method_1_code
def yX0_init : MethodName := ⟨RX0, "<init>", "()V"⟩
abbrev cX0_startAnew : ByteArray := prog_2_method_2_code
def yX0_startAnew : MethodName := ⟨RX0, "startAnew", "(II)V"⟩
abbrev cX0_copyFrom : ByteArray := prog_2_method_3_code
def yX0_copyFrom : MethodName := ⟨RX0, "copyFrom", "(LSharedPacketBuffer$Device;)V"⟩
abbrev cX0_portAt : ByteArray := prog_2_method_4_code
def yX0_portAt : MethodName := ⟨RX0, "portAt", "(I)LSharedPacketBuffer$Port;"⟩
abbrev cX0_queueAt : ByteArray := prog_2_method_5_code
def yX0_queueAt : MethodName := ⟨RX0, "queueAt", "(II)LSharedPacketBuffer$Queue;"⟩
abbrev cX0_poolSize : ByteArray := prog_2_method_6_code
def yX0_poolSize : MethodName := ⟨RX0, "poolSize", "()I"⟩
abbrev cX0_sharedLeft : ByteArray := prog_2_method_7_code
def yX0_sharedLeft : MethodName := ⟨RX0, "sharedLeft", "()I"⟩
abbrev cX0_giveGrant : ByteArray := prog_2_method_8_code
def yX0_giveGrant : MethodName := ⟨RX0, "giveGrant", "(LSharedPacketBuffer$Port;II)I"⟩
abbrev cX0_rememberGrant : ByteArray := prog_2_method_9_code
def yX0_rememberGrant : MethodName := ⟨RX0, "rememberGrant", "(I)V"⟩
abbrev cX0_endGrant : ByteArray := prog_2_method_10_code
def yX0_endGrant : MethodName := ⟨RX0, "endGrant", "(LSharedPacketBuffer$Port;I)V"⟩
abbrev cX0_judge : ByteArray := prog_2_method_11_code
def yX0_judge : MethodName := ⟨RX0, "judge", "(LSharedPacketBuffer$Port;LSharedPacketBuffer$Queue;I)V"⟩
abbrev cX0_headroomRefusal : ByteArray := prog_2_method_12_code
def yX0_headroomRefusal : MethodName := ⟨RX0, "headroomRefusal", "(LSharedPacketBuffer$Port;LSharedPacketBuffer$Queue;I)I"⟩
abbrev cX0_victimsNeeded : ByteArray := prog_2_method_13_code
def yX0_victimsNeeded : MethodName := ⟨RX0, "victimsNeeded", "(LSharedPacketBuffer$Port;LSharedPacketBuffer$Queue;III)I"⟩
abbrev cX0_receive : ByteArray := prog_2_method_14_code
def yX0_receive : MethodName := ⟨RX0, "receive", "(LSharedPacketBuffer$Port;LSharedPacketBuffer$Queue;I)I"⟩
abbrev cX0_removeVictims : ByteArray := prog_2_method_15_code
def yX0_removeVictims : MethodName := ⟨RX0, "removeVictims", "(LSharedPacketBuffer$Port;I)V"⟩
abbrev cX0_chargeCells : ByteArray := prog_2_method_16_code
def yX0_chargeCells : MethodName := ⟨RX0, "chargeCells", "(LSharedPacketBuffer$Port;LSharedPacketBuffer$Queue;I)V"⟩
abbrev cX0_takeOut : ByteArray := prog_2_method_17_code
def yX0_takeOut : MethodName := ⟨RX0, "takeOut", "(LSharedPacketBuffer$Port;LSharedPacketBuffer$Queue;I)V"⟩
abbrev cX0_discardAll : ByteArray := prog_2_method_18_code
def yX0_discardAll : MethodName := ⟨RX0, "discardAll", "(LSharedPacketBuffer$Port;)I"⟩
abbrev cX0_passTick : ByteArray := prog_2_method_19_code
def yX0_passTick : MethodName := ⟨RX0, "passTick", "()I"⟩
abbrev cX0_send : ByteArray := prog_2_method_20_code
def yX0_send : MethodName := ⟨RX0, "send", "(LSharedPacketBuffer$Port;)I"⟩
abbrev cX0_sendByPriority : ByteArray := prog_2_method_21_code
def yX0_sendByPriority : MethodName := ⟨RX0, "sendByPriority", "(LSharedPacketBuffer$Port;)I"⟩
abbrev cX0_sendInTurns : ByteArray := prog_2_method_22_code
def yX0_sendInTurns : MethodName := ⟨RX0, "sendInTurns", "(LSharedPacketBuffer$Port;)I"⟩
def RX1 : String := "SharedPacketBuffer$Memory"
def TX1 : u_T := fun k => match k with
  | 0 => ("SharedPacketBuffer$Memory", "cells", "I", false)
  | 1 => ("SharedPacketBuffer$Memory", "taken", "[Z", true)
  | 2 => ("SharedPacketBuffer$Memory", "partLength", "[I", true)
  | 3 => ("SharedPacketBuffer$Memory", "nextPart", "[I", true)
  | 4 => ("SharedPacketBuffer$Memory", "numbers", "[I", true)
  | 5 => ("SharedPacketBuffer$Memory", "sizes", "[I", true)
  | 6 => ("SharedPacketBuffer$Memory", "parts", "[I", true)
  | 7 => ("SharedPacketBuffer$Memory", "ahead", "[I", true)
  | _ => ("SharedPacketBuffer$Memory", "behind", "[I", true)
def tyX1 : Nat → FieldType := fun k => match k with
  | 0 => .int
  | 1 => .array .boolean
  | 2 => .array .int
  | 3 => .array .int
  | 4 => .array .int
  | 5 => .array .int
  | 6 => .array .int
  | 7 => .array .int
  | _ => .array .int
theorem nmX1 : ∀ a, a < 9 → ∀ b, b < 9 → a ≠ b → (TX1 a).2.1 ≠ (TX1 b).2.1 := by decide +kernel
theorem tyX1_ok : ∀ k, k < 9 → parseFieldDescriptor (TX1 k).2.2.1 = some (tyX1 k) := by decide +kernel
abbrev cX1_init : ByteArray := prog_3_method_1_code
def yX1_init : MethodName := ⟨RX1, "<init>", "()V"⟩
abbrev cX1_startAnew : ByteArray := prog_3_method_2_code
def yX1_startAnew : MethodName := ⟨RX1, "startAnew", "(I)V"⟩
abbrev cX1_copyFrom : ByteArray := prog_3_method_3_code
def yX1_copyFrom : MethodName := ⟨RX1, "copyFrom", "(LSharedPacketBuffer$Memory;)V"⟩
abbrev cX1_isCell : ByteArray := prog_3_method_4_code
def yX1_isCell : MethodName := ⟨RX1, "isCell", "(I)Z"⟩
abbrev cX1_numberOf : ByteArray := prog_3_method_5_code
def yX1_numberOf : MethodName := ⟨RX1, "numberOf", "(I)I"⟩
abbrev cX1_sizeOf : ByteArray := prog_3_method_6_code
def yX1_sizeOf : MethodName := ⟨RX1, "sizeOf", "(I)I"⟩
abbrev cX1_partsOf : ByteArray := prog_3_method_7_code
def yX1_partsOf : MethodName := ⟨RX1, "partsOf", "(I)I"⟩
abbrev cX1_packetAhead : ByteArray := prog_3_method_8_code
def yX1_packetAhead : MethodName := ⟨RX1, "packetAhead", "(I)I"⟩
abbrev cX1_packetBehind : ByteArray := prog_3_method_9_code
def yX1_packetBehind : MethodName := ⟨RX1, "packetBehind", "(I)I"⟩
abbrev cX1_partBehind : ByteArray := prog_3_method_10_code
def yX1_partBehind : MethodName := ⟨RX1, "partBehind", "(I)I"⟩
abbrev cX1_find : ByteArray := prog_3_method_11_code
def yX1_find : MethodName := ⟨RX1, "find", "(I)I"⟩
abbrev cX1_partStart : ByteArray := prog_3_method_12_code
def yX1_partStart : MethodName := ⟨RX1, "partStart", "(II)I"⟩
abbrev cX1_startsRun : ByteArray := prog_3_method_13_code
def yX1_startsRun : MethodName := ⟨RX1, "startsRun", "(I)Z"⟩
abbrev cX1_freeLength : ByteArray := prog_3_method_14_code
def yX1_freeLength : MethodName := ⟨RX1, "freeLength", "(I)I"⟩
abbrev cX1_countRuns : ByteArray := prog_3_method_15_code
def yX1_countRuns : MethodName := ⟨RX1, "countRuns", "()I"⟩
abbrev cX1_findRun : ByteArray := prog_3_method_16_code
def yX1_findRun : MethodName := ⟨RX1, "findRun", "(I)I"⟩
abbrev cX1_place : ByteArray := prog_3_method_17_code
def yX1_place : MethodName := ⟨RX1, "place", "(II)I"⟩
abbrev cX1_chooseRun : ByteArray := prog_3_method_18_code
def yX1_chooseRun : MethodName := ⟨RX1, "chooseRun", "(I)I"⟩
abbrev cX1_suitsBetter : ByteArray := prog_3_method_19_code
def yX1_suitsBetter : MethodName := ⟨RX1, "suitsBetter", "(III)Z"⟩
abbrev cX1_occupy : ByteArray := prog_3_method_20_code
def yX1_occupy : MethodName := ⟨RX1, "occupy", "(II)V"⟩
abbrev cX1_release : ByteArray := prog_3_method_21_code
def yX1_release : MethodName := ⟨RX1, "release", "(I)V"⟩
abbrev cX1_joinQueue : ByteArray := prog_3_method_22_code
def yX1_joinQueue : MethodName := ⟨RX1, "joinQueue", "(LSharedPacketBuffer$Queue;I)V"⟩
abbrev cX1_leaveQueue : ByteArray := prog_3_method_23_code
def yX1_leaveQueue : MethodName := ⟨RX1, "leaveQueue", "(LSharedPacketBuffer$Queue;I)V"⟩
def RX2 : String := "SharedPacketBuffer$Port"
def TX2 : u_T := fun k => match k with
  | 0 => ("SharedPacketBuffer$Port", "queues", "[LSharedPacketBuffer$Queue;", true)
  | 1 => ("SharedPacketBuffer$Port", "losses", "[I", true)
  | 2 => ("SharedPacketBuffer$Port", "reserve", "I", false)
  | 3 => ("SharedPacketBuffer$Port", "headroom", "I", false)
  | 4 => ("SharedPacketBuffer$Port", "grant", "I", false)
  | 5 => ("SharedPacketBuffer$Port", "roundRobin", "Z", false)
  | 6 => ("SharedPacketBuffer$Port", "rate", "I", false)
  | 7 => ("SharedPacketBuffer$Port", "credit", "I", false)
  | 8 => ("SharedPacketBuffer$Port", "turn", "I", false)
  | 9 => ("SharedPacketBuffer$Port", "quantumDue", "Z", false)
  | 10 => ("SharedPacketBuffer$Port", "lostCells", "I", false)
  | _ => ("SharedPacketBuffer$Port", "departed", "I", false)
def tyX2 : Nat → FieldType := fun k => match k with
  | 0 => .array (.object "SharedPacketBuffer$Queue")
  | 1 => .array .int
  | 2 => .int
  | 3 => .int
  | 4 => .int
  | 5 => .boolean
  | 6 => .int
  | 7 => .int
  | 8 => .int
  | 9 => .boolean
  | 10 => .int
  | _ => .int
theorem nmX2 : ∀ a, a < 12 → ∀ b, b < 12 → a ≠ b → (TX2 a).2.1 ≠ (TX2 b).2.1 := by decide +kernel
theorem tyX2_ok : ∀ k, k < 12 → parseFieldDescriptor (TX2 k).2.2.1 = some (tyX2 k) := by decide +kernel
abbrev cX2_init : ByteArray := prog_4_method_1_code
def yX2_init : MethodName := ⟨RX2, "<init>", "()V"⟩
abbrev cX2_startAnew : ByteArray := prog_4_method_2_code
def yX2_startAnew : MethodName := ⟨RX2, "startAnew", "()V"⟩
abbrev cX2_copyFrom : ByteArray := prog_4_method_3_code
def yX2_copyFrom : MethodName := ⟨RX2, "copyFrom", "(LSharedPacketBuffer$Port;)V"⟩
abbrev cX2_guaranteedInUse : ByteArray := prog_4_method_4_code
def yX2_guaranteedInUse : MethodName := ⟨RX2, "guaranteedInUse", "()I"⟩
abbrev cX2_sharedInUse : ByteArray := prog_4_method_5_code
def yX2_sharedInUse : MethodName := ⟨RX2, "sharedInUse", "()I"⟩
abbrev cX2_headroomInUse : ByteArray := prog_4_method_6_code
def yX2_headroomInUse : MethodName := ⟨RX2, "headroomInUse", "()I"⟩
abbrev cX2_guaranteeLeft : ByteArray := prog_4_method_7_code
def yX2_guaranteeLeft : MethodName := ⟨RX2, "guaranteeLeft", "()I"⟩
abbrev cX2_isIdle : ByteArray := prog_4_method_8_code
def yX2_isIdle : MethodName := ⟨RX2, "isIdle", "()Z"⟩
abbrev cX2_highestBusyQueue : ByteArray := prog_4_method_9_code
def yX2_highestBusyQueue : MethodName := ⟨RX2, "highestBusyQueue", "()LSharedPacketBuffer$Queue;"⟩
abbrev cX2_queueAtTurn : ByteArray := prog_4_method_10_code
def yX2_queueAtTurn : MethodName := ⟨RX2, "queueAtTurn", "()LSharedPacketBuffer$Queue;"⟩
abbrev cX2_passTurn : ByteArray := prog_4_method_11_code
def yX2_passTurn : MethodName := ⟨RX2, "passTurn", "()V"⟩
abbrev cX2_restartSending : ByteArray := prog_4_method_12_code
def yX2_restartSending : MethodName := ⟨RX2, "restartSending", "()V"⟩
abbrev cX2_shareBeyondGuarantee : ByteArray := prog_4_method_13_code
def yX2_shareBeyondGuarantee : MethodName := ⟨RX2, "shareBeyondGuarantee", "()V"⟩
abbrev cX2_countLoss : ByteArray := prog_4_method_14_code
def yX2_countLoss : MethodName := ⟨RX2, "countLoss", "(II)V"⟩
def RX3 : String := "SharedPacketBuffer$Queue"
def TX3 : u_T := fun k => match k with
  | 0 => ("SharedPacketBuffer$Queue", "priority", "I", true)
  | 1 => ("SharedPacketBuffer$Queue", "alpha", "I", false)
  | 2 => ("SharedPacketBuffer$Queue", "capacity", "I", false)
  | 3 => ("SharedPacketBuffer$Queue", "refill", "I", false)
  | 4 => ("SharedPacketBuffer$Queue", "tank", "I", false)
  | 5 => ("SharedPacketBuffer$Queue", "quantum", "I", false)
  | 6 => ("SharedPacketBuffer$Queue", "deficit", "I", false)
  | 7 => ("SharedPacketBuffer$Queue", "lossless", "Z", false)
  | 8 => ("SharedPacketBuffer$Queue", "paused", "Z", false)
  | 9 => ("SharedPacketBuffer$Queue", "pauses", "I", false)
  | 10 => ("SharedPacketBuffer$Queue", "guaranteed", "I", false)
  | 11 => ("SharedPacketBuffer$Queue", "shared", "I", false)
  | 12 => ("SharedPacketBuffer$Queue", "inHeadroom", "I", false)
  | 13 => ("SharedPacketBuffer$Queue", "first", "I", false)
  | 14 => ("SharedPacketBuffer$Queue", "last", "I", false)
  | _ => ("SharedPacketBuffer$Queue", "length", "I", false)
def tyX3 : Nat → FieldType := fun k => match k with
  | 0 => .int
  | 1 => .int
  | 2 => .int
  | 3 => .int
  | 4 => .int
  | 5 => .int
  | 6 => .int
  | 7 => .boolean
  | 8 => .boolean
  | 9 => .int
  | 10 => .int
  | 11 => .int
  | 12 => .int
  | 13 => .int
  | 14 => .int
  | _ => .int
theorem nmX3 : ∀ a, a < 16 → ∀ b, b < 16 → a ≠ b → (TX3 a).2.1 ≠ (TX3 b).2.1 := by decide +kernel
theorem tyX3_ok : ∀ k, k < 16 → parseFieldDescriptor (TX3 k).2.2.1 = some (tyX3 k) := by decide +kernel
abbrev cX3_init : ByteArray := prog_5_method_1_code
def yX3_init : MethodName := ⟨RX3, "<init>", "(I)V"⟩
abbrev cX3_startAnew : ByteArray := prog_5_method_2_code
def yX3_startAnew : MethodName := ⟨RX3, "startAnew", "()V"⟩
abbrev cX3_copyFrom : ByteArray := prog_5_method_3_code
def yX3_copyFrom : MethodName := ⟨RX3, "copyFrom", "(LSharedPacketBuffer$Queue;)V"⟩
abbrev cX3_limitWith : ByteArray := prog_5_method_4_code
def yX3_limitWith : MethodName := ⟨RX3, "limitWith", "(I)I"⟩
abbrev cX3_poolRefusal : ByteArray := prog_5_method_5_code
def yX3_poolRefusal : MethodName := ⟨RX3, "poolRefusal", "(II)I"⟩
abbrev cX3_addShared : ByteArray := prog_5_method_6_code
def yX3_addShared : MethodName := ⟨RX3, "addShared", "(II)V"⟩
abbrev cX3_pause : ByteArray := prog_5_method_7_code
def yX3_pause : MethodName := ⟨RX3, "pause", "()V"⟩
abbrev cX3_giveBack : ByteArray := prog_5_method_8_code
def yX3_giveBack : MethodName := ⟨RX3, "giveBack", "(I)V"⟩
def RX4 : String := "SharedPacketBuffer$Text"
def TX4 : u_T := fun k => match k with
  | 0 => ("SharedPacketBuffer$Text", "letters", "[I", true)
  | 1 => ("SharedPacketBuffer$Text", "length", "I", false)
  | 2 => ("SharedPacketBuffer$Text", "at", "I", false)
  | 3 => ("SharedPacketBuffer$Text", "fault", "I", false)
  | 4 => ("SharedPacketBuffer$Text", "kind", "I", false)
  | 5 => ("SharedPacketBuffer$Text", "port", "I", false)
  | 6 => ("SharedPacketBuffer$Text", "priority", "I", false)
  | 7 => ("SharedPacketBuffer$Text", "number", "I", false)
  | _ => ("SharedPacketBuffer$Text", "count", "I", false)
def tyX4 : Nat → FieldType := fun k => match k with
  | 0 => .array .int
  | 1 => .int
  | 2 => .int
  | 3 => .int
  | 4 => .int
  | 5 => .int
  | 6 => .int
  | 7 => .int
  | _ => .int
theorem nmX4 : ∀ a, a < 9 → ∀ b, b < 9 → a ≠ b → (TX4 a).2.1 ≠ (TX4 b).2.1 := by decide +kernel
theorem tyX4_ok : ∀ k, k < 9 → parseFieldDescriptor (TX4 k).2.2.1 = some (tyX4 k) := by decide +kernel
abbrev cX4_init : ByteArray := prog_6_method_1_code
def yX4_init : MethodName := ⟨RX4, "<init>", "()V"⟩
abbrev cX4_rewind : ByteArray := prog_6_method_2_code
def yX4_rewind : MethodName := ⟨RX4, "rewind", "()V"⟩
abbrev cX4_hasMore : ByteArray := prog_6_method_3_code
def yX4_hasMore : MethodName := ⟨RX4, "hasMore", "()Z"⟩
abbrev cX4_findFault : ByteArray := prog_6_method_4_code
def yX4_findFault : MethodName := ⟨RX4, "findFault", "(I)I"⟩
abbrev cX4_readOrder : ByteArray := prog_6_method_5_code
def yX4_readOrder : MethodName := ⟨RX4, "readOrder", "(I)V"⟩
abbrev cX4_readCount : ByteArray := prog_6_method_6_code
def yX4_readCount : MethodName := ⟨RX4, "readCount", "()V"⟩
abbrev cX4_letterHere : ByteArray := prog_6_method_7_code
def yX4_letterHere : MethodName := ⟨RX4, "letterHere", "()I"⟩
abbrev cX4_expect : ByteArray := prog_6_method_8_code
def yX4_expect : MethodName := ⟨RX4, "expect", "(I)V"⟩
abbrev cX4_readDigit : ByteArray := prog_6_method_9_code
def yX4_readDigit : MethodName := ⟨RX4, "readDigit", "(I)I"⟩
abbrev cX4_readNumber : ByteArray := prog_6_method_10_code
def yX4_readNumber : MethodName := ⟨RX4, "readNumber", "(II)I"⟩
def RX5 : String := "SharedPacketBuffer"
def TX5 : u_T := fun k => match k with
  | 0 => ("SharedPacketBuffer", "device", "LSharedPacketBuffer$Device;", true)
  | 1 => ("SharedPacketBuffer", "trial", "LSharedPacketBuffer$Device;", true)
  | 2 => ("SharedPacketBuffer", "slots", "[LSharedPacketBuffer$Device;", true)
  | 3 => ("SharedPacketBuffer", "saved", "[Z", true)
  | _ => ("SharedPacketBuffer", "text", "LSharedPacketBuffer$Text;", true)
def tyX5 : Nat → FieldType := fun k => match k with
  | 0 => .object "SharedPacketBuffer$Device"
  | 1 => .object "SharedPacketBuffer$Device"
  | 2 => .array (.object "SharedPacketBuffer$Device")
  | 3 => .array .boolean
  | _ => .object "SharedPacketBuffer$Text"
theorem nmX5 : ∀ a, a < 5 → ∀ b, b < 5 → a ≠ b → (TX5 a).2.1 ≠ (TX5 b).2.1 := by decide +kernel
theorem tyX5_ok : ∀ k, k < 5 → parseFieldDescriptor (TX5 k).2.2.1 = some (tyX5 k) := by decide +kernel
abbrev cX5_init : ByteArray := prog_1_method_1_code
def yX5_init : MethodName := ⟨RX5, "<init>", "()V"⟩
abbrev cX5_reset : ByteArray := prog_1_method_2_code
def yX5_reset : MethodName := ⟨RX5, "reset", "(II)I"⟩
abbrev cX5_setReserve : ByteArray := prog_1_method_3_code
def yX5_setReserve : MethodName := ⟨RX5, "setReserve", "(II)I"⟩
abbrev cX5_setHeadroom : ByteArray := prog_1_method_4_code
def yX5_setHeadroom : MethodName := ⟨RX5, "setHeadroom", "(II)I"⟩
abbrev cX5_setAlpha : ByteArray := prog_1_method_5_code
def yX5_setAlpha : MethodName := ⟨RX5, "setAlpha", "(III)I"⟩
abbrev cX5_setBurst : ByteArray := prog_1_method_6_code
def yX5_setBurst : MethodName := ⟨RX5, "setBurst", "(IIII)I"⟩
abbrev cX5_setLossless : ByteArray := prog_1_method_7_code
def yX5_setLossless : MethodName := ⟨RX5, "setLossless", "(IIZ)I"⟩
abbrev cX5_setScheduler : ByteArray := prog_1_method_8_code
def yX5_setScheduler : MethodName := ⟨RX5, "setScheduler", "(IZI)I"⟩
abbrev cX5_setQuantum : ByteArray := prog_1_method_9_code
def yX5_setQuantum : MethodName := ⟨RX5, "setQuantum", "(III)I"⟩
abbrev cX5_setPushOut : ByteArray := prog_1_method_10_code
def yX5_setPushOut : MethodName := ⟨RX5, "setPushOut", "(Z)I"⟩
abbrev cX5_grant : ByteArray := prog_1_method_11_code
def yX5_grant : MethodName := ⟨RX5, "grant", "(II)I"⟩
abbrev cX5_withdraw : ByteArray := prog_1_method_12_code
def yX5_withdraw : MethodName := ⟨RX5, "withdraw", "(I)I"⟩
abbrev cX5_arrive : ByteArray := prog_1_method_13_code
def yX5_arrive : MethodName := ⟨RX5, "arrive", "(III)I"⟩
abbrev cX5_ticks : ByteArray := prog_1_method_14_code
def yX5_ticks : MethodName := ⟨RX5, "ticks", "(I)I"⟩
abbrev cX5_flush : ByteArray := prog_1_method_15_code
def yX5_flush : MethodName := ⟨RX5, "flush", "(I)I"⟩
abbrev cX5_traffic : ByteArray := prog_1_method_16_code
def yX5_traffic : MethodName := ⟨RX5, "traffic", "(III)I"⟩
abbrev cX5_freeShared : ByteArray := prog_1_method_17_code
def yX5_freeShared : MethodName := ⟨RX5, "freeShared", "()I"⟩
abbrev cX5_sharedPool : ByteArray := prog_1_method_18_code
def yX5_sharedPool : MethodName := ⟨RX5, "sharedPool", "()I"⟩
abbrev cX5_freeGuarantee : ByteArray := prog_1_method_19_code
def yX5_freeGuarantee : MethodName := ⟨RX5, "freeGuarantee", "(I)I"⟩
abbrev cX5_grantOf : ByteArray := prog_1_method_20_code
def yX5_grantOf : MethodName := ⟨RX5, "grantOf", "(I)I"⟩
abbrev cX5_threshold : ByteArray := prog_1_method_21_code
def yX5_threshold : MethodName := ⟨RX5, "threshold", "(II)I"⟩
abbrev cX5_guaranteedCells : ByteArray := prog_1_method_22_code
def yX5_guaranteedCells : MethodName := ⟨RX5, "guaranteedCells", "(II)I"⟩
abbrev cX5_sharedCells : ByteArray := prog_1_method_23_code
def yX5_sharedCells : MethodName := ⟨RX5, "sharedCells", "(II)I"⟩
abbrev cX5_headroomCells : ByteArray := prog_1_method_24_code
def yX5_headroomCells : MethodName := ⟨RX5, "headroomCells", "(II)I"⟩
abbrev cX5_burstTank : ByteArray := prog_1_method_25_code
def yX5_burstTank : MethodName := ⟨RX5, "burstTank", "(II)I"⟩
abbrev cX5_isPaused : ByteArray := prog_1_method_26_code
def yX5_isPaused : MethodName := ⟨RX5, "isPaused", "(II)I"⟩
abbrev cX5_pauses : ByteArray := prog_1_method_27_code
def yX5_pauses : MethodName := ⟨RX5, "pauses", "(II)I"⟩
abbrev cX5_credit : ByteArray := prog_1_method_28_code
def yX5_credit : MethodName := ⟨RX5, "credit", "(I)I"⟩
abbrev cX5_deficit : ByteArray := prog_1_method_29_code
def yX5_deficit : MethodName := ⟨RX5, "deficit", "(II)I"⟩
abbrev cX5_losses : ByteArray := prog_1_method_30_code
def yX5_losses : MethodName := ⟨RX5, "losses", "(II)I"⟩
abbrev cX5_lostCells : ByteArray := prog_1_method_31_code
def yX5_lostCells : MethodName := ⟨RX5, "lostCells", "(I)I"⟩
abbrev cX5_lossCause : ByteArray := prog_1_method_32_code
def yX5_lossCause : MethodName := ⟨RX5, "lossCause", "(I)I"⟩
abbrev cX5_departed : ByteArray := prog_1_method_33_code
def yX5_departed : MethodName := ⟨RX5, "departed", "(I)I"⟩
abbrev cX5_admitted : ByteArray := prog_1_method_34_code
def yX5_admitted : MethodName := ⟨RX5, "admitted", "()I"⟩
abbrev cX5_time : ByteArray := prog_1_method_35_code
def yX5_time : MethodName := ⟨RX5, "time", "()I"⟩
abbrev cX5_queueLength : ByteArray := prog_1_method_36_code
def yX5_queueLength : MethodName := ⟨RX5, "queueLength", "(II)I"⟩
abbrev cX5_packetAt : ByteArray := prog_1_method_37_code
def yX5_packetAt : MethodName := ⟨RX5, "packetAt", "(III)I"⟩
abbrev cX5_fragments : ByteArray := prog_1_method_38_code
def yX5_fragments : MethodName := ⟨RX5, "fragments", "(I)I"⟩
abbrev cX5_fragmentStart : ByteArray := prog_1_method_39_code
def yX5_fragmentStart : MethodName := ⟨RX5, "fragmentStart", "(II)I"⟩
abbrev cX5_fragmentLength : ByteArray := prog_1_method_40_code
def yX5_fragmentLength : MethodName := ⟨RX5, "fragmentLength", "(II)I"⟩
abbrev cX5_freeRuns : ByteArray := prog_1_method_41_code
def yX5_freeRuns : MethodName := ⟨RX5, "freeRuns", "()I"⟩
abbrev cX5_runStart : ByteArray := prog_1_method_42_code
def yX5_runStart : MethodName := ⟨RX5, "runStart", "(I)I"⟩
abbrev cX5_runLength : ByteArray := prog_1_method_43_code
def yX5_runLength : MethodName := ⟨RX5, "runLength", "(I)I"⟩
abbrev cX5_stageFor : ByteArray := prog_1_method_44_code
def yX5_stageFor : MethodName := ⟨RX5, "stageFor", "(III)I"⟩
abbrev cX5_largestAdmissible : ByteArray := prog_1_method_45_code
def yX5_largestAdmissible : MethodName := ⟨RX5, "largestAdmissible", "(II)I"⟩
abbrev cX5_burstCapacity : ByteArray := prog_1_method_46_code
def yX5_burstCapacity : MethodName := ⟨RX5, "burstCapacity", "(III)I"⟩
abbrev cX5_drainTicks : ByteArray := prog_1_method_47_code
def yX5_drainTicks : MethodName := ⟨RX5, "drainTicks", "(I)I"⟩
abbrev cX5_equilibrium : ByteArray := prog_1_method_48_code
def yX5_equilibrium : MethodName := ⟨RX5, "equilibrium", "(IZ)I"⟩
abbrev cX5_append : ByteArray := prog_1_method_49_code
def yX5_append : MethodName := ⟨RX5, "append", "(I)I"⟩
abbrev cX5_clearText : ByteArray := prog_1_method_50_code
def yX5_clearText : MethodName := ⟨RX5, "clearText", "()I"⟩
abbrev cX5_faultPosition : ByteArray := prog_1_method_51_code
def yX5_faultPosition : MethodName := ⟨RX5, "faultPosition", "()I"⟩
abbrev cX5_run : ByteArray := prog_1_method_52_code
def yX5_run : MethodName := ⟨RX5, "run", "()I"⟩
abbrev cX5_save : ByteArray := prog_1_method_53_code
def yX5_save : MethodName := ⟨RX5, "save", "(I)I"⟩
abbrev cX5_restore : ByteArray := prog_1_method_54_code
def yX5_restore : MethodName := ⟨RX5, "restore", "(I)I"⟩
abbrev cX5_checksum : ByteArray := prog_1_method_55_code
def yX5_checksum : MethodName := ⟨RX5, "checksum", "()J"⟩
abbrev cX5_mixPort : ByteArray := prog_1_method_56_code
def yX5_mixPort : MethodName := ⟨RX5, "mixPort", "(JLSharedPacketBuffer$Port;)J"⟩
abbrev cX5_mixPackets : ByteArray := prog_1_method_57_code
def yX5_mixPackets : MethodName := ⟨RX5, "mixPackets", "(JLSharedPacketBuffer$Queue;)J"⟩
abbrev cX5_lossOfArrivals : ByteArray := prog_1_method_58_code
def yX5_lossOfArrivals : MethodName := ⟨RX5, "lossOfArrivals", "(LSharedPacketBuffer$Port;LSharedPacketBuffer$Queue;II)I"⟩
abbrev cX5_isOutside : ByteArray := prog_1_method_59_code
def yX5_isOutside : MethodName := ⟨RX5, "isOutside", "(III)Z"⟩
abbrev cX5_asNumber : ByteArray := prog_1_method_60_code
def yX5_asNumber : MethodName := ⟨RX5, "asNumber", "(Z)I"⟩
abbrev cX5_greatestCommonDivisor : ByteArray := prog_1_method_61_code
def yX5_greatestCommonDivisor : MethodName := ⟨RX5, "greatestCommonDivisor", "(II)I"⟩
def RX6 : String := "SharedPacketBufferModel"
def TX6 : u_T := fun k => match k with
  | 0 => ("SharedPacketBufferModel", "v", "[I", true)
  | 1 => ("SharedPacketBufferModel", "spare", "[I", true)
  | 2 => ("SharedPacketBufferModel", "kept", "[I", true)
  | 3 => ("SharedPacketBufferModel", "isKept", "[Z", true)
  | 4 => ("SharedPacketBufferModel", "text", "[I", true)
  | 5 => ("SharedPacketBufferModel", "length", "I", false)
  | 6 => ("SharedPacketBufferModel", "codes", "[I", true)
  | 7 => ("SharedPacketBufferModel", "victims", "I", false)
  | 8 => ("SharedPacketBufferModel", "before", "[I", true)
  | 9 => ("SharedPacketBufferModel", "at", "I", false)
  | 10 => ("SharedPacketBufferModel", "fault", "I", false)
  | 11 => ("SharedPacketBufferModel", "does", "Z", false)
  | _ => ("SharedPacketBufferModel", "lost", "I", false)
def tyX6 : Nat → FieldType := fun k => match k with
  | 0 => .array .int
  | 1 => .array .int
  | 2 => .array .int
  | 3 => .array .boolean
  | 4 => .array .int
  | 5 => .int
  | 6 => .array .int
  | 7 => .int
  | 8 => .array .int
  | 9 => .int
  | 10 => .int
  | 11 => .boolean
  | _ => .int
theorem nmX6 : ∀ a, a < 13 → ∀ b, b < 13 → a ≠ b → (TX6 a).2.1 ≠ (TX6 b).2.1 := by decide +kernel
theorem tyX6_ok : ∀ k, k < 13 → parseFieldDescriptor (TX6 k).2.2.1 = some (tyX6 k) := by decide +kernel
abbrev cX6_init : ByteArray := prog_8_method_1_code
def yX6_init : MethodName := ⟨RX6, "<init>", "()V"⟩
abbrev cX6_in : ByteArray := prog_8_method_3_code
def yX6_in : MethodName := ⟨RX6, "in", "(III)Z"⟩
abbrev cX6_least : ByteArray := prog_8_method_4_code
def yX6_least : MethodName := ⟨RX6, "least", "(II)I"⟩
abbrev cX6_most : ByteArray := prog_8_method_5_code
def yX6_most : MethodName := ⟨RX6, "most", "(II)I"⟩
abbrev cX6_port : ByteArray := prog_8_method_6_code
def yX6_port : MethodName := ⟨RX6, "port", "(II)I"⟩
abbrev cX6_queue : ByteArray := prog_8_method_7_code
def yX6_queue : MethodName := ⟨RX6, "queue", "(II)I"⟩
abbrev cX6_entry : ByteArray := prog_8_method_8_code
def yX6_entry : MethodName := ⟨RX6, "entry", "(II)I"⟩
abbrev cX6_packet : ByteArray := prog_8_method_9_code
def yX6_packet : MethodName := ⟨RX6, "packet", "(II)I"⟩
abbrev cX6_isPort : ByteArray := prog_8_method_10_code
def yX6_isPort : MethodName := ⟨RX6, "isPort", "(I)Z"⟩
abbrev cX6_isQueue : ByteArray := prog_8_method_11_code
def yX6_isQueue : MethodName := ⟨RX6, "isQueue", "(II)Z"⟩
abbrev cX6_starts : ByteArray := prog_8_method_12_code
def yX6_starts : MethodName := ⟨RX6, "starts", "(II)V"⟩
abbrev cX6_sum : ByteArray := prog_8_method_13_code
def yX6_sum : MethodName := ⟨RX6, "sum", "(II)I"⟩
abbrev cX6_guarantee : ByteArray := prog_8_method_14_code
def yX6_guarantee : MethodName := ⟨RX6, "guarantee", "(I)I"⟩
abbrev cX6_pool : ByteArray := prog_8_method_15_code
def yX6_pool : MethodName := ⟨RX6, "pool", "()I"⟩
abbrev cX6_free : ByteArray := prog_8_method_16_code
def yX6_free : MethodName := ⟨RX6, "free", "()I"⟩
abbrev cX6_freeOf : ByteArray := prog_8_method_17_code
def yX6_freeOf : MethodName := ⟨RX6, "freeOf", "(I)I"⟩
abbrev cX6_limit : ByteArray := prog_8_method_18_code
def yX6_limit : MethodName := ⟨RX6, "limit", "(I)I"⟩
abbrev cX6_converts : ByteArray := prog_8_method_19_code
def yX6_converts : MethodName := ⟨RX6, "converts", "(I)V"⟩
abbrev cX6_reset : ByteArray := prog_8_method_20_code
def yX6_reset : MethodName := ⟨RX6, "reset", "(II)I"⟩
abbrev cX6_setReserve : ByteArray := prog_8_method_21_code
def yX6_setReserve : MethodName := ⟨RX6, "setReserve", "(II)I"⟩
abbrev cX6_setHeadroom : ByteArray := prog_8_method_22_code
def yX6_setHeadroom : MethodName := ⟨RX6, "setHeadroom", "(II)I"⟩
abbrev cX6_set : ByteArray := prog_8_method_23_code
def yX6_set : MethodName := ⟨RX6, "set", "(IIIIII)I"⟩
abbrev cX6_setAlpha : ByteArray := prog_8_method_24_code
def yX6_setAlpha : MethodName := ⟨RX6, "setAlpha", "(III)I"⟩
abbrev cX6_setBurst : ByteArray := prog_8_method_25_code
def yX6_setBurst : MethodName := ⟨RX6, "setBurst", "(IIII)I"⟩
abbrev cX6_setLossless : ByteArray := prog_8_method_26_code
def yX6_setLossless : MethodName := ⟨RX6, "setLossless", "(IIZ)I"⟩
abbrev cX6_setScheduler : ByteArray := prog_8_method_27_code
def yX6_setScheduler : MethodName := ⟨RX6, "setScheduler", "(IZI)I"⟩
abbrev cX6_setQuantum : ByteArray := prog_8_method_28_code
def yX6_setQuantum : MethodName := ⟨RX6, "setQuantum", "(III)I"⟩
abbrev cX6_setPushOut : ByteArray := prog_8_method_29_code
def yX6_setPushOut : MethodName := ⟨RX6, "setPushOut", "(Z)I"⟩
abbrev cX6_drops : ByteArray := prog_8_method_30_code
def yX6_drops : MethodName := ⟨RX6, "drops", "(I)V"⟩
abbrev cX6_grant : ByteArray := prog_8_method_31_code
def yX6_grant : MethodName := ⟨RX6, "grant", "(II)I"⟩
abbrev cX6_withdraw : ByteArray := prog_8_method_32_code
def yX6_withdraw : MethodName := ⟨RX6, "withdraw", "(I)I"⟩
abbrev cX6_keeps : ByteArray := prog_8_method_33_code
def yX6_keeps : MethodName := ⟨RX6, "keeps", "()V"⟩
abbrev cX6_brings : ByteArray := prog_8_method_34_code
def yX6_brings : MethodName := ⟨RX6, "brings", "()V"⟩
abbrev cX6_slotOf : ByteArray := prog_8_method_35_code
def yX6_slotOf : MethodName := ⟨RX6, "slotOf", "(I)I"⟩
abbrev cX6_newSlot : ByteArray := prog_8_method_36_code
def yX6_newSlot : MethodName := ⟨RX6, "newSlot", "()I"⟩
abbrev cX6_isFree : ByteArray := prog_8_method_37_code
def yX6_isFree : MethodName := ⟨RX6, "isFree", "(I)Z"⟩
abbrev cX6_runAt : ByteArray := prog_8_method_38_code
def yX6_runAt : MethodName := ⟨RX6, "runAt", "(I)I"⟩
abbrev cX6_places : ByteArray := prog_8_method_39_code
def yX6_places : MethodName := ⟨RX6, "places", "(I)V"⟩
abbrev cX6_enters : ByteArray := prog_8_method_40_code
def yX6_enters : MethodName := ⟨RX6, "enters", "(II)V"⟩
abbrev cX6_hasPackets : ByteArray := prog_8_method_41_code
def yX6_hasPackets : MethodName := ⟨RX6, "hasPackets", "(I)Z"⟩
abbrev cX6_leaves : ByteArray := prog_8_method_42_code
def yX6_leaves : MethodName := ⟨RX6, "leaves", "(II)I"⟩
abbrev cX6_settles : ByteArray := prog_8_method_43_code
def yX6_settles : MethodName := ⟨RX6, "settles", "(I)V"⟩
abbrev cX6_loses : ByteArray := prog_8_method_44_code
def yX6_loses : MethodName := ⟨RX6, "loses", "(III)V"⟩
abbrev cX6_early : ByteArray := prog_8_method_45_code
def yX6_early : MethodName := ⟨RX6, "early", "(II)I"⟩
abbrev cX6_lessens : ByteArray := prog_8_method_46_code
def yX6_lessens : MethodName := ⟨RX6, "lessens", "(II)V"⟩
abbrev cX6_decides : ByteArray := prog_8_method_47_code
def yX6_decides : MethodName := ⟨RX6, "decides", "(II)I"⟩
abbrev cX6_pushes : ByteArray := prog_8_method_48_code
def yX6_pushes : MethodName := ⟨RX6, "pushes", "(II)Z"⟩
abbrev cX6_counts : ByteArray := prog_8_method_49_code
def yX6_counts : MethodName := ⟨RX6, "counts", "(III)V"⟩
abbrev cX6_removesVictims : ByteArray := prog_8_method_50_code
def yX6_removesVictims : MethodName := ⟨RX6, "removesVictims", "(I)V"⟩
abbrev cX6_arrives : ByteArray := prog_8_method_51_code
def yX6_arrives : MethodName := ⟨RX6, "arrives", "(II)I"⟩
abbrev cX6_arrive : ByteArray := prog_8_method_52_code
def yX6_arrive : MethodName := ⟨RX6, "arrive", "(III)I"⟩
abbrev cX6_firstSize : ByteArray := prog_8_method_53_code
def yX6_firstSize : MethodName := ⟨RX6, "firstSize", "(I)I"⟩
abbrev cX6_departs : ByteArray := prog_8_method_54_code
def yX6_departs : MethodName := ⟨RX6, "departs", "(II)V"⟩
abbrev cX6_sends : ByteArray := prog_8_method_55_code
def yX6_sends : MethodName := ⟨RX6, "sends", "(I)I"⟩
abbrev cX6_tick : ByteArray := prog_8_method_56_code
def yX6_tick : MethodName := ⟨RX6, "tick", "()I"⟩
abbrev cX6_ticking : ByteArray := prog_8_method_57_code
def yX6_ticking : MethodName := ⟨RX6, "ticking", "(I)I"⟩
abbrev cX6_ticks : ByteArray := prog_8_method_58_code
def yX6_ticks : MethodName := ⟨RX6, "ticks", "(I)I"⟩
abbrev cX6_flushes : ByteArray := prog_8_method_59_code
def yX6_flushes : MethodName := ⟨RX6, "flushes", "(I)I"⟩
abbrev cX6_flush : ByteArray := prog_8_method_60_code
def yX6_flush : MethodName := ⟨RX6, "flush", "(I)I"⟩
abbrev cX6_traffic : ByteArray := prog_8_method_61_code
def yX6_traffic : MethodName := ⟨RX6, "traffic", "(III)I"⟩
abbrev cX6_freeShared : ByteArray := prog_8_method_62_code
def yX6_freeShared : MethodName := ⟨RX6, "freeShared", "()I"⟩
abbrev cX6_sharedPool : ByteArray := prog_8_method_63_code
def yX6_sharedPool : MethodName := ⟨RX6, "sharedPool", "()I"⟩
abbrev cX6_freeGuarantee : ByteArray := prog_8_method_64_code
def yX6_freeGuarantee : MethodName := ⟨RX6, "freeGuarantee", "(I)I"⟩
abbrev cX6_ofPort : ByteArray := prog_8_method_65_code
def yX6_ofPort : MethodName := ⟨RX6, "ofPort", "(II)I"⟩
abbrev cX6_ofQueue : ByteArray := prog_8_method_66_code
def yX6_ofQueue : MethodName := ⟨RX6, "ofQueue", "(III)I"⟩
abbrev cX6_grantOf : ByteArray := prog_8_method_67_code
def yX6_grantOf : MethodName := ⟨RX6, "grantOf", "(I)I"⟩
abbrev cX6_threshold : ByteArray := prog_8_method_68_code
def yX6_threshold : MethodName := ⟨RX6, "threshold", "(II)I"⟩
abbrev cX6_guaranteedCells : ByteArray := prog_8_method_69_code
def yX6_guaranteedCells : MethodName := ⟨RX6, "guaranteedCells", "(II)I"⟩
abbrev cX6_sharedCells : ByteArray := prog_8_method_70_code
def yX6_sharedCells : MethodName := ⟨RX6, "sharedCells", "(II)I"⟩
abbrev cX6_headroomCells : ByteArray := prog_8_method_71_code
def yX6_headroomCells : MethodName := ⟨RX6, "headroomCells", "(II)I"⟩
abbrev cX6_burstTank : ByteArray := prog_8_method_72_code
def yX6_burstTank : MethodName := ⟨RX6, "burstTank", "(II)I"⟩
abbrev cX6_isPaused : ByteArray := prog_8_method_73_code
def yX6_isPaused : MethodName := ⟨RX6, "isPaused", "(II)I"⟩
abbrev cX6_pauses : ByteArray := prog_8_method_74_code
def yX6_pauses : MethodName := ⟨RX6, "pauses", "(II)I"⟩
abbrev cX6_credit : ByteArray := prog_8_method_75_code
def yX6_credit : MethodName := ⟨RX6, "credit", "(I)I"⟩
abbrev cX6_deficit : ByteArray := prog_8_method_76_code
def yX6_deficit : MethodName := ⟨RX6, "deficit", "(II)I"⟩
abbrev cX6_losses : ByteArray := prog_8_method_77_code
def yX6_losses : MethodName := ⟨RX6, "losses", "(II)I"⟩
abbrev cX6_lostCells : ByteArray := prog_8_method_78_code
def yX6_lostCells : MethodName := ⟨RX6, "lostCells", "(I)I"⟩
abbrev cX6_lossCause : ByteArray := prog_8_method_79_code
def yX6_lossCause : MethodName := ⟨RX6, "lossCause", "(I)I"⟩
abbrev cX6_departed : ByteArray := prog_8_method_80_code
def yX6_departed : MethodName := ⟨RX6, "departed", "(I)I"⟩
abbrev cX6_admitted : ByteArray := prog_8_method_81_code
def yX6_admitted : MethodName := ⟨RX6, "admitted", "()I"⟩
abbrev cX6_time : ByteArray := prog_8_method_82_code
def yX6_time : MethodName := ⟨RX6, "time", "()I"⟩
abbrev cX6_queueLength : ByteArray := prog_8_method_83_code
def yX6_queueLength : MethodName := ⟨RX6, "queueLength", "(II)I"⟩
abbrev cX6_packetAt : ByteArray := prog_8_method_84_code
def yX6_packetAt : MethodName := ⟨RX6, "packetAt", "(III)I"⟩
abbrev cX6_fragments : ByteArray := prog_8_method_85_code
def yX6_fragments : MethodName := ⟨RX6, "fragments", "(I)I"⟩
abbrev cX6_ofFragment : ByteArray := prog_8_method_86_code
def yX6_ofFragment : MethodName := ⟨RX6, "ofFragment", "(III)I"⟩
abbrev cX6_fragmentStart : ByteArray := prog_8_method_87_code
def yX6_fragmentStart : MethodName := ⟨RX6, "fragmentStart", "(II)I"⟩
abbrev cX6_fragmentLength : ByteArray := prog_8_method_88_code
def yX6_fragmentLength : MethodName := ⟨RX6, "fragmentLength", "(II)I"⟩
abbrev cX6_freeRuns : ByteArray := prog_8_method_89_code
def yX6_freeRuns : MethodName := ⟨RX6, "freeRuns", "()I"⟩
abbrev cX6_beginOf : ByteArray := prog_8_method_90_code
def yX6_beginOf : MethodName := ⟨RX6, "beginOf", "(I)I"⟩
abbrev cX6_runStart : ByteArray := prog_8_method_91_code
def yX6_runStart : MethodName := ⟨RX6, "runStart", "(I)I"⟩
abbrev cX6_runLength : ByteArray := prog_8_method_92_code
def yX6_runLength : MethodName := ⟨RX6, "runLength", "(I)I"⟩
abbrev cX6_stageFor : ByteArray := prog_8_method_93_code
def yX6_stageFor : MethodName := ⟨RX6, "stageFor", "(III)I"⟩
abbrev cX6_largestAdmissible : ByteArray := prog_8_method_94_code
def yX6_largestAdmissible : MethodName := ⟨RX6, "largestAdmissible", "(II)I"⟩
abbrev cX6_burstCapacity : ByteArray := prog_8_method_95_code
def yX6_burstCapacity : MethodName := ⟨RX6, "burstCapacity", "(III)I"⟩
abbrev cX6_drainTicks : ByteArray := prog_8_method_96_code
def yX6_drainTicks : MethodName := ⟨RX6, "drainTicks", "(I)I"⟩
abbrev cX6_equilibrium : ByteArray := prog_8_method_97_code
def yX6_equilibrium : MethodName := ⟨RX6, "equilibrium", "(IZ)I"⟩
abbrev cX6_append : ByteArray := prog_8_method_98_code
def yX6_append : MethodName := ⟨RX6, "append", "(I)I"⟩
abbrev cX6_clearText : ByteArray := prog_8_method_99_code
def yX6_clearText : MethodName := ⟨RX6, "clearText", "()I"⟩
abbrev cX6_here : ByteArray := prog_8_method_100_code
def yX6_here : MethodName := ⟨RX6, "here", "()I"⟩
abbrev cX6_isDigit : ByteArray := prog_8_method_101_code
def yX6_isDigit : MethodName := ⟨RX6, "isDigit", "()Z"⟩
abbrev cX6_faults : ByteArray := prog_8_method_102_code
def yX6_faults : MethodName := ⟨RX6, "faults", "(I)V"⟩
abbrev cX6_digit : ByteArray := prog_8_method_103_code
def yX6_digit : MethodName := ⟨RX6, "digit", "(I)I"⟩
abbrev cX6_number : ByteArray := prog_8_method_104_code
def yX6_number : MethodName := ⟨RX6, "number", "(II)I"⟩
abbrev cX6_sign : ByteArray := prog_8_method_105_code
def yX6_sign : MethodName := ⟨RX6, "sign", "(I)V"⟩
abbrev cX6_order : ByteArray := prog_8_method_106_code
def yX6_order : MethodName := ⟨RX6, "order", "()V"⟩
abbrev cX6_ends : ByteArray := prog_8_method_107_code
def yX6_ends : MethodName := ⟨RX6, "ends", "()V"⟩
abbrev cX6_acts : ByteArray := prog_8_method_108_code
def yX6_acts : MethodName := ⟨RX6, "acts", "()Z"⟩
abbrev cX6_reads : ByteArray := prog_8_method_109_code
def yX6_reads : MethodName := ⟨RX6, "reads", "(Z)V"⟩
abbrev cX6_faultPosition : ByteArray := prog_8_method_110_code
def yX6_faultPosition : MethodName := ⟨RX6, "faultPosition", "()I"⟩
abbrev cX6_run : ByteArray := prog_8_method_111_code
def yX6_run : MethodName := ⟨RX6, "run", "()I"⟩
abbrev cX6_save : ByteArray := prog_8_method_112_code
def yX6_save : MethodName := ⟨RX6, "save", "(I)I"⟩
abbrev cX6_restore : ByteArray := prog_8_method_113_code
def yX6_restore : MethodName := ⟨RX6, "restore", "(I)I"⟩
abbrev cX6_sumOf : ByteArray := prog_8_method_114_code
def yX6_sumOf : MethodName := ⟨RX6, "sumOf", "(JI)J"⟩
abbrev cX6_sumOfQueue : ByteArray := prog_8_method_115_code
def yX6_sumOfQueue : MethodName := ⟨RX6, "sumOfQueue", "(JI)J"⟩
abbrev cX6_checksum : ByteArray := prog_8_method_116_code
def yX6_checksum : MethodName := ⟨RX6, "checksum", "()J"⟩
def RJ9 : String := "java/lang/Math"
def TJ9 : u_T := fun k => match k with
  | _ => ("", "", "", false)
def tyJ9 : Nat → FieldType := fun k => match k with
  | _ => .int
theorem nmJ9 : ∀ a, a < 0 → ∀ b, b < 0 → a ≠ b → (TJ9 a).2.1 ≠ (TJ9 b).2.1 := by decide +kernel
theorem tyJ9_ok : ∀ k, k < 0 → parseFieldDescriptor (TJ9 k).2.2.1 = some (tyJ9 k) := by decide +kernel
abbrev cJ9_max_7cf53 : ByteArray := prog_9_method_65_code
def yJ9_max_7cf53 : MethodName := ⟨RJ9, "max", "(II)I"⟩
abbrev cJ9_min_7cf53 : ByteArray := prog_9_method_69_code
def yJ9_min_7cf53 : MethodName := ⟨RJ9, "min", "(II)I"⟩
def RJ10 : String := "java/lang/System"
def TJ10 : u_T := fun k => match k with
  | _ => ("", "", "", false)
def tyJ10 : Nat → FieldType := fun k => match k with
  | _ => .int
theorem nmJ10 : ∀ a, a < 0 → ∀ b, b < 0 → a ≠ b → (TJ10 a).2.1 ≠ (TJ10 b).2.1 := by decide +kernel
theorem tyJ10_ok : ∀ k, k < 0 → parseFieldDescriptor (TJ10 k).2.2.1 = some (tyJ10 k) := by decide +kernel
def RL : String := "SharedPacketBufferLaw"
abbrev cL_law : ByteArray := code
def yL_law : MethodName := ⟨RL, "law", "([I)Z"⟩
abbrev vwCl : List vw_C := [(RX0, TX0, 13), (RX1, TX1, 9), (RX2, TX2, 12), (RX3, TX3, 16), (RX4, TX4, 9), (RX5, TX5, 5), (RX6, TX6, 13)]
end
section
theorem dX1_init_0 : decode cX1_init 0 = .ok (.aload_n 0, 1) := by decide +kernel
theorem dX1_init_1 : decode cX1_init 1 = .ok (.invokespecial 3, 3) := by decide +kernel
theorem dX1_init_4 : decode cX1_init 4 = .ok (.aload_n 0, 1) := by decide +kernel
theorem dX1_init_5 : decode cX1_init 5 = .ok (.sipush 128, 3) := by decide +kernel
theorem dX1_init_8 : decode cX1_init 8 = .ok (.newarray .boolean, 2) := by decide +kernel
theorem dX1_init_10 : decode cX1_init 10 = .ok (.putfield 9, 3) := by decide +kernel
theorem dX1_init_13 : decode cX1_init 13 = .ok (.aload_n 0, 1) := by decide +kernel
theorem dX1_init_14 : decode cX1_init 14 = .ok (.sipush 128, 3) := by decide +kernel
theorem dX1_init_17 : decode cX1_init 17 = .ok (.newarray .int, 2) := by decide +kernel
theorem dX1_init_19 : decode cX1_init 19 = .ok (.putfield 15, 3) := by decide +kernel
theorem dX1_init_22 : decode cX1_init 22 = .ok (.aload_n 0, 1) := by decide +kernel
theorem dX1_init_23 : decode cX1_init 23 = .ok (.sipush 128, 3) := by decide +kernel
theorem dX1_init_26 : decode cX1_init 26 = .ok (.newarray .int, 2) := by decide +kernel
theorem dX1_init_28 : decode cX1_init 28 = .ok (.putfield 19, 3) := by decide +kernel
theorem dX1_init_31 : decode cX1_init 31 = .ok (.aload_n 0, 1) := by decide +kernel
theorem dX1_init_32 : decode cX1_init 32 = .ok (.sipush 128, 3) := by decide +kernel
theorem dX1_init_35 : decode cX1_init 35 = .ok (.newarray .int, 2) := by decide +kernel
theorem dX1_init_37 : decode cX1_init 37 = .ok (.putfield 22, 3) := by decide +kernel
theorem dX1_init_40 : decode cX1_init 40 = .ok (.aload_n 0, 1) := by decide +kernel
theorem dX1_init_41 : decode cX1_init 41 = .ok (.sipush 128, 3) := by decide +kernel
theorem dX1_init_44 : decode cX1_init 44 = .ok (.newarray .int, 2) := by decide +kernel
theorem dX1_init_46 : decode cX1_init 46 = .ok (.putfield 25, 3) := by decide +kernel
theorem dX1_init_49 : decode cX1_init 49 = .ok (.aload_n 0, 1) := by decide +kernel
theorem dX1_init_50 : decode cX1_init 50 = .ok (.sipush 128, 3) := by decide +kernel
theorem dX1_init_53 : decode cX1_init 53 = .ok (.newarray .int, 2) := by decide +kernel
theorem dX1_init_55 : decode cX1_init 55 = .ok (.putfield 28, 3) := by decide +kernel
theorem dX1_init_58 : decode cX1_init 58 = .ok (.aload_n 0, 1) := by decide +kernel
theorem dX1_init_59 : decode cX1_init 59 = .ok (.sipush 128, 3) := by decide +kernel
theorem dX1_init_62 : decode cX1_init 62 = .ok (.newarray .int, 2) := by decide +kernel
theorem dX1_init_64 : decode cX1_init 64 = .ok (.putfield 31, 3) := by decide +kernel
theorem dX1_init_67 : decode cX1_init 67 = .ok (.aload_n 0, 1) := by decide +kernel
theorem dX1_init_68 : decode cX1_init 68 = .ok (.sipush 128, 3) := by decide +kernel
theorem dX1_init_71 : decode cX1_init 71 = .ok (.newarray .int, 2) := by decide +kernel
theorem dX1_init_73 : decode cX1_init 73 = .ok (.putfield 34, 3) := by decide +kernel
theorem dX1_init_76 : decode cX1_init 76 = .ok (.return_, 1) := by decide +kernel
theorem dX1_startAnew_0 : decode cX1_startAnew 0 = .ok (.aload_n 0, 1) := by decide +kernel
theorem dX1_startAnew_1 : decode cX1_startAnew 1 = .ok (.iload_n 1, 1) := by decide +kernel
theorem dX1_startAnew_2 : decode cX1_startAnew 2 = .ok (.putfield 37, 3) := by decide +kernel
theorem dX1_startAnew_5 : decode cX1_startAnew 5 = .ok (.iconst 0, 1) := by decide +kernel
theorem dX1_startAnew_6 : decode cX1_startAnew 6 = .ok (.istore_n 2, 1) := by decide +kernel
theorem dX1_startAnew_7 : decode cX1_startAnew 7 = .ok (.iload_n 2, 1) := by decide +kernel
theorem dX1_startAnew_8 : decode cX1_startAnew 8 = .ok (.sipush 128, 3) := by decide +kernel
theorem dX1_startAnew_11 : decode cX1_startAnew 11 = .ok (.if_icmp .ge 23, 3) := by decide +kernel
theorem dX1_startAnew_14 : decode cX1_startAnew 14 = .ok (.aload_n 0, 1) := by decide +kernel
theorem dX1_startAnew_15 : decode cX1_startAnew 15 = .ok (.getfield 9, 3) := by decide +kernel
theorem dX1_startAnew_18 : decode cX1_startAnew 18 = .ok (.iload_n 2, 1) := by decide +kernel
theorem dX1_startAnew_19 : decode cX1_startAnew 19 = .ok (.iconst 0, 1) := by decide +kernel
theorem dX1_startAnew_20 : decode cX1_startAnew 20 = .ok (.bastore, 1) := by decide +kernel
theorem dX1_startAnew_21 : decode cX1_startAnew 21 = .ok (.aload_n 0, 1) := by decide +kernel
theorem dX1_startAnew_22 : decode cX1_startAnew 22 = .ok (.getfield 22, 3) := by decide +kernel
theorem dX1_startAnew_25 : decode cX1_startAnew 25 = .ok (.iload_n 2, 1) := by decide +kernel
theorem dX1_startAnew_26 : decode cX1_startAnew 26 = .ok (.iconst (-1), 1) := by decide +kernel
theorem dX1_startAnew_27 : decode cX1_startAnew 27 = .ok (.iastore, 1) := by decide +kernel
theorem dX1_startAnew_28 : decode cX1_startAnew 28 = .ok (.iinc 2 1, 3) := by decide +kernel
theorem dX1_startAnew_31 : decode cX1_startAnew 31 = .ok (.goto (-24), 3) := by decide +kernel
theorem dX1_startAnew_34 : decode cX1_startAnew 34 = .ok (.return_, 1) := by decide +kernel
theorem dX1_copyFrom_0 : decode cX1_copyFrom 0 = .ok (.aload_n 0, 1) := by decide +kernel
theorem dX1_copyFrom_1 : decode cX1_copyFrom 1 = .ok (.aload_n 1, 1) := by decide +kernel
theorem dX1_copyFrom_2 : decode cX1_copyFrom 2 = .ok (.getfield 37, 3) := by decide +kernel
theorem dX1_copyFrom_5 : decode cX1_copyFrom 5 = .ok (.putfield 37, 3) := by decide +kernel
theorem dX1_copyFrom_8 : decode cX1_copyFrom 8 = .ok (.iconst 0, 1) := by decide +kernel
theorem dX1_copyFrom_9 : decode cX1_copyFrom 9 = .ok (.istore_n 2, 1) := by decide +kernel
theorem dX1_copyFrom_10 : decode cX1_copyFrom 10 = .ok (.iload_n 2, 1) := by decide +kernel
theorem dX1_copyFrom_11 : decode cX1_copyFrom 11 = .ok (.sipush 128, 3) := by decide +kernel
theorem dX1_copyFrom_14 : decode cX1_copyFrom 14 = .ok (.if_icmp .ge 21, 3) := by decide +kernel
theorem dX1_copyFrom_17 : decode cX1_copyFrom 17 = .ok (.aload_n 0, 1) := by decide +kernel
theorem dX1_copyFrom_18 : decode cX1_copyFrom 18 = .ok (.getfield 9, 3) := by decide +kernel
theorem dX1_copyFrom_21 : decode cX1_copyFrom 21 = .ok (.iload_n 2, 1) := by decide +kernel
theorem dX1_copyFrom_22 : decode cX1_copyFrom 22 = .ok (.aload_n 1, 1) := by decide +kernel
theorem dX1_copyFrom_23 : decode cX1_copyFrom 23 = .ok (.getfield 9, 3) := by decide +kernel
theorem dX1_copyFrom_26 : decode cX1_copyFrom 26 = .ok (.iload_n 2, 1) := by decide +kernel
theorem dX1_copyFrom_27 : decode cX1_copyFrom 27 = .ok (.baload, 1) := by decide +kernel
theorem dX1_copyFrom_28 : decode cX1_copyFrom 28 = .ok (.bastore, 1) := by decide +kernel
theorem dX1_copyFrom_29 : decode cX1_copyFrom 29 = .ok (.iinc 2 1, 3) := by decide +kernel
theorem dX1_copyFrom_32 : decode cX1_copyFrom 32 = .ok (.goto (-22), 3) := by decide +kernel
theorem dX1_copyFrom_35 : decode cX1_copyFrom 35 = .ok (.aload_n 1, 1) := by decide +kernel
theorem dX1_copyFrom_36 : decode cX1_copyFrom 36 = .ok (.getfield 15, 3) := by decide +kernel
theorem dX1_copyFrom_39 : decode cX1_copyFrom 39 = .ok (.iconst 0, 1) := by decide +kernel
theorem dX1_copyFrom_40 : decode cX1_copyFrom 40 = .ok (.aload_n 0, 1) := by decide +kernel
theorem dX1_copyFrom_41 : decode cX1_copyFrom 41 = .ok (.getfield 15, 3) := by decide +kernel
theorem dX1_copyFrom_44 : decode cX1_copyFrom 44 = .ok (.iconst 0, 1) := by decide +kernel
theorem dX1_copyFrom_45 : decode cX1_copyFrom 45 = .ok (.sipush 128, 3) := by decide +kernel
theorem dX1_copyFrom_48 : decode cX1_copyFrom 48 = .ok (.invokestatic 41, 3) := by decide +kernel
theorem dX1_copyFrom_51 : decode cX1_copyFrom 51 = .ok (.aload_n 1, 1) := by decide +kernel
theorem dX1_copyFrom_52 : decode cX1_copyFrom 52 = .ok (.getfield 19, 3) := by decide +kernel
theorem dX1_copyFrom_55 : decode cX1_copyFrom 55 = .ok (.iconst 0, 1) := by decide +kernel
theorem dX1_copyFrom_56 : decode cX1_copyFrom 56 = .ok (.aload_n 0, 1) := by decide +kernel
theorem dX1_copyFrom_57 : decode cX1_copyFrom 57 = .ok (.getfield 19, 3) := by decide +kernel
theorem dX1_copyFrom_60 : decode cX1_copyFrom 60 = .ok (.iconst 0, 1) := by decide +kernel
theorem dX1_copyFrom_61 : decode cX1_copyFrom 61 = .ok (.sipush 128, 3) := by decide +kernel
theorem dX1_copyFrom_64 : decode cX1_copyFrom 64 = .ok (.invokestatic 41, 3) := by decide +kernel
theorem dX1_copyFrom_67 : decode cX1_copyFrom 67 = .ok (.aload_n 1, 1) := by decide +kernel
theorem dX1_copyFrom_68 : decode cX1_copyFrom 68 = .ok (.getfield 22, 3) := by decide +kernel
theorem dX1_copyFrom_71 : decode cX1_copyFrom 71 = .ok (.iconst 0, 1) := by decide +kernel
theorem dX1_copyFrom_72 : decode cX1_copyFrom 72 = .ok (.aload_n 0, 1) := by decide +kernel
theorem dX1_copyFrom_73 : decode cX1_copyFrom 73 = .ok (.getfield 22, 3) := by decide +kernel
theorem dX1_copyFrom_76 : decode cX1_copyFrom 76 = .ok (.iconst 0, 1) := by decide +kernel
theorem dX1_copyFrom_77 : decode cX1_copyFrom 77 = .ok (.sipush 128, 3) := by decide +kernel
theorem dX1_copyFrom_80 : decode cX1_copyFrom 80 = .ok (.invokestatic 41, 3) := by decide +kernel
theorem dX1_copyFrom_83 : decode cX1_copyFrom 83 = .ok (.aload_n 1, 1) := by decide +kernel
theorem dX1_copyFrom_84 : decode cX1_copyFrom 84 = .ok (.getfield 25, 3) := by decide +kernel
theorem dX1_copyFrom_87 : decode cX1_copyFrom 87 = .ok (.iconst 0, 1) := by decide +kernel
theorem dX1_copyFrom_88 : decode cX1_copyFrom 88 = .ok (.aload_n 0, 1) := by decide +kernel
theorem dX1_copyFrom_89 : decode cX1_copyFrom 89 = .ok (.getfield 25, 3) := by decide +kernel
theorem dX1_copyFrom_92 : decode cX1_copyFrom 92 = .ok (.iconst 0, 1) := by decide +kernel
theorem dX1_copyFrom_93 : decode cX1_copyFrom 93 = .ok (.sipush 128, 3) := by decide +kernel
theorem dX1_copyFrom_96 : decode cX1_copyFrom 96 = .ok (.invokestatic 41, 3) := by decide +kernel
theorem dX1_copyFrom_99 : decode cX1_copyFrom 99 = .ok (.aload_n 1, 1) := by decide +kernel
theorem dX1_copyFrom_100 : decode cX1_copyFrom 100 = .ok (.getfield 28, 3) := by decide +kernel
theorem dX1_copyFrom_103 : decode cX1_copyFrom 103 = .ok (.iconst 0, 1) := by decide +kernel
theorem dX1_copyFrom_104 : decode cX1_copyFrom 104 = .ok (.aload_n 0, 1) := by decide +kernel
theorem dX1_copyFrom_105 : decode cX1_copyFrom 105 = .ok (.getfield 28, 3) := by decide +kernel
theorem dX1_copyFrom_108 : decode cX1_copyFrom 108 = .ok (.iconst 0, 1) := by decide +kernel
theorem dX1_copyFrom_109 : decode cX1_copyFrom 109 = .ok (.sipush 128, 3) := by decide +kernel
theorem dX1_copyFrom_112 : decode cX1_copyFrom 112 = .ok (.invokestatic 41, 3) := by decide +kernel
theorem dX1_copyFrom_115 : decode cX1_copyFrom 115 = .ok (.aload_n 1, 1) := by decide +kernel
theorem dX1_copyFrom_116 : decode cX1_copyFrom 116 = .ok (.getfield 31, 3) := by decide +kernel
theorem dX1_copyFrom_119 : decode cX1_copyFrom 119 = .ok (.iconst 0, 1) := by decide +kernel
theorem dX1_copyFrom_120 : decode cX1_copyFrom 120 = .ok (.aload_n 0, 1) := by decide +kernel
theorem dX1_copyFrom_121 : decode cX1_copyFrom 121 = .ok (.getfield 31, 3) := by decide +kernel
theorem dX1_copyFrom_124 : decode cX1_copyFrom 124 = .ok (.iconst 0, 1) := by decide +kernel
theorem dX1_copyFrom_125 : decode cX1_copyFrom 125 = .ok (.sipush 128, 3) := by decide +kernel
theorem dX1_copyFrom_128 : decode cX1_copyFrom 128 = .ok (.invokestatic 41, 3) := by decide +kernel
theorem dX1_copyFrom_131 : decode cX1_copyFrom 131 = .ok (.aload_n 1, 1) := by decide +kernel
theorem dX1_copyFrom_132 : decode cX1_copyFrom 132 = .ok (.getfield 34, 3) := by decide +kernel
theorem dX1_copyFrom_135 : decode cX1_copyFrom 135 = .ok (.iconst 0, 1) := by decide +kernel
theorem dX1_copyFrom_136 : decode cX1_copyFrom 136 = .ok (.aload_n 0, 1) := by decide +kernel
theorem dX1_copyFrom_137 : decode cX1_copyFrom 137 = .ok (.getfield 34, 3) := by decide +kernel
theorem dX1_copyFrom_140 : decode cX1_copyFrom 140 = .ok (.iconst 0, 1) := by decide +kernel
theorem dX1_copyFrom_141 : decode cX1_copyFrom 141 = .ok (.sipush 128, 3) := by decide +kernel
theorem dX1_copyFrom_144 : decode cX1_copyFrom 144 = .ok (.invokestatic 41, 3) := by decide +kernel
theorem dX1_copyFrom_147 : decode cX1_copyFrom 147 = .ok (.return_, 1) := by decide +kernel
theorem dX1_isCell_0 : decode cX1_isCell 0 = .ok (.iload_n 1, 1) := by decide +kernel
theorem dX1_isCell_1 : decode cX1_isCell 1 = .ok (.ifCond .lt 14, 3) := by decide +kernel
theorem dX1_isCell_4 : decode cX1_isCell 4 = .ok (.iload_n 1, 1) := by decide +kernel
theorem dX1_isCell_5 : decode cX1_isCell 5 = .ok (.sipush 128, 3) := by decide +kernel
theorem dX1_isCell_8 : decode cX1_isCell 8 = .ok (.if_icmp .ge 7, 3) := by decide +kernel
theorem dX1_isCell_11 : decode cX1_isCell 11 = .ok (.iconst 1, 1) := by decide +kernel
theorem dX1_isCell_12 : decode cX1_isCell 12 = .ok (.goto 4, 3) := by decide +kernel
theorem dX1_isCell_15 : decode cX1_isCell 15 = .ok (.iconst 0, 1) := by decide +kernel
theorem dX1_isCell_16 : decode cX1_isCell 16 = .ok (.ireturn, 1) := by decide +kernel
theorem dX1_numberOf_0 : decode cX1_numberOf 0 = .ok (.aload_n 0, 1) := by decide +kernel
theorem dX1_numberOf_1 : decode cX1_numberOf 1 = .ok (.iload_n 1, 1) := by decide +kernel
theorem dX1_numberOf_2 : decode cX1_numberOf 2 = .ok (.invokevirtual 47, 3) := by decide +kernel
theorem dX1_numberOf_5 : decode cX1_numberOf 5 = .ok (.ifCond .eq 12, 3) := by decide +kernel
theorem dX1_numberOf_8 : decode cX1_numberOf 8 = .ok (.aload_n 0, 1) := by decide +kernel
theorem dX1_numberOf_9 : decode cX1_numberOf 9 = .ok (.getfield 22, 3) := by decide +kernel
theorem dX1_numberOf_12 : decode cX1_numberOf 12 = .ok (.iload_n 1, 1) := by decide +kernel
theorem dX1_numberOf_13 : decode cX1_numberOf 13 = .ok (.iaload, 1) := by decide +kernel
theorem dX1_numberOf_14 : decode cX1_numberOf 14 = .ok (.goto 4, 3) := by decide +kernel
theorem dX1_numberOf_17 : decode cX1_numberOf 17 = .ok (.iconst (-1), 1) := by decide +kernel
theorem dX1_numberOf_18 : decode cX1_numberOf 18 = .ok (.ireturn, 1) := by decide +kernel
theorem dX1_sizeOf_0 : decode cX1_sizeOf 0 = .ok (.aload_n 0, 1) := by decide +kernel
theorem dX1_sizeOf_1 : decode cX1_sizeOf 1 = .ok (.iload_n 1, 1) := by decide +kernel
theorem dX1_sizeOf_2 : decode cX1_sizeOf 2 = .ok (.invokevirtual 47, 3) := by decide +kernel
theorem dX1_sizeOf_5 : decode cX1_sizeOf 5 = .ok (.ifCond .eq 12, 3) := by decide +kernel
theorem dX1_sizeOf_8 : decode cX1_sizeOf 8 = .ok (.aload_n 0, 1) := by decide +kernel
theorem dX1_sizeOf_9 : decode cX1_sizeOf 9 = .ok (.getfield 25, 3) := by decide +kernel
theorem dX1_sizeOf_12 : decode cX1_sizeOf 12 = .ok (.iload_n 1, 1) := by decide +kernel
theorem dX1_sizeOf_13 : decode cX1_sizeOf 13 = .ok (.iaload, 1) := by decide +kernel
theorem dX1_sizeOf_14 : decode cX1_sizeOf 14 = .ok (.goto 4, 3) := by decide +kernel
theorem dX1_sizeOf_17 : decode cX1_sizeOf 17 = .ok (.iconst 0, 1) := by decide +kernel
theorem dX1_sizeOf_18 : decode cX1_sizeOf 18 = .ok (.ireturn, 1) := by decide +kernel
theorem dX1_partsOf_0 : decode cX1_partsOf 0 = .ok (.aload_n 0, 1) := by decide +kernel
theorem dX1_partsOf_1 : decode cX1_partsOf 1 = .ok (.iload_n 1, 1) := by decide +kernel
theorem dX1_partsOf_2 : decode cX1_partsOf 2 = .ok (.invokevirtual 47, 3) := by decide +kernel
theorem dX1_partsOf_5 : decode cX1_partsOf 5 = .ok (.ifCond .eq 12, 3) := by decide +kernel
theorem dX1_partsOf_8 : decode cX1_partsOf 8 = .ok (.aload_n 0, 1) := by decide +kernel
theorem dX1_partsOf_9 : decode cX1_partsOf 9 = .ok (.getfield 28, 3) := by decide +kernel
theorem dX1_partsOf_12 : decode cX1_partsOf 12 = .ok (.iload_n 1, 1) := by decide +kernel
theorem dX1_partsOf_13 : decode cX1_partsOf 13 = .ok (.iaload, 1) := by decide +kernel
theorem dX1_partsOf_14 : decode cX1_partsOf 14 = .ok (.goto 4, 3) := by decide +kernel
theorem dX1_partsOf_17 : decode cX1_partsOf 17 = .ok (.iconst 0, 1) := by decide +kernel
theorem dX1_partsOf_18 : decode cX1_partsOf 18 = .ok (.ireturn, 1) := by decide +kernel
theorem dX1_packetAhead_0 : decode cX1_packetAhead 0 = .ok (.aload_n 0, 1) := by decide +kernel
theorem dX1_packetAhead_1 : decode cX1_packetAhead 1 = .ok (.iload_n 1, 1) := by decide +kernel
theorem dX1_packetAhead_2 : decode cX1_packetAhead 2 = .ok (.invokevirtual 47, 3) := by decide +kernel
theorem dX1_packetAhead_5 : decode cX1_packetAhead 5 = .ok (.ifCond .eq 12, 3) := by decide +kernel
theorem dX1_packetAhead_8 : decode cX1_packetAhead 8 = .ok (.aload_n 0, 1) := by decide +kernel
theorem dX1_packetAhead_9 : decode cX1_packetAhead 9 = .ok (.getfield 31, 3) := by decide +kernel
theorem dX1_packetAhead_12 : decode cX1_packetAhead 12 = .ok (.iload_n 1, 1) := by decide +kernel
theorem dX1_packetAhead_13 : decode cX1_packetAhead 13 = .ok (.iaload, 1) := by decide +kernel
theorem dX1_packetAhead_14 : decode cX1_packetAhead 14 = .ok (.goto 4, 3) := by decide +kernel
theorem dX1_packetAhead_17 : decode cX1_packetAhead 17 = .ok (.iconst (-1), 1) := by decide +kernel
theorem dX1_packetAhead_18 : decode cX1_packetAhead 18 = .ok (.ireturn, 1) := by decide +kernel
theorem dX1_packetBehind_0 : decode cX1_packetBehind 0 = .ok (.aload_n 0, 1) := by decide +kernel
theorem dX1_packetBehind_1 : decode cX1_packetBehind 1 = .ok (.iload_n 1, 1) := by decide +kernel
theorem dX1_packetBehind_2 : decode cX1_packetBehind 2 = .ok (.invokevirtual 47, 3) := by decide +kernel
theorem dX1_packetBehind_5 : decode cX1_packetBehind 5 = .ok (.ifCond .eq 12, 3) := by decide +kernel
theorem dX1_packetBehind_8 : decode cX1_packetBehind 8 = .ok (.aload_n 0, 1) := by decide +kernel
theorem dX1_packetBehind_9 : decode cX1_packetBehind 9 = .ok (.getfield 34, 3) := by decide +kernel
theorem dX1_packetBehind_12 : decode cX1_packetBehind 12 = .ok (.iload_n 1, 1) := by decide +kernel
theorem dX1_packetBehind_13 : decode cX1_packetBehind 13 = .ok (.iaload, 1) := by decide +kernel
theorem dX1_packetBehind_14 : decode cX1_packetBehind 14 = .ok (.goto 4, 3) := by decide +kernel
theorem dX1_packetBehind_17 : decode cX1_packetBehind 17 = .ok (.iconst (-1), 1) := by decide +kernel
theorem dX1_packetBehind_18 : decode cX1_packetBehind 18 = .ok (.ireturn, 1) := by decide +kernel
theorem dX1_partBehind_0 : decode cX1_partBehind 0 = .ok (.aload_n 0, 1) := by decide +kernel
theorem dX1_partBehind_1 : decode cX1_partBehind 1 = .ok (.iload_n 1, 1) := by decide +kernel
theorem dX1_partBehind_2 : decode cX1_partBehind 2 = .ok (.invokevirtual 47, 3) := by decide +kernel
theorem dX1_partBehind_5 : decode cX1_partBehind 5 = .ok (.ifCond .eq 12, 3) := by decide +kernel
theorem dX1_partBehind_8 : decode cX1_partBehind 8 = .ok (.aload_n 0, 1) := by decide +kernel
theorem dX1_partBehind_9 : decode cX1_partBehind 9 = .ok (.getfield 19, 3) := by decide +kernel
theorem dX1_partBehind_12 : decode cX1_partBehind 12 = .ok (.iload_n 1, 1) := by decide +kernel
theorem dX1_partBehind_13 : decode cX1_partBehind 13 = .ok (.iaload, 1) := by decide +kernel
theorem dX1_partBehind_14 : decode cX1_partBehind 14 = .ok (.goto 4, 3) := by decide +kernel
theorem dX1_partBehind_17 : decode cX1_partBehind 17 = .ok (.iconst (-1), 1) := by decide +kernel
theorem dX1_partBehind_18 : decode cX1_partBehind 18 = .ok (.ireturn, 1) := by decide +kernel
theorem dX1_find_0 : decode cX1_find 0 = .ok (.iload_n 1, 1) := by decide +kernel
theorem dX1_find_1 : decode cX1_find 1 = .ok (.ifCond .ge 5, 3) := by decide +kernel
theorem dX1_find_4 : decode cX1_find 4 = .ok (.iconst (-1), 1) := by decide +kernel
theorem dX1_find_5 : decode cX1_find 5 = .ok (.ireturn, 1) := by decide +kernel
theorem dX1_find_6 : decode cX1_find 6 = .ok (.iconst 0, 1) := by decide +kernel
theorem dX1_find_7 : decode cX1_find 7 = .ok (.istore_n 2, 1) := by decide +kernel
theorem dX1_find_8 : decode cX1_find 8 = .ok (.iload_n 2, 1) := by decide +kernel
theorem dX1_find_9 : decode cX1_find 9 = .ok (.aload_n 0, 1) := by decide +kernel
theorem dX1_find_10 : decode cX1_find 10 = .ok (.getfield 37, 3) := by decide +kernel
theorem dX1_find_13 : decode cX1_find 13 = .ok (.if_icmp .ge 21, 3) := by decide +kernel
theorem dX1_find_16 : decode cX1_find 16 = .ok (.aload_n 0, 1) := by decide +kernel
theorem dX1_find_17 : decode cX1_find 17 = .ok (.getfield 22, 3) := by decide +kernel
theorem dX1_find_20 : decode cX1_find 20 = .ok (.iload_n 2, 1) := by decide +kernel
theorem dX1_find_21 : decode cX1_find 21 = .ok (.iaload, 1) := by decide +kernel
theorem dX1_find_22 : decode cX1_find 22 = .ok (.iload_n 1, 1) := by decide +kernel
theorem dX1_find_23 : decode cX1_find 23 = .ok (.if_icmp .ne 5, 3) := by decide +kernel
theorem dX1_find_26 : decode cX1_find 26 = .ok (.iload_n 2, 1) := by decide +kernel
theorem dX1_find_27 : decode cX1_find 27 = .ok (.ireturn, 1) := by decide +kernel
theorem dX1_find_28 : decode cX1_find 28 = .ok (.iinc 2 1, 3) := by decide +kernel
theorem dX1_find_31 : decode cX1_find 31 = .ok (.goto (-23), 3) := by decide +kernel
theorem dX1_find_34 : decode cX1_find 34 = .ok (.iconst (-1), 1) := by decide +kernel
theorem dX1_find_35 : decode cX1_find 35 = .ok (.ireturn, 1) := by decide +kernel
theorem dX1_partStart_0 : decode cX1_partStart 0 = .ok (.iload_n 2, 1) := by decide +kernel
theorem dX1_partStart_1 : decode cX1_partStart 1 = .ok (.ifCond .lt 12, 3) := by decide +kernel
theorem dX1_partStart_4 : decode cX1_partStart 4 = .ok (.iload_n 2, 1) := by decide +kernel
theorem dX1_partStart_5 : decode cX1_partStart 5 = .ok (.aload_n 0, 1) := by decide +kernel
theorem dX1_partStart_6 : decode cX1_partStart 6 = .ok (.iload_n 1, 1) := by decide +kernel
theorem dX1_partStart_7 : decode cX1_partStart 7 = .ok (.invokevirtual 51, 3) := by decide +kernel
theorem dX1_partStart_10 : decode cX1_partStart 10 = .ok (.if_icmp .lt 5, 3) := by decide +kernel
theorem dX1_partStart_13 : decode cX1_partStart 13 = .ok (.iconst (-1), 1) := by decide +kernel
theorem dX1_partStart_14 : decode cX1_partStart 14 = .ok (.ireturn, 1) := by decide +kernel
theorem dX1_partStart_15 : decode cX1_partStart 15 = .ok (.iload_n 1, 1) := by decide +kernel
theorem dX1_partStart_16 : decode cX1_partStart 16 = .ok (.istore_n 3, 1) := by decide +kernel
theorem dX1_partStart_17 : decode cX1_partStart 17 = .ok (.iconst 0, 1) := by decide +kernel
theorem dX1_partStart_18 : decode cX1_partStart 18 = .ok (.istore 4, 2) := by decide +kernel
theorem dX1_partStart_20 : decode cX1_partStart 20 = .ok (.iload 4, 2) := by decide +kernel
theorem dX1_partStart_22 : decode cX1_partStart 22 = .ok (.iload_n 2, 1) := by decide +kernel
theorem dX1_partStart_23 : decode cX1_partStart 23 = .ok (.if_icmp .ge 15, 3) := by decide +kernel
theorem dX1_partStart_26 : decode cX1_partStart 26 = .ok (.aload_n 0, 1) := by decide +kernel
theorem dX1_partStart_27 : decode cX1_partStart 27 = .ok (.iload_n 3, 1) := by decide +kernel
theorem dX1_partStart_28 : decode cX1_partStart 28 = .ok (.invokevirtual 55, 3) := by decide +kernel
theorem dX1_partStart_31 : decode cX1_partStart 31 = .ok (.istore_n 3, 1) := by decide +kernel
theorem dX1_partStart_32 : decode cX1_partStart 32 = .ok (.iinc 4 1, 3) := by decide +kernel
theorem dX1_partStart_35 : decode cX1_partStart 35 = .ok (.goto (-15), 3) := by decide +kernel
theorem dX1_partStart_38 : decode cX1_partStart 38 = .ok (.aload_n 0, 1) := by decide +kernel
theorem dX1_partStart_39 : decode cX1_partStart 39 = .ok (.iload_n 3, 1) := by decide +kernel
theorem dX1_partStart_40 : decode cX1_partStart 40 = .ok (.invokevirtual 47, 3) := by decide +kernel
theorem dX1_partStart_43 : decode cX1_partStart 43 = .ok (.ifCond .eq 7, 3) := by decide +kernel
theorem dX1_partStart_46 : decode cX1_partStart 46 = .ok (.iload_n 3, 1) := by decide +kernel
theorem dX1_partStart_47 : decode cX1_partStart 47 = .ok (.goto 4, 3) := by decide +kernel
theorem dX1_partStart_50 : decode cX1_partStart 50 = .ok (.iconst (-1), 1) := by decide +kernel
theorem dX1_partStart_51 : decode cX1_partStart 51 = .ok (.ireturn, 1) := by decide +kernel
theorem dX1_startsRun_0 : decode cX1_startsRun 0 = .ok (.iload_n 1, 1) := by decide +kernel
theorem dX1_startsRun_1 : decode cX1_startsRun 1 = .ok (.ifCond .lt 39, 3) := by decide +kernel
theorem dX1_startsRun_4 : decode cX1_startsRun 4 = .ok (.iload_n 1, 1) := by decide +kernel
theorem dX1_startsRun_5 : decode cX1_startsRun 5 = .ok (.aload_n 0, 1) := by decide +kernel
theorem dX1_startsRun_6 : decode cX1_startsRun 6 = .ok (.getfield 37, 3) := by decide +kernel
theorem dX1_startsRun_9 : decode cX1_startsRun 9 = .ok (.if_icmp .ge 31, 3) := by decide +kernel
theorem dX1_startsRun_12 : decode cX1_startsRun 12 = .ok (.aload_n 0, 1) := by decide +kernel
theorem dX1_startsRun_13 : decode cX1_startsRun 13 = .ok (.getfield 9, 3) := by decide +kernel
theorem dX1_startsRun_16 : decode cX1_startsRun 16 = .ok (.iload_n 1, 1) := by decide +kernel
theorem dX1_startsRun_17 : decode cX1_startsRun 17 = .ok (.baload, 1) := by decide +kernel
theorem dX1_startsRun_18 : decode cX1_startsRun 18 = .ok (.ifCond .ne 22, 3) := by decide +kernel
theorem dX1_startsRun_21 : decode cX1_startsRun 21 = .ok (.iload_n 1, 1) := by decide +kernel
theorem dX1_startsRun_22 : decode cX1_startsRun 22 = .ok (.ifCond .eq 14, 3) := by decide +kernel
theorem dX1_startsRun_25 : decode cX1_startsRun 25 = .ok (.aload_n 0, 1) := by decide +kernel
theorem dX1_startsRun_26 : decode cX1_startsRun 26 = .ok (.getfield 9, 3) := by decide +kernel
theorem dX1_startsRun_29 : decode cX1_startsRun 29 = .ok (.iload_n 1, 1) := by decide +kernel
theorem dX1_startsRun_30 : decode cX1_startsRun 30 = .ok (.iconst 1, 1) := by decide +kernel
theorem dX1_startsRun_31 : decode cX1_startsRun 31 = .ok (.isub, 1) := by decide +kernel
theorem dX1_startsRun_32 : decode cX1_startsRun 32 = .ok (.baload, 1) := by decide +kernel
theorem dX1_startsRun_33 : decode cX1_startsRun 33 = .ok (.ifCond .eq 7, 3) := by decide +kernel
theorem dX1_startsRun_36 : decode cX1_startsRun 36 = .ok (.iconst 1, 1) := by decide +kernel
theorem dX1_startsRun_37 : decode cX1_startsRun 37 = .ok (.goto 4, 3) := by decide +kernel
theorem dX1_startsRun_40 : decode cX1_startsRun 40 = .ok (.iconst 0, 1) := by decide +kernel
theorem dX1_startsRun_41 : decode cX1_startsRun 41 = .ok (.ireturn, 1) := by decide +kernel
theorem dX1_freeLength_0 : decode cX1_freeLength 0 = .ok (.iconst 0, 1) := by decide +kernel
theorem dX1_freeLength_1 : decode cX1_freeLength 1 = .ok (.istore_n 2, 1) := by decide +kernel
theorem dX1_freeLength_2 : decode cX1_freeLength 2 = .ok (.iconst 0, 1) := by decide +kernel
theorem dX1_freeLength_3 : decode cX1_freeLength 3 = .ok (.iload_n 1, 1) := by decide +kernel
theorem dX1_freeLength_4 : decode cX1_freeLength 4 = .ok (.invokestatic 58, 3) := by decide +kernel
theorem dX1_freeLength_7 : decode cX1_freeLength 7 = .ok (.istore_n 3, 1) := by decide +kernel
theorem dX1_freeLength_8 : decode cX1_freeLength 8 = .ok (.iload_n 3, 1) := by decide +kernel
theorem dX1_freeLength_9 : decode cX1_freeLength 9 = .ok (.aload_n 0, 1) := by decide +kernel
theorem dX1_freeLength_10 : decode cX1_freeLength 10 = .ok (.getfield 37, 3) := by decide +kernel
theorem dX1_freeLength_13 : decode cX1_freeLength 13 = .ok (.if_icmp .ge 21, 3) := by decide +kernel
theorem dX1_freeLength_16 : decode cX1_freeLength 16 = .ok (.aload_n 0, 1) := by decide +kernel
theorem dX1_freeLength_17 : decode cX1_freeLength 17 = .ok (.getfield 9, 3) := by decide +kernel
theorem dX1_freeLength_20 : decode cX1_freeLength 20 = .ok (.iload_n 3, 1) := by decide +kernel
theorem dX1_freeLength_21 : decode cX1_freeLength 21 = .ok (.baload, 1) := by decide +kernel
theorem dX1_freeLength_22 : decode cX1_freeLength 22 = .ok (.ifCond .ne 12, 3) := by decide +kernel
theorem dX1_freeLength_25 : decode cX1_freeLength 25 = .ok (.iinc 2 1, 3) := by decide +kernel
theorem dX1_freeLength_28 : decode cX1_freeLength 28 = .ok (.iinc 3 1, 3) := by decide +kernel
theorem dX1_freeLength_31 : decode cX1_freeLength 31 = .ok (.goto (-23), 3) := by decide +kernel
theorem dX1_freeLength_34 : decode cX1_freeLength 34 = .ok (.iload_n 2, 1) := by decide +kernel
theorem dX1_freeLength_35 : decode cX1_freeLength 35 = .ok (.ireturn, 1) := by decide +kernel
theorem dX1_countRuns_0 : decode cX1_countRuns 0 = .ok (.iconst 0, 1) := by decide +kernel
theorem dX1_countRuns_1 : decode cX1_countRuns 1 = .ok (.istore_n 1, 1) := by decide +kernel
theorem dX1_countRuns_2 : decode cX1_countRuns 2 = .ok (.iconst 0, 1) := by decide +kernel
theorem dX1_countRuns_3 : decode cX1_countRuns 3 = .ok (.istore_n 2, 1) := by decide +kernel
theorem dX1_countRuns_4 : decode cX1_countRuns 4 = .ok (.iload_n 2, 1) := by decide +kernel
theorem dX1_countRuns_5 : decode cX1_countRuns 5 = .ok (.aload_n 0, 1) := by decide +kernel
theorem dX1_countRuns_6 : decode cX1_countRuns 6 = .ok (.getfield 37, 3) := by decide +kernel
theorem dX1_countRuns_9 : decode cX1_countRuns 9 = .ok (.if_icmp .ge 20, 3) := by decide +kernel
theorem dX1_countRuns_12 : decode cX1_countRuns 12 = .ok (.aload_n 0, 1) := by decide +kernel
theorem dX1_countRuns_13 : decode cX1_countRuns 13 = .ok (.iload_n 2, 1) := by decide +kernel
theorem dX1_countRuns_14 : decode cX1_countRuns 14 = .ok (.invokevirtual 64, 3) := by decide +kernel
theorem dX1_countRuns_17 : decode cX1_countRuns 17 = .ok (.ifCond .eq 6, 3) := by decide +kernel
theorem dX1_countRuns_20 : decode cX1_countRuns 20 = .ok (.iinc 1 1, 3) := by decide +kernel
theorem dX1_countRuns_23 : decode cX1_countRuns 23 = .ok (.iinc 2 1, 3) := by decide +kernel
theorem dX1_countRuns_26 : decode cX1_countRuns 26 = .ok (.goto (-22), 3) := by decide +kernel
theorem dX1_countRuns_29 : decode cX1_countRuns 29 = .ok (.iload_n 1, 1) := by decide +kernel
theorem dX1_countRuns_30 : decode cX1_countRuns 30 = .ok (.ireturn, 1) := by decide +kernel
theorem dX1_findRun_0 : decode cX1_findRun 0 = .ok (.iconst 0, 1) := by decide +kernel
theorem dX1_findRun_1 : decode cX1_findRun 1 = .ok (.istore_n 2, 1) := by decide +kernel
theorem dX1_findRun_2 : decode cX1_findRun 2 = .ok (.iconst 0, 1) := by decide +kernel
theorem dX1_findRun_3 : decode cX1_findRun 3 = .ok (.istore_n 3, 1) := by decide +kernel
theorem dX1_findRun_4 : decode cX1_findRun 4 = .ok (.iload_n 3, 1) := by decide +kernel
theorem dX1_findRun_5 : decode cX1_findRun 5 = .ok (.aload_n 0, 1) := by decide +kernel
theorem dX1_findRun_6 : decode cX1_findRun 6 = .ok (.getfield 37, 3) := by decide +kernel
theorem dX1_findRun_9 : decode cX1_findRun 9 = .ok (.if_icmp .ge 27, 3) := by decide +kernel
theorem dX1_findRun_12 : decode cX1_findRun 12 = .ok (.aload_n 0, 1) := by decide +kernel
theorem dX1_findRun_13 : decode cX1_findRun 13 = .ok (.iload_n 3, 1) := by decide +kernel
theorem dX1_findRun_14 : decode cX1_findRun 14 = .ok (.invokevirtual 64, 3) := by decide +kernel
theorem dX1_findRun_17 : decode cX1_findRun 17 = .ok (.ifCond .eq 13, 3) := by decide +kernel
theorem dX1_findRun_20 : decode cX1_findRun 20 = .ok (.iload_n 2, 1) := by decide +kernel
theorem dX1_findRun_21 : decode cX1_findRun 21 = .ok (.iload_n 1, 1) := by decide +kernel
theorem dX1_findRun_22 : decode cX1_findRun 22 = .ok (.if_icmp .ne 5, 3) := by decide +kernel
theorem dX1_findRun_25 : decode cX1_findRun 25 = .ok (.iload_n 3, 1) := by decide +kernel
theorem dX1_findRun_26 : decode cX1_findRun 26 = .ok (.ireturn, 1) := by decide +kernel
theorem dX1_findRun_27 : decode cX1_findRun 27 = .ok (.iinc 2 1, 3) := by decide +kernel
theorem dX1_findRun_30 : decode cX1_findRun 30 = .ok (.iinc 3 1, 3) := by decide +kernel
theorem dX1_findRun_33 : decode cX1_findRun 33 = .ok (.goto (-29), 3) := by decide +kernel
theorem dX1_findRun_36 : decode cX1_findRun 36 = .ok (.iconst (-1), 1) := by decide +kernel
theorem dX1_findRun_37 : decode cX1_findRun 37 = .ok (.ireturn, 1) := by decide +kernel
theorem dX1_place_0 : decode cX1_place 0 = .ok (.iconst (-1), 1) := by decide +kernel
theorem dX1_place_1 : decode cX1_place 1 = .ok (.istore_n 3, 1) := by decide +kernel
theorem dX1_place_2 : decode cX1_place 2 = .ok (.iconst (-1), 1) := by decide +kernel
theorem dX1_place_3 : decode cX1_place 3 = .ok (.istore 4, 2) := by decide +kernel
theorem dX1_place_5 : decode cX1_place 5 = .ok (.iload_n 2, 1) := by decide +kernel
theorem dX1_place_6 : decode cX1_place 6 = .ok (.istore 5, 2) := by decide +kernel
theorem dX1_place_8 : decode cX1_place 8 = .ok (.iconst 0, 1) := by decide +kernel
theorem dX1_place_9 : decode cX1_place 9 = .ok (.istore 6, 2) := by decide +kernel
theorem dX1_place_11 : decode cX1_place 11 = .ok (.iconst 0, 1) := by decide +kernel
theorem dX1_place_12 : decode cX1_place 12 = .ok (.istore 7, 2) := by decide +kernel
theorem dX1_place_14 : decode cX1_place 14 = .ok (.iload 7, 2) := by decide +kernel
theorem dX1_place_16 : decode cX1_place 16 = .ok (.bipush 12, 2) := by decide +kernel
theorem dX1_place_18 : decode cX1_place 18 = .ok (.if_icmp .ge 93, 3) := by decide +kernel
theorem dX1_place_21 : decode cX1_place 21 = .ok (.iload 5, 2) := by decide +kernel
theorem dX1_place_23 : decode cX1_place 23 = .ok (.ifCond .le 88, 3) := by decide +kernel
theorem dX1_place_26 : decode cX1_place 26 = .ok (.aload_n 0, 1) := by decide +kernel
theorem dX1_place_27 : decode cX1_place 27 = .ok (.iload 5, 2) := by decide +kernel
theorem dX1_place_29 : decode cX1_place 29 = .ok (.invokevirtual 67, 3) := by decide +kernel
theorem dX1_place_32 : decode cX1_place 32 = .ok (.istore 8, 2) := by decide +kernel
theorem dX1_place_34 : decode cX1_place 34 = .ok (.aload_n 0, 1) := by decide +kernel
theorem dX1_place_35 : decode cX1_place 35 = .ok (.iload 8, 2) := by decide +kernel
theorem dX1_place_37 : decode cX1_place 37 = .ok (.invokevirtual 47, 3) := by decide +kernel
theorem dX1_place_40 : decode cX1_place 40 = .ok (.ifCond .ne 6, 3) := by decide +kernel
theorem dX1_place_43 : decode cX1_place 43 = .ok (.goto 68, 3) := by decide +kernel
theorem dX1_place_46 : decode cX1_place 46 = .ok (.iload 5, 2) := by decide +kernel
theorem dX1_place_48 : decode cX1_place 48 = .ok (.aload_n 0, 1) := by decide +kernel
theorem dX1_place_49 : decode cX1_place 49 = .ok (.iload 8, 2) := by decide +kernel
theorem dX1_place_51 : decode cX1_place 51 = .ok (.invokevirtual 70, 3) := by decide +kernel
theorem dX1_place_54 : decode cX1_place 54 = .ok (.invokestatic 73, 3) := by decide +kernel
theorem dX1_place_57 : decode cX1_place 57 = .ok (.istore 9, 2) := by decide +kernel
theorem dX1_place_59 : decode cX1_place 59 = .ok (.aload_n 0, 1) := by decide +kernel
theorem dX1_place_60 : decode cX1_place 60 = .ok (.iload 8, 2) := by decide +kernel
theorem dX1_place_62 : decode cX1_place 62 = .ok (.iload 9, 2) := by decide +kernel
theorem dX1_place_64 : decode cX1_place 64 = .ok (.invokevirtual 76, 3) := by decide +kernel
theorem dX1_place_67 : decode cX1_place 67 = .ok (.aload_n 0, 1) := by decide +kernel
theorem dX1_place_68 : decode cX1_place 68 = .ok (.iload 4, 2) := by decide +kernel
theorem dX1_place_70 : decode cX1_place 70 = .ok (.invokevirtual 47, 3) := by decide +kernel
theorem dX1_place_73 : decode cX1_place 73 = .ok (.ifCond .eq 15, 3) := by decide +kernel
theorem dX1_place_76 : decode cX1_place 76 = .ok (.aload_n 0, 1) := by decide +kernel
theorem dX1_place_77 : decode cX1_place 77 = .ok (.getfield 19, 3) := by decide +kernel
theorem dX1_place_80 : decode cX1_place 80 = .ok (.iload 4, 2) := by decide +kernel
theorem dX1_place_82 : decode cX1_place 82 = .ok (.iload 8, 2) := by decide +kernel
theorem dX1_place_84 : decode cX1_place 84 = .ok (.iastore, 1) := by decide +kernel
theorem dX1_place_85 : decode cX1_place 85 = .ok (.goto 6, 3) := by decide +kernel
theorem dX1_place_88 : decode cX1_place 88 = .ok (.iload 8, 2) := by decide +kernel
theorem dX1_place_90 : decode cX1_place 90 = .ok (.istore_n 3, 1) := by decide +kernel
theorem dX1_place_91 : decode cX1_place 91 = .ok (.iload 8, 2) := by decide +kernel
theorem dX1_place_93 : decode cX1_place 93 = .ok (.istore 4, 2) := by decide +kernel
theorem dX1_place_95 : decode cX1_place 95 = .ok (.iload 5, 2) := by decide +kernel
theorem dX1_place_97 : decode cX1_place 97 = .ok (.iload 9, 2) := by decide +kernel
theorem dX1_place_99 : decode cX1_place 99 = .ok (.isub, 1) := by decide +kernel
theorem dX1_place_100 : decode cX1_place 100 = .ok (.istore 5, 2) := by decide +kernel
theorem dX1_place_102 : decode cX1_place 102 = .ok (.iinc 6 1, 3) := by decide +kernel
theorem dX1_place_105 : decode cX1_place 105 = .ok (.iinc 7 1, 3) := by decide +kernel
theorem dX1_place_108 : decode cX1_place 108 = .ok (.goto (-94), 3) := by decide +kernel
theorem dX1_place_111 : decode cX1_place 111 = .ok (.aload_n 0, 1) := by decide +kernel
theorem dX1_place_112 : decode cX1_place 112 = .ok (.iload_n 3, 1) := by decide +kernel
theorem dX1_place_113 : decode cX1_place 113 = .ok (.invokevirtual 47, 3) := by decide +kernel
theorem dX1_place_116 : decode cX1_place 116 = .ok (.ifCond .eq 25, 3) := by decide +kernel
theorem dX1_place_119 : decode cX1_place 119 = .ok (.aload_n 0, 1) := by decide +kernel
theorem dX1_place_120 : decode cX1_place 120 = .ok (.getfield 22, 3) := by decide +kernel
theorem dX1_place_123 : decode cX1_place 123 = .ok (.iload_n 3, 1) := by decide +kernel
theorem dX1_place_124 : decode cX1_place 124 = .ok (.iload_n 1, 1) := by decide +kernel
theorem dX1_place_125 : decode cX1_place 125 = .ok (.iastore, 1) := by decide +kernel
theorem dX1_place_126 : decode cX1_place 126 = .ok (.aload_n 0, 1) := by decide +kernel
theorem dX1_place_127 : decode cX1_place 127 = .ok (.getfield 25, 3) := by decide +kernel
theorem dX1_place_130 : decode cX1_place 130 = .ok (.iload_n 3, 1) := by decide +kernel
theorem dX1_place_131 : decode cX1_place 131 = .ok (.iload_n 2, 1) := by decide +kernel
theorem dX1_place_132 : decode cX1_place 132 = .ok (.iastore, 1) := by decide +kernel
theorem dX1_place_133 : decode cX1_place 133 = .ok (.aload_n 0, 1) := by decide +kernel
theorem dX1_place_134 : decode cX1_place 134 = .ok (.getfield 28, 3) := by decide +kernel
theorem dX1_place_137 : decode cX1_place 137 = .ok (.iload_n 3, 1) := by decide +kernel
theorem dX1_place_138 : decode cX1_place 138 = .ok (.iload 6, 2) := by decide +kernel
theorem dX1_place_140 : decode cX1_place 140 = .ok (.iastore, 1) := by decide +kernel
theorem dX1_place_141 : decode cX1_place 141 = .ok (.iload_n 3, 1) := by decide +kernel
theorem dX1_place_142 : decode cX1_place 142 = .ok (.ireturn, 1) := by decide +kernel
theorem dX1_chooseRun_0 : decode cX1_chooseRun 0 = .ok (.iconst (-1), 1) := by decide +kernel
theorem dX1_chooseRun_1 : decode cX1_chooseRun 1 = .ok (.istore_n 2, 1) := by decide +kernel
theorem dX1_chooseRun_2 : decode cX1_chooseRun 2 = .ok (.iconst 0, 1) := by decide +kernel
theorem dX1_chooseRun_3 : decode cX1_chooseRun 3 = .ok (.istore_n 3, 1) := by decide +kernel
theorem dX1_chooseRun_4 : decode cX1_chooseRun 4 = .ok (.iconst 0, 1) := by decide +kernel
theorem dX1_chooseRun_5 : decode cX1_chooseRun 5 = .ok (.istore 4, 2) := by decide +kernel
theorem dX1_chooseRun_7 : decode cX1_chooseRun 7 = .ok (.iload 4, 2) := by decide +kernel
theorem dX1_chooseRun_9 : decode cX1_chooseRun 9 = .ok (.aload_n 0, 1) := by decide +kernel
theorem dX1_chooseRun_10 : decode cX1_chooseRun 10 = .ok (.getfield 37, 3) := by decide +kernel
theorem dX1_chooseRun_13 : decode cX1_chooseRun 13 = .ok (.if_icmp .ge 42, 3) := by decide +kernel
theorem dX1_chooseRun_16 : decode cX1_chooseRun 16 = .ok (.aload_n 0, 1) := by decide +kernel
theorem dX1_chooseRun_17 : decode cX1_chooseRun 17 = .ok (.iload 4, 2) := by decide +kernel
theorem dX1_chooseRun_19 : decode cX1_chooseRun 19 = .ok (.invokevirtual 64, 3) := by decide +kernel
theorem dX1_chooseRun_22 : decode cX1_chooseRun 22 = .ok (.ifCond .eq 27, 3) := by decide +kernel
theorem dX1_chooseRun_25 : decode cX1_chooseRun 25 = .ok (.aload_n 0, 1) := by decide +kernel
theorem dX1_chooseRun_26 : decode cX1_chooseRun 26 = .ok (.iload 4, 2) := by decide +kernel
theorem dX1_chooseRun_28 : decode cX1_chooseRun 28 = .ok (.invokevirtual 70, 3) := by decide +kernel
theorem dX1_chooseRun_31 : decode cX1_chooseRun 31 = .ok (.istore 5, 2) := by decide +kernel
theorem dX1_chooseRun_33 : decode cX1_chooseRun 33 = .ok (.iload 5, 2) := by decide +kernel
theorem dX1_chooseRun_35 : decode cX1_chooseRun 35 = .ok (.iload_n 3, 1) := by decide +kernel
theorem dX1_chooseRun_36 : decode cX1_chooseRun 36 = .ok (.iload_n 1, 1) := by decide +kernel
theorem dX1_chooseRun_37 : decode cX1_chooseRun 37 = .ok (.invokestatic 80, 3) := by decide +kernel
theorem dX1_chooseRun_40 : decode cX1_chooseRun 40 = .ok (.ifCond .eq 9, 3) := by decide +kernel
theorem dX1_chooseRun_43 : decode cX1_chooseRun 43 = .ok (.iload 4, 2) := by decide +kernel
theorem dX1_chooseRun_45 : decode cX1_chooseRun 45 = .ok (.istore_n 2, 1) := by decide +kernel
theorem dX1_chooseRun_46 : decode cX1_chooseRun 46 = .ok (.iload 5, 2) := by decide +kernel
theorem dX1_chooseRun_48 : decode cX1_chooseRun 48 = .ok (.istore_n 3, 1) := by decide +kernel
theorem dX1_chooseRun_49 : decode cX1_chooseRun 49 = .ok (.iinc 4 1, 3) := by decide +kernel
theorem dX1_chooseRun_52 : decode cX1_chooseRun 52 = .ok (.goto (-45), 3) := by decide +kernel
theorem dX1_chooseRun_55 : decode cX1_chooseRun 55 = .ok (.iload_n 2, 1) := by decide +kernel
theorem dX1_chooseRun_56 : decode cX1_chooseRun 56 = .ok (.ireturn, 1) := by decide +kernel
theorem dX1_suitsBetter_0 : decode cX1_suitsBetter 0 = .ok (.iload_n 1, 1) := by decide +kernel
theorem dX1_suitsBetter_1 : decode cX1_suitsBetter 1 = .ok (.iload_n 2, 1) := by decide +kernel
theorem dX1_suitsBetter_2 : decode cX1_suitsBetter 2 = .ok (.if_icmp .lt 19, 3) := by decide +kernel
theorem dX1_suitsBetter_5 : decode cX1_suitsBetter 5 = .ok (.iload_n 0, 1) := by decide +kernel
theorem dX1_suitsBetter_6 : decode cX1_suitsBetter 6 = .ok (.iload_n 2, 1) := by decide +kernel
theorem dX1_suitsBetter_7 : decode cX1_suitsBetter 7 = .ok (.if_icmp .lt 12, 3) := by decide +kernel
theorem dX1_suitsBetter_10 : decode cX1_suitsBetter 10 = .ok (.iload_n 0, 1) := by decide +kernel
theorem dX1_suitsBetter_11 : decode cX1_suitsBetter 11 = .ok (.iload_n 1, 1) := by decide +kernel
theorem dX1_suitsBetter_12 : decode cX1_suitsBetter 12 = .ok (.if_icmp .ge 7, 3) := by decide +kernel
theorem dX1_suitsBetter_15 : decode cX1_suitsBetter 15 = .ok (.iconst 1, 1) := by decide +kernel
theorem dX1_suitsBetter_16 : decode cX1_suitsBetter 16 = .ok (.goto 4, 3) := by decide +kernel
theorem dX1_suitsBetter_19 : decode cX1_suitsBetter 19 = .ok (.iconst 0, 1) := by decide +kernel
theorem dX1_suitsBetter_20 : decode cX1_suitsBetter 20 = .ok (.ireturn, 1) := by decide +kernel
theorem dX1_suitsBetter_21 : decode cX1_suitsBetter 21 = .ok (.iload_n 0, 1) := by decide +kernel
theorem dX1_suitsBetter_22 : decode cX1_suitsBetter 22 = .ok (.iload_n 1, 1) := by decide +kernel
theorem dX1_suitsBetter_23 : decode cX1_suitsBetter 23 = .ok (.if_icmp .le 7, 3) := by decide +kernel
theorem dX1_suitsBetter_26 : decode cX1_suitsBetter 26 = .ok (.iconst 1, 1) := by decide +kernel
theorem dX1_suitsBetter_27 : decode cX1_suitsBetter 27 = .ok (.goto 4, 3) := by decide +kernel
theorem dX1_suitsBetter_30 : decode cX1_suitsBetter 30 = .ok (.iconst 0, 1) := by decide +kernel
theorem dX1_suitsBetter_31 : decode cX1_suitsBetter 31 = .ok (.ireturn, 1) := by decide +kernel
theorem dX1_occupy_0 : decode cX1_occupy 0 = .ok (.iload_n 1, 1) := by decide +kernel
theorem dX1_occupy_1 : decode cX1_occupy 1 = .ok (.istore_n 3, 1) := by decide +kernel
theorem dX1_occupy_2 : decode cX1_occupy 2 = .ok (.iload_n 3, 1) := by decide +kernel
theorem dX1_occupy_3 : decode cX1_occupy 3 = .ok (.iload_n 1, 1) := by decide +kernel
theorem dX1_occupy_4 : decode cX1_occupy 4 = .ok (.iload_n 2, 1) := by decide +kernel
theorem dX1_occupy_5 : decode cX1_occupy 5 = .ok (.iadd, 1) := by decide +kernel
theorem dX1_occupy_6 : decode cX1_occupy 6 = .ok (.if_icmp .ge 23, 3) := by decide +kernel
theorem dX1_occupy_9 : decode cX1_occupy 9 = .ok (.iload_n 3, 1) := by decide +kernel
theorem dX1_occupy_10 : decode cX1_occupy 10 = .ok (.sipush 128, 3) := by decide +kernel
theorem dX1_occupy_13 : decode cX1_occupy 13 = .ok (.if_icmp .ge 16, 3) := by decide +kernel
theorem dX1_occupy_16 : decode cX1_occupy 16 = .ok (.aload_n 0, 1) := by decide +kernel
theorem dX1_occupy_17 : decode cX1_occupy 17 = .ok (.getfield 9, 3) := by decide +kernel
theorem dX1_occupy_20 : decode cX1_occupy 20 = .ok (.iload_n 3, 1) := by decide +kernel
theorem dX1_occupy_21 : decode cX1_occupy 21 = .ok (.iconst 1, 1) := by decide +kernel
theorem dX1_occupy_22 : decode cX1_occupy 22 = .ok (.bastore, 1) := by decide +kernel
theorem dX1_occupy_23 : decode cX1_occupy 23 = .ok (.iinc 3 1, 3) := by decide +kernel
theorem dX1_occupy_26 : decode cX1_occupy 26 = .ok (.goto (-24), 3) := by decide +kernel
theorem dX1_occupy_29 : decode cX1_occupy 29 = .ok (.aload_n 0, 1) := by decide +kernel
theorem dX1_occupy_30 : decode cX1_occupy 30 = .ok (.getfield 15, 3) := by decide +kernel
theorem dX1_occupy_33 : decode cX1_occupy 33 = .ok (.iload_n 1, 1) := by decide +kernel
theorem dX1_occupy_34 : decode cX1_occupy 34 = .ok (.iload_n 2, 1) := by decide +kernel
theorem dX1_occupy_35 : decode cX1_occupy 35 = .ok (.iastore, 1) := by decide +kernel
theorem dX1_occupy_36 : decode cX1_occupy 36 = .ok (.aload_n 0, 1) := by decide +kernel
theorem dX1_occupy_37 : decode cX1_occupy 37 = .ok (.getfield 19, 3) := by decide +kernel
theorem dX1_occupy_40 : decode cX1_occupy 40 = .ok (.iload_n 1, 1) := by decide +kernel
theorem dX1_occupy_41 : decode cX1_occupy 41 = .ok (.iconst (-1), 1) := by decide +kernel
theorem dX1_occupy_42 : decode cX1_occupy 42 = .ok (.iastore, 1) := by decide +kernel
theorem dX1_occupy_43 : decode cX1_occupy 43 = .ok (.return_, 1) := by decide +kernel
theorem dX1_release_0 : decode cX1_release 0 = .ok (.iload_n 1, 1) := by decide +kernel
theorem dX1_release_1 : decode cX1_release 1 = .ok (.istore_n 2, 1) := by decide +kernel
theorem dX1_release_2 : decode cX1_release 2 = .ok (.iconst 0, 1) := by decide +kernel
theorem dX1_release_3 : decode cX1_release 3 = .ok (.istore_n 3, 1) := by decide +kernel
theorem dX1_release_4 : decode cX1_release 4 = .ok (.iload_n 3, 1) := by decide +kernel
theorem dX1_release_5 : decode cX1_release 5 = .ok (.bipush 12, 2) := by decide +kernel
theorem dX1_release_7 : decode cX1_release 7 = .ok (.if_icmp .ge 64, 3) := by decide +kernel
theorem dX1_release_10 : decode cX1_release 10 = .ok (.aload_n 0, 1) := by decide +kernel
theorem dX1_release_11 : decode cX1_release 11 = .ok (.iload_n 2, 1) := by decide +kernel
theorem dX1_release_12 : decode cX1_release 12 = .ok (.invokevirtual 47, 3) := by decide +kernel
theorem dX1_release_15 : decode cX1_release 15 = .ok (.ifCond .eq 56, 3) := by decide +kernel
theorem dX1_release_18 : decode cX1_release 18 = .ok (.sipush 128, 3) := by decide +kernel
theorem dX1_release_21 : decode cX1_release 21 = .ok (.iload_n 2, 1) := by decide +kernel
theorem dX1_release_22 : decode cX1_release 22 = .ok (.aload_n 0, 1) := by decide +kernel
theorem dX1_release_23 : decode cX1_release 23 = .ok (.getfield 15, 3) := by decide +kernel
theorem dX1_release_26 : decode cX1_release 26 = .ok (.iload_n 2, 1) := by decide +kernel
theorem dX1_release_27 : decode cX1_release 27 = .ok (.iaload, 1) := by decide +kernel
theorem dX1_release_28 : decode cX1_release 28 = .ok (.iadd, 1) := by decide +kernel
theorem dX1_release_29 : decode cX1_release 29 = .ok (.invokestatic 73, 3) := by decide +kernel
theorem dX1_release_32 : decode cX1_release 32 = .ok (.istore 4, 2) := by decide +kernel
theorem dX1_release_34 : decode cX1_release 34 = .ok (.iload_n 2, 1) := by decide +kernel
theorem dX1_release_35 : decode cX1_release 35 = .ok (.istore 5, 2) := by decide +kernel
theorem dX1_release_37 : decode cX1_release 37 = .ok (.iload 5, 2) := by decide +kernel
theorem dX1_release_39 : decode cX1_release 39 = .ok (.iload 4, 2) := by decide +kernel
theorem dX1_release_41 : decode cX1_release 41 = .ok (.if_icmp .ge 17, 3) := by decide +kernel
theorem dX1_release_44 : decode cX1_release 44 = .ok (.aload_n 0, 1) := by decide +kernel
theorem dX1_release_45 : decode cX1_release 45 = .ok (.getfield 9, 3) := by decide +kernel
theorem dX1_release_48 : decode cX1_release 48 = .ok (.iload 5, 2) := by decide +kernel
theorem dX1_release_50 : decode cX1_release 50 = .ok (.iconst 0, 1) := by decide +kernel
theorem dX1_release_51 : decode cX1_release 51 = .ok (.bastore, 1) := by decide +kernel
theorem dX1_release_52 : decode cX1_release 52 = .ok (.iinc 5 1, 3) := by decide +kernel
theorem dX1_release_55 : decode cX1_release 55 = .ok (.goto (-18), 3) := by decide +kernel
theorem dX1_release_58 : decode cX1_release 58 = .ok (.aload_n 0, 1) := by decide +kernel
theorem dX1_release_59 : decode cX1_release 59 = .ok (.getfield 19, 3) := by decide +kernel
theorem dX1_release_62 : decode cX1_release 62 = .ok (.iload_n 2, 1) := by decide +kernel
theorem dX1_release_63 : decode cX1_release 63 = .ok (.iaload, 1) := by decide +kernel
theorem dX1_release_64 : decode cX1_release 64 = .ok (.istore_n 2, 1) := by decide +kernel
theorem dX1_release_65 : decode cX1_release 65 = .ok (.iinc 3 1, 3) := by decide +kernel
theorem dX1_release_68 : decode cX1_release 68 = .ok (.goto (-64), 3) := by decide +kernel
theorem dX1_release_71 : decode cX1_release 71 = .ok (.aload_n 0, 1) := by decide +kernel
theorem dX1_release_72 : decode cX1_release 72 = .ok (.iload_n 1, 1) := by decide +kernel
theorem dX1_release_73 : decode cX1_release 73 = .ok (.invokevirtual 47, 3) := by decide +kernel
theorem dX1_release_76 : decode cX1_release 76 = .ok (.ifCond .eq 10, 3) := by decide +kernel
theorem dX1_release_79 : decode cX1_release 79 = .ok (.aload_n 0, 1) := by decide +kernel
theorem dX1_release_80 : decode cX1_release 80 = .ok (.getfield 22, 3) := by decide +kernel
theorem dX1_release_83 : decode cX1_release 83 = .ok (.iload_n 1, 1) := by decide +kernel
theorem dX1_release_84 : decode cX1_release 84 = .ok (.iconst (-1), 1) := by decide +kernel
theorem dX1_release_85 : decode cX1_release 85 = .ok (.iastore, 1) := by decide +kernel
theorem dX1_release_86 : decode cX1_release 86 = .ok (.return_, 1) := by decide +kernel
theorem dX1_joinQueue_0 : decode cX1_joinQueue 0 = .ok (.aload_n 0, 1) := by decide +kernel
theorem dX1_joinQueue_1 : decode cX1_joinQueue 1 = .ok (.iload_n 2, 1) := by decide +kernel
theorem dX1_joinQueue_2 : decode cX1_joinQueue 2 = .ok (.invokevirtual 47, 3) := by decide +kernel
theorem dX1_joinQueue_5 : decode cX1_joinQueue 5 = .ok (.ifCond .ne 4, 3) := by decide +kernel
theorem dX1_joinQueue_8 : decode cX1_joinQueue 8 = .ok (.return_, 1) := by decide +kernel
theorem dX1_joinQueue_9 : decode cX1_joinQueue 9 = .ok (.aload_n 0, 1) := by decide +kernel
theorem dX1_joinQueue_10 : decode cX1_joinQueue 10 = .ok (.getfield 31, 3) := by decide +kernel
theorem dX1_joinQueue_13 : decode cX1_joinQueue 13 = .ok (.iload_n 2, 1) := by decide +kernel
theorem dX1_joinQueue_14 : decode cX1_joinQueue 14 = .ok (.aload_n 1, 1) := by decide +kernel
theorem dX1_joinQueue_15 : decode cX1_joinQueue 15 = .ok (.getfield 84, 3) := by decide +kernel
theorem dX1_joinQueue_18 : decode cX1_joinQueue 18 = .ok (.iastore, 1) := by decide +kernel
theorem dX1_joinQueue_19 : decode cX1_joinQueue 19 = .ok (.aload_n 0, 1) := by decide +kernel
theorem dX1_joinQueue_20 : decode cX1_joinQueue 20 = .ok (.getfield 34, 3) := by decide +kernel
theorem dX1_joinQueue_23 : decode cX1_joinQueue 23 = .ok (.iload_n 2, 1) := by decide +kernel
theorem dX1_joinQueue_24 : decode cX1_joinQueue 24 = .ok (.iconst (-1), 1) := by decide +kernel
theorem dX1_joinQueue_25 : decode cX1_joinQueue 25 = .ok (.iastore, 1) := by decide +kernel
theorem dX1_joinQueue_26 : decode cX1_joinQueue 26 = .ok (.aload_n 0, 1) := by decide +kernel
theorem dX1_joinQueue_27 : decode cX1_joinQueue 27 = .ok (.aload_n 1, 1) := by decide +kernel
theorem dX1_joinQueue_28 : decode cX1_joinQueue 28 = .ok (.getfield 84, 3) := by decide +kernel
theorem dX1_joinQueue_31 : decode cX1_joinQueue 31 = .ok (.invokevirtual 47, 3) := by decide +kernel
theorem dX1_joinQueue_34 : decode cX1_joinQueue 34 = .ok (.ifCond .eq 16, 3) := by decide +kernel
theorem dX1_joinQueue_37 : decode cX1_joinQueue 37 = .ok (.aload_n 0, 1) := by decide +kernel
theorem dX1_joinQueue_38 : decode cX1_joinQueue 38 = .ok (.getfield 34, 3) := by decide +kernel
theorem dX1_joinQueue_41 : decode cX1_joinQueue 41 = .ok (.aload_n 1, 1) := by decide +kernel
theorem dX1_joinQueue_42 : decode cX1_joinQueue 42 = .ok (.getfield 84, 3) := by decide +kernel
theorem dX1_joinQueue_45 : decode cX1_joinQueue 45 = .ok (.iload_n 2, 1) := by decide +kernel
theorem dX1_joinQueue_46 : decode cX1_joinQueue 46 = .ok (.iastore, 1) := by decide +kernel
theorem dX1_joinQueue_47 : decode cX1_joinQueue 47 = .ok (.goto 8, 3) := by decide +kernel
theorem dX1_joinQueue_50 : decode cX1_joinQueue 50 = .ok (.aload_n 1, 1) := by decide +kernel
theorem dX1_joinQueue_51 : decode cX1_joinQueue 51 = .ok (.iload_n 2, 1) := by decide +kernel
theorem dX1_joinQueue_52 : decode cX1_joinQueue 52 = .ok (.putfield 89, 3) := by decide +kernel
theorem dX1_joinQueue_55 : decode cX1_joinQueue 55 = .ok (.aload_n 1, 1) := by decide +kernel
theorem dX1_joinQueue_56 : decode cX1_joinQueue 56 = .ok (.iload_n 2, 1) := by decide +kernel
theorem dX1_joinQueue_57 : decode cX1_joinQueue 57 = .ok (.putfield 84, 3) := by decide +kernel
theorem dX1_joinQueue_60 : decode cX1_joinQueue 60 = .ok (.aload_n 1, 1) := by decide +kernel
theorem dX1_joinQueue_61 : decode cX1_joinQueue 61 = .ok (.dup, 1) := by decide +kernel
theorem dX1_joinQueue_62 : decode cX1_joinQueue 62 = .ok (.getfield 92, 3) := by decide +kernel
theorem dX1_joinQueue_65 : decode cX1_joinQueue 65 = .ok (.iconst 1, 1) := by decide +kernel
theorem dX1_joinQueue_66 : decode cX1_joinQueue 66 = .ok (.iadd, 1) := by decide +kernel
theorem dX1_joinQueue_67 : decode cX1_joinQueue 67 = .ok (.putfield 92, 3) := by decide +kernel
theorem dX1_joinQueue_70 : decode cX1_joinQueue 70 = .ok (.return_, 1) := by decide +kernel
theorem dX1_leaveQueue_0 : decode cX1_leaveQueue 0 = .ok (.aload_n 0, 1) := by decide +kernel
theorem dX1_leaveQueue_1 : decode cX1_leaveQueue 1 = .ok (.iload_n 2, 1) := by decide +kernel
theorem dX1_leaveQueue_2 : decode cX1_leaveQueue 2 = .ok (.invokevirtual 47, 3) := by decide +kernel
theorem dX1_leaveQueue_5 : decode cX1_leaveQueue 5 = .ok (.ifCond .ne 4, 3) := by decide +kernel
theorem dX1_leaveQueue_8 : decode cX1_leaveQueue 8 = .ok (.return_, 1) := by decide +kernel
theorem dX1_leaveQueue_9 : decode cX1_leaveQueue 9 = .ok (.aload_n 0, 1) := by decide +kernel
theorem dX1_leaveQueue_10 : decode cX1_leaveQueue 10 = .ok (.getfield 31, 3) := by decide +kernel
theorem dX1_leaveQueue_13 : decode cX1_leaveQueue 13 = .ok (.iload_n 2, 1) := by decide +kernel
theorem dX1_leaveQueue_14 : decode cX1_leaveQueue 14 = .ok (.iaload, 1) := by decide +kernel
theorem dX1_leaveQueue_15 : decode cX1_leaveQueue 15 = .ok (.istore_n 3, 1) := by decide +kernel
theorem dX1_leaveQueue_16 : decode cX1_leaveQueue 16 = .ok (.aload_n 0, 1) := by decide +kernel
theorem dX1_leaveQueue_17 : decode cX1_leaveQueue 17 = .ok (.getfield 34, 3) := by decide +kernel
theorem dX1_leaveQueue_20 : decode cX1_leaveQueue 20 = .ok (.iload_n 2, 1) := by decide +kernel
theorem dX1_leaveQueue_21 : decode cX1_leaveQueue 21 = .ok (.iaload, 1) := by decide +kernel
theorem dX1_leaveQueue_22 : decode cX1_leaveQueue 22 = .ok (.istore 4, 2) := by decide +kernel
theorem dX1_leaveQueue_24 : decode cX1_leaveQueue 24 = .ok (.aload_n 0, 1) := by decide +kernel
theorem dX1_leaveQueue_25 : decode cX1_leaveQueue 25 = .ok (.iload_n 3, 1) := by decide +kernel
theorem dX1_leaveQueue_26 : decode cX1_leaveQueue 26 = .ok (.invokevirtual 47, 3) := by decide +kernel
theorem dX1_leaveQueue_29 : decode cX1_leaveQueue 29 = .ok (.ifCond .eq 14, 3) := by decide +kernel
theorem dX1_leaveQueue_32 : decode cX1_leaveQueue 32 = .ok (.aload_n 0, 1) := by decide +kernel
theorem dX1_leaveQueue_33 : decode cX1_leaveQueue 33 = .ok (.getfield 34, 3) := by decide +kernel
theorem dX1_leaveQueue_36 : decode cX1_leaveQueue 36 = .ok (.iload_n 3, 1) := by decide +kernel
theorem dX1_leaveQueue_37 : decode cX1_leaveQueue 37 = .ok (.iload 4, 2) := by decide +kernel
theorem dX1_leaveQueue_39 : decode cX1_leaveQueue 39 = .ok (.iastore, 1) := by decide +kernel
theorem dX1_leaveQueue_40 : decode cX1_leaveQueue 40 = .ok (.goto 9, 3) := by decide +kernel
theorem dX1_leaveQueue_43 : decode cX1_leaveQueue 43 = .ok (.aload_n 1, 1) := by decide +kernel
theorem dX1_leaveQueue_44 : decode cX1_leaveQueue 44 = .ok (.iload 4, 2) := by decide +kernel
theorem dX1_leaveQueue_46 : decode cX1_leaveQueue 46 = .ok (.putfield 89, 3) := by decide +kernel
theorem dX1_leaveQueue_49 : decode cX1_leaveQueue 49 = .ok (.aload_n 0, 1) := by decide +kernel
theorem dX1_leaveQueue_50 : decode cX1_leaveQueue 50 = .ok (.iload 4, 2) := by decide +kernel
theorem dX1_leaveQueue_52 : decode cX1_leaveQueue 52 = .ok (.invokevirtual 47, 3) := by decide +kernel
theorem dX1_leaveQueue_55 : decode cX1_leaveQueue 55 = .ok (.ifCond .eq 14, 3) := by decide +kernel
theorem dX1_leaveQueue_58 : decode cX1_leaveQueue 58 = .ok (.aload_n 0, 1) := by decide +kernel
theorem dX1_leaveQueue_59 : decode cX1_leaveQueue 59 = .ok (.getfield 31, 3) := by decide +kernel
theorem dX1_leaveQueue_62 : decode cX1_leaveQueue 62 = .ok (.iload 4, 2) := by decide +kernel
theorem dX1_leaveQueue_64 : decode cX1_leaveQueue 64 = .ok (.iload_n 3, 1) := by decide +kernel
theorem dX1_leaveQueue_65 : decode cX1_leaveQueue 65 = .ok (.iastore, 1) := by decide +kernel
theorem dX1_leaveQueue_66 : decode cX1_leaveQueue 66 = .ok (.goto 8, 3) := by decide +kernel
theorem dX1_leaveQueue_69 : decode cX1_leaveQueue 69 = .ok (.aload_n 1, 1) := by decide +kernel
theorem dX1_leaveQueue_70 : decode cX1_leaveQueue 70 = .ok (.iload_n 3, 1) := by decide +kernel
theorem dX1_leaveQueue_71 : decode cX1_leaveQueue 71 = .ok (.putfield 84, 3) := by decide +kernel
theorem dX1_leaveQueue_74 : decode cX1_leaveQueue 74 = .ok (.aload_n 1, 1) := by decide +kernel
theorem dX1_leaveQueue_75 : decode cX1_leaveQueue 75 = .ok (.dup, 1) := by decide +kernel
theorem dX1_leaveQueue_76 : decode cX1_leaveQueue 76 = .ok (.getfield 92, 3) := by decide +kernel
theorem dX1_leaveQueue_79 : decode cX1_leaveQueue 79 = .ok (.iconst 1, 1) := by decide +kernel
theorem dX1_leaveQueue_80 : decode cX1_leaveQueue 80 = .ok (.isub, 1) := by decide +kernel
theorem dX1_leaveQueue_81 : decode cX1_leaveQueue 81 = .ok (.putfield 92, 3) := by decide +kernel
theorem dX1_leaveQueue_84 : decode cX1_leaveQueue 84 = .ok (.return_, 1) := by decide +kernel
theorem dX2_init_0 : decode cX2_init 0 = .ok (.aload_n 0, 1) := by decide +kernel
theorem dX2_init_1 : decode cX2_init 1 = .ok (.invokespecial 3, 3) := by decide +kernel
theorem dX2_init_4 : decode cX2_init 4 = .ok (.aload_n 0, 1) := by decide +kernel
theorem dX2_init_5 : decode cX2_init 5 = .ok (.iconst 3, 1) := by decide +kernel
theorem dX2_init_6 : decode cX2_init 6 = .ok (.anewarray 9, 3) := by decide +kernel
theorem dX2_init_9 : decode cX2_init 9 = .ok (.putfield 11, 3) := by decide +kernel
theorem dX2_init_12 : decode cX2_init 12 = .ok (.iconst 0, 1) := by decide +kernel
theorem dX2_init_13 : decode cX2_init 13 = .ok (.istore_n 1, 1) := by decide +kernel
theorem dX2_init_14 : decode cX2_init 14 = .ok (.iload_n 1, 1) := by decide +kernel
theorem dX2_init_15 : decode cX2_init 15 = .ok (.iconst 3, 1) := by decide +kernel
theorem dX2_init_16 : decode cX2_init 16 = .ok (.if_icmp .ge 23, 3) := by decide +kernel
theorem dX2_init_19 : decode cX2_init 19 = .ok (.aload_n 0, 1) := by decide +kernel
theorem dX2_init_20 : decode cX2_init 20 = .ok (.getfield 11, 3) := by decide +kernel
theorem dX2_init_23 : decode cX2_init 23 = .ok (.iload_n 1, 1) := by decide +kernel
theorem dX2_init_24 : decode cX2_init 24 = .ok (.new 9, 3) := by decide +kernel
theorem dX2_init_27 : decode cX2_init 27 = .ok (.dup, 1) := by decide +kernel
theorem dX2_init_28 : decode cX2_init 28 = .ok (.iload_n 1, 1) := by decide +kernel
theorem dX2_init_29 : decode cX2_init 29 = .ok (.invokespecial 17, 3) := by decide +kernel
theorem dX2_init_32 : decode cX2_init 32 = .ok (.aastore, 1) := by decide +kernel
theorem dX2_init_33 : decode cX2_init 33 = .ok (.iinc 1 1, 3) := by decide +kernel
theorem dX2_init_36 : decode cX2_init 36 = .ok (.goto (-22), 3) := by decide +kernel
theorem dX2_init_39 : decode cX2_init 39 = .ok (.aload_n 0, 1) := by decide +kernel
theorem dX2_init_40 : decode cX2_init 40 = .ok (.bipush 10, 2) := by decide +kernel
theorem dX2_init_42 : decode cX2_init 42 = .ok (.newarray .int, 2) := by decide +kernel
theorem dX2_init_44 : decode cX2_init 44 = .ok (.putfield 20, 3) := by decide +kernel
theorem dX2_init_47 : decode cX2_init 47 = .ok (.return_, 1) := by decide +kernel
theorem dX2_startAnew_0 : decode cX2_startAnew 0 = .ok (.aload_n 0, 1) := by decide +kernel
theorem dX2_startAnew_1 : decode cX2_startAnew 1 = .ok (.getfield 11, 3) := by decide +kernel
theorem dX2_startAnew_4 : decode cX2_startAnew 4 = .ok (.astore_n 1, 1) := by decide +kernel
theorem dX2_startAnew_5 : decode cX2_startAnew 5 = .ok (.aload_n 1, 1) := by decide +kernel
theorem dX2_startAnew_6 : decode cX2_startAnew 6 = .ok (.arraylength, 1) := by decide +kernel
theorem dX2_startAnew_7 : decode cX2_startAnew 7 = .ok (.istore_n 2, 1) := by decide +kernel
theorem dX2_startAnew_8 : decode cX2_startAnew 8 = .ok (.iconst 0, 1) := by decide +kernel
theorem dX2_startAnew_9 : decode cX2_startAnew 9 = .ok (.istore_n 3, 1) := by decide +kernel
theorem dX2_startAnew_10 : decode cX2_startAnew 10 = .ok (.iload_n 3, 1) := by decide +kernel
theorem dX2_startAnew_11 : decode cX2_startAnew 11 = .ok (.iload_n 2, 1) := by decide +kernel
theorem dX2_startAnew_12 : decode cX2_startAnew 12 = .ok (.if_icmp .ge 19, 3) := by decide +kernel
theorem dX2_startAnew_15 : decode cX2_startAnew 15 = .ok (.aload_n 1, 1) := by decide +kernel
theorem dX2_startAnew_16 : decode cX2_startAnew 16 = .ok (.iload_n 3, 1) := by decide +kernel
theorem dX2_startAnew_17 : decode cX2_startAnew 17 = .ok (.aaload, 1) := by decide +kernel
theorem dX2_startAnew_18 : decode cX2_startAnew 18 = .ok (.astore 4, 2) := by decide +kernel
theorem dX2_startAnew_20 : decode cX2_startAnew 20 = .ok (.aload 4, 2) := by decide +kernel
theorem dX2_startAnew_22 : decode cX2_startAnew 22 = .ok (.invokevirtual 24, 3) := by decide +kernel
theorem dX2_startAnew_25 : decode cX2_startAnew 25 = .ok (.iinc 3 1, 3) := by decide +kernel
theorem dX2_startAnew_28 : decode cX2_startAnew 28 = .ok (.goto (-18), 3) := by decide +kernel
theorem dX2_startAnew_31 : decode cX2_startAnew 31 = .ok (.iconst 0, 1) := by decide +kernel
theorem dX2_startAnew_32 : decode cX2_startAnew 32 = .ok (.istore_n 1, 1) := by decide +kernel
theorem dX2_startAnew_33 : decode cX2_startAnew 33 = .ok (.iload_n 1, 1) := by decide +kernel
theorem dX2_startAnew_34 : decode cX2_startAnew 34 = .ok (.aload_n 0, 1) := by decide +kernel
theorem dX2_startAnew_35 : decode cX2_startAnew 35 = .ok (.getfield 20, 3) := by decide +kernel
theorem dX2_startAnew_38 : decode cX2_startAnew 38 = .ok (.arraylength, 1) := by decide +kernel
theorem dX2_startAnew_39 : decode cX2_startAnew 39 = .ok (.if_icmp .ge 16, 3) := by decide +kernel
theorem dX2_startAnew_42 : decode cX2_startAnew 42 = .ok (.aload_n 0, 1) := by decide +kernel
theorem dX2_startAnew_43 : decode cX2_startAnew 43 = .ok (.getfield 20, 3) := by decide +kernel
theorem dX2_startAnew_46 : decode cX2_startAnew 46 = .ok (.iload_n 1, 1) := by decide +kernel
theorem dX2_startAnew_47 : decode cX2_startAnew 47 = .ok (.iconst 0, 1) := by decide +kernel
theorem dX2_startAnew_48 : decode cX2_startAnew 48 = .ok (.iastore, 1) := by decide +kernel
theorem dX2_startAnew_49 : decode cX2_startAnew 49 = .ok (.iinc 1 1, 3) := by decide +kernel
theorem dX2_startAnew_52 : decode cX2_startAnew 52 = .ok (.goto (-19), 3) := by decide +kernel
theorem dX2_startAnew_55 : decode cX2_startAnew 55 = .ok (.aload_n 0, 1) := by decide +kernel
theorem dX2_startAnew_56 : decode cX2_startAnew 56 = .ok (.iconst 0, 1) := by decide +kernel
theorem dX2_startAnew_57 : decode cX2_startAnew 57 = .ok (.putfield 27, 3) := by decide +kernel
theorem dX2_startAnew_60 : decode cX2_startAnew 60 = .ok (.aload_n 0, 1) := by decide +kernel
theorem dX2_startAnew_61 : decode cX2_startAnew 61 = .ok (.iconst 0, 1) := by decide +kernel
theorem dX2_startAnew_62 : decode cX2_startAnew 62 = .ok (.putfield 31, 3) := by decide +kernel
theorem dX2_startAnew_65 : decode cX2_startAnew 65 = .ok (.aload_n 0, 1) := by decide +kernel
theorem dX2_startAnew_66 : decode cX2_startAnew 66 = .ok (.iconst 0, 1) := by decide +kernel
theorem dX2_startAnew_67 : decode cX2_startAnew 67 = .ok (.putfield 34, 3) := by decide +kernel
theorem dX2_startAnew_70 : decode cX2_startAnew 70 = .ok (.aload_n 0, 1) := by decide +kernel
theorem dX2_startAnew_71 : decode cX2_startAnew 71 = .ok (.iconst 0, 1) := by decide +kernel
theorem dX2_startAnew_72 : decode cX2_startAnew 72 = .ok (.putfield 37, 3) := by decide +kernel
theorem dX2_startAnew_75 : decode cX2_startAnew 75 = .ok (.aload_n 0, 1) := by decide +kernel
theorem dX2_startAnew_76 : decode cX2_startAnew 76 = .ok (.iconst 4, 1) := by decide +kernel
theorem dX2_startAnew_77 : decode cX2_startAnew 77 = .ok (.putfield 41, 3) := by decide +kernel
theorem dX2_startAnew_80 : decode cX2_startAnew 80 = .ok (.aload_n 0, 1) := by decide +kernel
theorem dX2_startAnew_81 : decode cX2_startAnew 81 = .ok (.invokevirtual 44, 3) := by decide +kernel
theorem dX2_startAnew_84 : decode cX2_startAnew 84 = .ok (.aload_n 0, 1) := by decide +kernel
theorem dX2_startAnew_85 : decode cX2_startAnew 85 = .ok (.iconst 0, 1) := by decide +kernel
theorem dX2_startAnew_86 : decode cX2_startAnew 86 = .ok (.putfield 47, 3) := by decide +kernel
theorem dX2_startAnew_89 : decode cX2_startAnew 89 = .ok (.aload_n 0, 1) := by decide +kernel
theorem dX2_startAnew_90 : decode cX2_startAnew 90 = .ok (.iconst 0, 1) := by decide +kernel
theorem dX2_startAnew_91 : decode cX2_startAnew 91 = .ok (.putfield 50, 3) := by decide +kernel
theorem dX2_startAnew_94 : decode cX2_startAnew 94 = .ok (.return_, 1) := by decide +kernel
theorem dX2_copyFrom_0 : decode cX2_copyFrom 0 = .ok (.iconst 0, 1) := by decide +kernel
theorem dX2_copyFrom_1 : decode cX2_copyFrom 1 = .ok (.istore_n 2, 1) := by decide +kernel
theorem dX2_copyFrom_2 : decode cX2_copyFrom 2 = .ok (.iload_n 2, 1) := by decide +kernel
theorem dX2_copyFrom_3 : decode cX2_copyFrom 3 = .ok (.iconst 3, 1) := by decide +kernel
theorem dX2_copyFrom_4 : decode cX2_copyFrom 4 = .ok (.if_icmp .ge 24, 3) := by decide +kernel
theorem dX2_copyFrom_7 : decode cX2_copyFrom 7 = .ok (.aload_n 0, 1) := by decide +kernel
theorem dX2_copyFrom_8 : decode cX2_copyFrom 8 = .ok (.getfield 11, 3) := by decide +kernel
theorem dX2_copyFrom_11 : decode cX2_copyFrom 11 = .ok (.iload_n 2, 1) := by decide +kernel
theorem dX2_copyFrom_12 : decode cX2_copyFrom 12 = .ok (.aaload, 1) := by decide +kernel
theorem dX2_copyFrom_13 : decode cX2_copyFrom 13 = .ok (.aload_n 1, 1) := by decide +kernel
theorem dX2_copyFrom_14 : decode cX2_copyFrom 14 = .ok (.getfield 11, 3) := by decide +kernel
theorem dX2_copyFrom_17 : decode cX2_copyFrom 17 = .ok (.iload_n 2, 1) := by decide +kernel
theorem dX2_copyFrom_18 : decode cX2_copyFrom 18 = .ok (.aaload, 1) := by decide +kernel
theorem dX2_copyFrom_19 : decode cX2_copyFrom 19 = .ok (.invokevirtual 53, 3) := by decide +kernel
theorem dX2_copyFrom_22 : decode cX2_copyFrom 22 = .ok (.iinc 2 1, 3) := by decide +kernel
theorem dX2_copyFrom_25 : decode cX2_copyFrom 25 = .ok (.goto (-23), 3) := by decide +kernel
theorem dX2_copyFrom_28 : decode cX2_copyFrom 28 = .ok (.aload_n 1, 1) := by decide +kernel
theorem dX2_copyFrom_29 : decode cX2_copyFrom 29 = .ok (.getfield 20, 3) := by decide +kernel
theorem dX2_copyFrom_32 : decode cX2_copyFrom 32 = .ok (.iconst 0, 1) := by decide +kernel
theorem dX2_copyFrom_33 : decode cX2_copyFrom 33 = .ok (.aload_n 0, 1) := by decide +kernel
theorem dX2_copyFrom_34 : decode cX2_copyFrom 34 = .ok (.getfield 20, 3) := by decide +kernel
theorem dX2_copyFrom_37 : decode cX2_copyFrom 37 = .ok (.iconst 0, 1) := by decide +kernel
theorem dX2_copyFrom_38 : decode cX2_copyFrom 38 = .ok (.bipush 10, 2) := by decide +kernel
theorem dX2_copyFrom_40 : decode cX2_copyFrom 40 = .ok (.invokestatic 57, 3) := by decide +kernel
theorem dX2_copyFrom_43 : decode cX2_copyFrom 43 = .ok (.aload_n 0, 1) := by decide +kernel
theorem dX2_copyFrom_44 : decode cX2_copyFrom 44 = .ok (.aload_n 1, 1) := by decide +kernel
theorem dX2_copyFrom_45 : decode cX2_copyFrom 45 = .ok (.getfield 27, 3) := by decide +kernel
theorem dX2_copyFrom_48 : decode cX2_copyFrom 48 = .ok (.putfield 27, 3) := by decide +kernel
theorem dX2_copyFrom_51 : decode cX2_copyFrom 51 = .ok (.aload_n 0, 1) := by decide +kernel
theorem dX2_copyFrom_52 : decode cX2_copyFrom 52 = .ok (.aload_n 1, 1) := by decide +kernel
theorem dX2_copyFrom_53 : decode cX2_copyFrom 53 = .ok (.getfield 31, 3) := by decide +kernel
theorem dX2_copyFrom_56 : decode cX2_copyFrom 56 = .ok (.putfield 31, 3) := by decide +kernel
theorem dX2_copyFrom_59 : decode cX2_copyFrom 59 = .ok (.aload_n 0, 1) := by decide +kernel
theorem dX2_copyFrom_60 : decode cX2_copyFrom 60 = .ok (.aload_n 1, 1) := by decide +kernel
theorem dX2_copyFrom_61 : decode cX2_copyFrom 61 = .ok (.getfield 34, 3) := by decide +kernel
theorem dX2_copyFrom_64 : decode cX2_copyFrom 64 = .ok (.putfield 34, 3) := by decide +kernel
theorem dX2_copyFrom_67 : decode cX2_copyFrom 67 = .ok (.aload_n 0, 1) := by decide +kernel
theorem dX2_copyFrom_68 : decode cX2_copyFrom 68 = .ok (.aload_n 1, 1) := by decide +kernel
theorem dX2_copyFrom_69 : decode cX2_copyFrom 69 = .ok (.getfield 37, 3) := by decide +kernel
theorem dX2_copyFrom_72 : decode cX2_copyFrom 72 = .ok (.putfield 37, 3) := by decide +kernel
theorem dX2_copyFrom_75 : decode cX2_copyFrom 75 = .ok (.aload_n 0, 1) := by decide +kernel
theorem dX2_copyFrom_76 : decode cX2_copyFrom 76 = .ok (.aload_n 1, 1) := by decide +kernel
theorem dX2_copyFrom_77 : decode cX2_copyFrom 77 = .ok (.getfield 41, 3) := by decide +kernel
theorem dX2_copyFrom_80 : decode cX2_copyFrom 80 = .ok (.putfield 41, 3) := by decide +kernel
theorem dX2_copyFrom_83 : decode cX2_copyFrom 83 = .ok (.aload_n 0, 1) := by decide +kernel
theorem dX2_copyFrom_84 : decode cX2_copyFrom 84 = .ok (.aload_n 1, 1) := by decide +kernel
theorem dX2_copyFrom_85 : decode cX2_copyFrom 85 = .ok (.getfield 63, 3) := by decide +kernel
theorem dX2_copyFrom_88 : decode cX2_copyFrom 88 = .ok (.putfield 63, 3) := by decide +kernel
theorem dX2_copyFrom_91 : decode cX2_copyFrom 91 = .ok (.aload_n 0, 1) := by decide +kernel
theorem dX2_copyFrom_92 : decode cX2_copyFrom 92 = .ok (.aload_n 1, 1) := by decide +kernel
theorem dX2_copyFrom_93 : decode cX2_copyFrom 93 = .ok (.getfield 66, 3) := by decide +kernel
theorem dX2_copyFrom_96 : decode cX2_copyFrom 96 = .ok (.putfield 66, 3) := by decide +kernel
theorem dX2_copyFrom_99 : decode cX2_copyFrom 99 = .ok (.aload_n 0, 1) := by decide +kernel
theorem dX2_copyFrom_100 : decode cX2_copyFrom 100 = .ok (.aload_n 1, 1) := by decide +kernel
theorem dX2_copyFrom_101 : decode cX2_copyFrom 101 = .ok (.getfield 69, 3) := by decide +kernel
theorem dX2_copyFrom_104 : decode cX2_copyFrom 104 = .ok (.putfield 69, 3) := by decide +kernel
theorem dX2_copyFrom_107 : decode cX2_copyFrom 107 = .ok (.aload_n 0, 1) := by decide +kernel
theorem dX2_copyFrom_108 : decode cX2_copyFrom 108 = .ok (.aload_n 1, 1) := by decide +kernel
theorem dX2_copyFrom_109 : decode cX2_copyFrom 109 = .ok (.getfield 47, 3) := by decide +kernel
theorem dX2_copyFrom_112 : decode cX2_copyFrom 112 = .ok (.putfield 47, 3) := by decide +kernel
theorem dX2_copyFrom_115 : decode cX2_copyFrom 115 = .ok (.aload_n 0, 1) := by decide +kernel
theorem dX2_copyFrom_116 : decode cX2_copyFrom 116 = .ok (.aload_n 1, 1) := by decide +kernel
theorem dX2_copyFrom_117 : decode cX2_copyFrom 117 = .ok (.getfield 50, 3) := by decide +kernel
theorem dX2_copyFrom_120 : decode cX2_copyFrom 120 = .ok (.putfield 50, 3) := by decide +kernel
theorem dX2_copyFrom_123 : decode cX2_copyFrom 123 = .ok (.return_, 1) := by decide +kernel
theorem dX2_guaranteedInUse_0 : decode cX2_guaranteedInUse 0 = .ok (.aload_n 0, 1) := by decide +kernel
theorem dX2_guaranteedInUse_1 : decode cX2_guaranteedInUse 1 = .ok (.getfield 11, 3) := by decide +kernel
theorem dX2_guaranteedInUse_4 : decode cX2_guaranteedInUse 4 = .ok (.iconst 0, 1) := by decide +kernel
theorem dX2_guaranteedInUse_5 : decode cX2_guaranteedInUse 5 = .ok (.aaload, 1) := by decide +kernel
theorem dX2_guaranteedInUse_6 : decode cX2_guaranteedInUse 6 = .ok (.getfield 72, 3) := by decide +kernel
theorem dX2_guaranteedInUse_9 : decode cX2_guaranteedInUse 9 = .ok (.aload_n 0, 1) := by decide +kernel
theorem dX2_guaranteedInUse_10 : decode cX2_guaranteedInUse 10 = .ok (.getfield 11, 3) := by decide +kernel
theorem dX2_guaranteedInUse_13 : decode cX2_guaranteedInUse 13 = .ok (.iconst 1, 1) := by decide +kernel
theorem dX2_guaranteedInUse_14 : decode cX2_guaranteedInUse 14 = .ok (.aaload, 1) := by decide +kernel
theorem dX2_guaranteedInUse_15 : decode cX2_guaranteedInUse 15 = .ok (.getfield 72, 3) := by decide +kernel
theorem dX2_guaranteedInUse_18 : decode cX2_guaranteedInUse 18 = .ok (.iadd, 1) := by decide +kernel
theorem dX2_guaranteedInUse_19 : decode cX2_guaranteedInUse 19 = .ok (.aload_n 0, 1) := by decide +kernel
theorem dX2_guaranteedInUse_20 : decode cX2_guaranteedInUse 20 = .ok (.getfield 11, 3) := by decide +kernel
theorem dX2_guaranteedInUse_23 : decode cX2_guaranteedInUse 23 = .ok (.iconst 2, 1) := by decide +kernel
theorem dX2_guaranteedInUse_24 : decode cX2_guaranteedInUse 24 = .ok (.aaload, 1) := by decide +kernel
theorem dX2_guaranteedInUse_25 : decode cX2_guaranteedInUse 25 = .ok (.getfield 72, 3) := by decide +kernel
theorem dX2_guaranteedInUse_28 : decode cX2_guaranteedInUse 28 = .ok (.iadd, 1) := by decide +kernel
theorem dX2_guaranteedInUse_29 : decode cX2_guaranteedInUse 29 = .ok (.ireturn, 1) := by decide +kernel
theorem dX2_sharedInUse_0 : decode cX2_sharedInUse 0 = .ok (.aload_n 0, 1) := by decide +kernel
theorem dX2_sharedInUse_1 : decode cX2_sharedInUse 1 = .ok (.getfield 11, 3) := by decide +kernel
theorem dX2_sharedInUse_4 : decode cX2_sharedInUse 4 = .ok (.iconst 0, 1) := by decide +kernel
theorem dX2_sharedInUse_5 : decode cX2_sharedInUse 5 = .ok (.aaload, 1) := by decide +kernel
theorem dX2_sharedInUse_6 : decode cX2_sharedInUse 6 = .ok (.getfield 75, 3) := by decide +kernel
theorem dX2_sharedInUse_9 : decode cX2_sharedInUse 9 = .ok (.aload_n 0, 1) := by decide +kernel
theorem dX2_sharedInUse_10 : decode cX2_sharedInUse 10 = .ok (.getfield 11, 3) := by decide +kernel
theorem dX2_sharedInUse_13 : decode cX2_sharedInUse 13 = .ok (.iconst 1, 1) := by decide +kernel
theorem dX2_sharedInUse_14 : decode cX2_sharedInUse 14 = .ok (.aaload, 1) := by decide +kernel
theorem dX2_sharedInUse_15 : decode cX2_sharedInUse 15 = .ok (.getfield 75, 3) := by decide +kernel
theorem dX2_sharedInUse_18 : decode cX2_sharedInUse 18 = .ok (.iadd, 1) := by decide +kernel
theorem dX2_sharedInUse_19 : decode cX2_sharedInUse 19 = .ok (.aload_n 0, 1) := by decide +kernel
theorem dX2_sharedInUse_20 : decode cX2_sharedInUse 20 = .ok (.getfield 11, 3) := by decide +kernel
theorem dX2_sharedInUse_23 : decode cX2_sharedInUse 23 = .ok (.iconst 2, 1) := by decide +kernel
theorem dX2_sharedInUse_24 : decode cX2_sharedInUse 24 = .ok (.aaload, 1) := by decide +kernel
theorem dX2_sharedInUse_25 : decode cX2_sharedInUse 25 = .ok (.getfield 75, 3) := by decide +kernel
theorem dX2_sharedInUse_28 : decode cX2_sharedInUse 28 = .ok (.iadd, 1) := by decide +kernel
theorem dX2_sharedInUse_29 : decode cX2_sharedInUse 29 = .ok (.ireturn, 1) := by decide +kernel
theorem dX2_headroomInUse_0 : decode cX2_headroomInUse 0 = .ok (.aload_n 0, 1) := by decide +kernel
theorem dX2_headroomInUse_1 : decode cX2_headroomInUse 1 = .ok (.getfield 11, 3) := by decide +kernel
theorem dX2_headroomInUse_4 : decode cX2_headroomInUse 4 = .ok (.iconst 0, 1) := by decide +kernel
theorem dX2_headroomInUse_5 : decode cX2_headroomInUse 5 = .ok (.aaload, 1) := by decide +kernel
theorem dX2_headroomInUse_6 : decode cX2_headroomInUse 6 = .ok (.getfield 78, 3) := by decide +kernel
theorem dX2_headroomInUse_9 : decode cX2_headroomInUse 9 = .ok (.aload_n 0, 1) := by decide +kernel
theorem dX2_headroomInUse_10 : decode cX2_headroomInUse 10 = .ok (.getfield 11, 3) := by decide +kernel
theorem dX2_headroomInUse_13 : decode cX2_headroomInUse 13 = .ok (.iconst 1, 1) := by decide +kernel
theorem dX2_headroomInUse_14 : decode cX2_headroomInUse 14 = .ok (.aaload, 1) := by decide +kernel
theorem dX2_headroomInUse_15 : decode cX2_headroomInUse 15 = .ok (.getfield 78, 3) := by decide +kernel
theorem dX2_headroomInUse_18 : decode cX2_headroomInUse 18 = .ok (.iadd, 1) := by decide +kernel
theorem dX2_headroomInUse_19 : decode cX2_headroomInUse 19 = .ok (.aload_n 0, 1) := by decide +kernel
theorem dX2_headroomInUse_20 : decode cX2_headroomInUse 20 = .ok (.getfield 11, 3) := by decide +kernel
theorem dX2_headroomInUse_23 : decode cX2_headroomInUse 23 = .ok (.iconst 2, 1) := by decide +kernel
theorem dX2_headroomInUse_24 : decode cX2_headroomInUse 24 = .ok (.aaload, 1) := by decide +kernel
theorem dX2_headroomInUse_25 : decode cX2_headroomInUse 25 = .ok (.getfield 78, 3) := by decide +kernel
theorem dX2_headroomInUse_28 : decode cX2_headroomInUse 28 = .ok (.iadd, 1) := by decide +kernel
theorem dX2_headroomInUse_29 : decode cX2_headroomInUse 29 = .ok (.ireturn, 1) := by decide +kernel
theorem dX2_guaranteeLeft_0 : decode cX2_guaranteeLeft 0 = .ok (.aload_n 0, 1) := by decide +kernel
theorem dX2_guaranteeLeft_1 : decode cX2_guaranteeLeft 1 = .ok (.getfield 27, 3) := by decide +kernel
theorem dX2_guaranteeLeft_4 : decode cX2_guaranteeLeft 4 = .ok (.aload_n 0, 1) := by decide +kernel
theorem dX2_guaranteeLeft_5 : decode cX2_guaranteeLeft 5 = .ok (.getfield 34, 3) := by decide +kernel
theorem dX2_guaranteeLeft_8 : decode cX2_guaranteeLeft 8 = .ok (.iadd, 1) := by decide +kernel
theorem dX2_guaranteeLeft_9 : decode cX2_guaranteeLeft 9 = .ok (.aload_n 0, 1) := by decide +kernel
theorem dX2_guaranteeLeft_10 : decode cX2_guaranteeLeft 10 = .ok (.invokevirtual 81, 3) := by decide +kernel
theorem dX2_guaranteeLeft_13 : decode cX2_guaranteeLeft 13 = .ok (.isub, 1) := by decide +kernel
theorem dX2_guaranteeLeft_14 : decode cX2_guaranteeLeft 14 = .ok (.ireturn, 1) := by decide +kernel
theorem dX2_isIdle_0 : decode cX2_isIdle 0 = .ok (.aload_n 0, 1) := by decide +kernel
theorem dX2_isIdle_1 : decode cX2_isIdle 1 = .ok (.getfield 11, 3) := by decide +kernel
theorem dX2_isIdle_4 : decode cX2_isIdle 4 = .ok (.iconst 0, 1) := by decide +kernel
theorem dX2_isIdle_5 : decode cX2_isIdle 5 = .ok (.aaload, 1) := by decide +kernel
theorem dX2_isIdle_6 : decode cX2_isIdle 6 = .ok (.getfield 85, 3) := by decide +kernel
theorem dX2_isIdle_9 : decode cX2_isIdle 9 = .ok (.aload_n 0, 1) := by decide +kernel
theorem dX2_isIdle_10 : decode cX2_isIdle 10 = .ok (.getfield 11, 3) := by decide +kernel
theorem dX2_isIdle_13 : decode cX2_isIdle 13 = .ok (.iconst 1, 1) := by decide +kernel
theorem dX2_isIdle_14 : decode cX2_isIdle 14 = .ok (.aaload, 1) := by decide +kernel
theorem dX2_isIdle_15 : decode cX2_isIdle 15 = .ok (.getfield 85, 3) := by decide +kernel
theorem dX2_isIdle_18 : decode cX2_isIdle 18 = .ok (.iadd, 1) := by decide +kernel
theorem dX2_isIdle_19 : decode cX2_isIdle 19 = .ok (.aload_n 0, 1) := by decide +kernel
theorem dX2_isIdle_20 : decode cX2_isIdle 20 = .ok (.getfield 11, 3) := by decide +kernel
theorem dX2_isIdle_23 : decode cX2_isIdle 23 = .ok (.iconst 2, 1) := by decide +kernel
theorem dX2_isIdle_24 : decode cX2_isIdle 24 = .ok (.aaload, 1) := by decide +kernel
theorem dX2_isIdle_25 : decode cX2_isIdle 25 = .ok (.getfield 85, 3) := by decide +kernel
theorem dX2_isIdle_28 : decode cX2_isIdle 28 = .ok (.iadd, 1) := by decide +kernel
theorem dX2_isIdle_29 : decode cX2_isIdle 29 = .ok (.ifCond .ne 7, 3) := by decide +kernel
theorem dX2_isIdle_32 : decode cX2_isIdle 32 = .ok (.iconst 1, 1) := by decide +kernel
theorem dX2_isIdle_33 : decode cX2_isIdle 33 = .ok (.goto 4, 3) := by decide +kernel
theorem dX2_isIdle_36 : decode cX2_isIdle 36 = .ok (.iconst 0, 1) := by decide +kernel
theorem dX2_isIdle_37 : decode cX2_isIdle 37 = .ok (.ireturn, 1) := by decide +kernel
theorem dX2_highestBusyQueue_0 : decode cX2_highestBusyQueue 0 = .ok (.aload_n 0, 1) := by decide +kernel
theorem dX2_highestBusyQueue_1 : decode cX2_highestBusyQueue 1 = .ok (.getfield 11, 3) := by decide +kernel
theorem dX2_highestBusyQueue_4 : decode cX2_highestBusyQueue 4 = .ok (.astore_n 1, 1) := by decide +kernel
theorem dX2_highestBusyQueue_5 : decode cX2_highestBusyQueue 5 = .ok (.aload_n 1, 1) := by decide +kernel
theorem dX2_highestBusyQueue_6 : decode cX2_highestBusyQueue 6 = .ok (.arraylength, 1) := by decide +kernel
theorem dX2_highestBusyQueue_7 : decode cX2_highestBusyQueue 7 = .ok (.istore_n 2, 1) := by decide +kernel
theorem dX2_highestBusyQueue_8 : decode cX2_highestBusyQueue 8 = .ok (.iconst 0, 1) := by decide +kernel
theorem dX2_highestBusyQueue_9 : decode cX2_highestBusyQueue 9 = .ok (.istore_n 3, 1) := by decide +kernel
theorem dX2_highestBusyQueue_10 : decode cX2_highestBusyQueue 10 = .ok (.iload_n 3, 1) := by decide +kernel
theorem dX2_highestBusyQueue_11 : decode cX2_highestBusyQueue 11 = .ok (.iload_n 2, 1) := by decide +kernel
theorem dX2_highestBusyQueue_12 : decode cX2_highestBusyQueue 12 = .ok (.if_icmp .ge 25, 3) := by decide +kernel
theorem dX2_highestBusyQueue_15 : decode cX2_highestBusyQueue 15 = .ok (.aload_n 1, 1) := by decide +kernel
theorem dX2_highestBusyQueue_16 : decode cX2_highestBusyQueue 16 = .ok (.iload_n 3, 1) := by decide +kernel
theorem dX2_highestBusyQueue_17 : decode cX2_highestBusyQueue 17 = .ok (.aaload, 1) := by decide +kernel
theorem dX2_highestBusyQueue_18 : decode cX2_highestBusyQueue 18 = .ok (.astore 4, 2) := by decide +kernel
theorem dX2_highestBusyQueue_20 : decode cX2_highestBusyQueue 20 = .ok (.aload 4, 2) := by decide +kernel
theorem dX2_highestBusyQueue_22 : decode cX2_highestBusyQueue 22 = .ok (.getfield 85, 3) := by decide +kernel
theorem dX2_highestBusyQueue_25 : decode cX2_highestBusyQueue 25 = .ok (.ifCond .le 6, 3) := by decide +kernel
theorem dX2_highestBusyQueue_28 : decode cX2_highestBusyQueue 28 = .ok (.aload 4, 2) := by decide +kernel
theorem dX2_highestBusyQueue_30 : decode cX2_highestBusyQueue 30 = .ok (.areturn, 1) := by decide +kernel
theorem dX2_highestBusyQueue_31 : decode cX2_highestBusyQueue 31 = .ok (.iinc 3 1, 3) := by decide +kernel
theorem dX2_highestBusyQueue_34 : decode cX2_highestBusyQueue 34 = .ok (.goto (-24), 3) := by decide +kernel
theorem dX2_highestBusyQueue_37 : decode cX2_highestBusyQueue 37 = .ok (.aconst_null, 1) := by decide +kernel
theorem dX2_highestBusyQueue_38 : decode cX2_highestBusyQueue 38 = .ok (.areturn, 1) := by decide +kernel
theorem dX2_queueAtTurn_0 : decode cX2_queueAtTurn 0 = .ok (.aload_n 0, 1) := by decide +kernel
theorem dX2_queueAtTurn_1 : decode cX2_queueAtTurn 1 = .ok (.getfield 66, 3) := by decide +kernel
theorem dX2_queueAtTurn_4 : decode cX2_queueAtTurn 4 = .ok (.ifCond .lt 23, 3) := by decide +kernel
theorem dX2_queueAtTurn_7 : decode cX2_queueAtTurn 7 = .ok (.aload_n 0, 1) := by decide +kernel
theorem dX2_queueAtTurn_8 : decode cX2_queueAtTurn 8 = .ok (.getfield 66, 3) := by decide +kernel
theorem dX2_queueAtTurn_11 : decode cX2_queueAtTurn 11 = .ok (.iconst 3, 1) := by decide +kernel
theorem dX2_queueAtTurn_12 : decode cX2_queueAtTurn 12 = .ok (.if_icmp .ge 15, 3) := by decide +kernel
theorem dX2_queueAtTurn_15 : decode cX2_queueAtTurn 15 = .ok (.aload_n 0, 1) := by decide +kernel
theorem dX2_queueAtTurn_16 : decode cX2_queueAtTurn 16 = .ok (.getfield 11, 3) := by decide +kernel
theorem dX2_queueAtTurn_19 : decode cX2_queueAtTurn 19 = .ok (.aload_n 0, 1) := by decide +kernel
theorem dX2_queueAtTurn_20 : decode cX2_queueAtTurn 20 = .ok (.getfield 66, 3) := by decide +kernel
theorem dX2_queueAtTurn_23 : decode cX2_queueAtTurn 23 = .ok (.aaload, 1) := by decide +kernel
theorem dX2_queueAtTurn_24 : decode cX2_queueAtTurn 24 = .ok (.goto 4, 3) := by decide +kernel
theorem dX2_queueAtTurn_27 : decode cX2_queueAtTurn 27 = .ok (.aconst_null, 1) := by decide +kernel
theorem dX2_queueAtTurn_28 : decode cX2_queueAtTurn 28 = .ok (.areturn, 1) := by decide +kernel
theorem dX2_passTurn_0 : decode cX2_passTurn 0 = .ok (.aload_n 0, 1) := by decide +kernel
theorem dX2_passTurn_1 : decode cX2_passTurn 1 = .ok (.aload_n 0, 1) := by decide +kernel
theorem dX2_passTurn_2 : decode cX2_passTurn 2 = .ok (.getfield 66, 3) := by decide +kernel
theorem dX2_passTurn_5 : decode cX2_passTurn 5 = .ok (.iconst 2, 1) := by decide +kernel
theorem dX2_passTurn_6 : decode cX2_passTurn 6 = .ok (.if_icmp .ge 12, 3) := by decide +kernel
theorem dX2_passTurn_9 : decode cX2_passTurn 9 = .ok (.aload_n 0, 1) := by decide +kernel
theorem dX2_passTurn_10 : decode cX2_passTurn 10 = .ok (.getfield 66, 3) := by decide +kernel
theorem dX2_passTurn_13 : decode cX2_passTurn 13 = .ok (.iconst 1, 1) := by decide +kernel
theorem dX2_passTurn_14 : decode cX2_passTurn 14 = .ok (.iadd, 1) := by decide +kernel
theorem dX2_passTurn_15 : decode cX2_passTurn 15 = .ok (.goto 4, 3) := by decide +kernel
theorem dX2_passTurn_18 : decode cX2_passTurn 18 = .ok (.iconst 0, 1) := by decide +kernel
theorem dX2_passTurn_19 : decode cX2_passTurn 19 = .ok (.putfield 66, 3) := by decide +kernel
theorem dX2_passTurn_22 : decode cX2_passTurn 22 = .ok (.aload_n 0, 1) := by decide +kernel
theorem dX2_passTurn_23 : decode cX2_passTurn 23 = .ok (.iconst 1, 1) := by decide +kernel
theorem dX2_passTurn_24 : decode cX2_passTurn 24 = .ok (.putfield 69, 3) := by decide +kernel
theorem dX2_passTurn_27 : decode cX2_passTurn 27 = .ok (.return_, 1) := by decide +kernel
theorem dX2_restartSending_0 : decode cX2_restartSending 0 = .ok (.aload_n 0, 1) := by decide +kernel
theorem dX2_restartSending_1 : decode cX2_restartSending 1 = .ok (.iconst 0, 1) := by decide +kernel
theorem dX2_restartSending_2 : decode cX2_restartSending 2 = .ok (.putfield 63, 3) := by decide +kernel
theorem dX2_restartSending_5 : decode cX2_restartSending 5 = .ok (.aload_n 0, 1) := by decide +kernel
theorem dX2_restartSending_6 : decode cX2_restartSending 6 = .ok (.iconst 0, 1) := by decide +kernel
theorem dX2_restartSending_7 : decode cX2_restartSending 7 = .ok (.putfield 66, 3) := by decide +kernel
theorem dX2_restartSending_10 : decode cX2_restartSending 10 = .ok (.aload_n 0, 1) := by decide +kernel
theorem dX2_restartSending_11 : decode cX2_restartSending 11 = .ok (.iconst 1, 1) := by decide +kernel
theorem dX2_restartSending_12 : decode cX2_restartSending 12 = .ok (.putfield 69, 3) := by decide +kernel
theorem dX2_restartSending_15 : decode cX2_restartSending 15 = .ok (.return_, 1) := by decide +kernel
theorem dX2_shareBeyondGuarantee_0 : decode cX2_shareBeyondGuarantee 0 = .ok (.aload_n 0, 1) := by decide +kernel
theorem dX2_shareBeyondGuarantee_1 : decode cX2_shareBeyondGuarantee 1 = .ok (.invokevirtual 88, 3) := by decide +kernel
theorem dX2_shareBeyondGuarantee_4 : decode cX2_shareBeyondGuarantee 4 = .ok (.ineg, 1) := by decide +kernel
theorem dX2_shareBeyondGuarantee_5 : decode cX2_shareBeyondGuarantee 5 = .ok (.istore_n 1, 1) := by decide +kernel
theorem dX2_shareBeyondGuarantee_6 : decode cX2_shareBeyondGuarantee 6 = .ok (.iconst 2, 1) := by decide +kernel
theorem dX2_shareBeyondGuarantee_7 : decode cX2_shareBeyondGuarantee 7 = .ok (.istore_n 2, 1) := by decide +kernel
theorem dX2_shareBeyondGuarantee_8 : decode cX2_shareBeyondGuarantee 8 = .ok (.iload_n 2, 1) := by decide +kernel
theorem dX2_shareBeyondGuarantee_9 : decode cX2_shareBeyondGuarantee 9 = .ok (.ifCond .lt 57, 3) := by decide +kernel
theorem dX2_shareBeyondGuarantee_12 : decode cX2_shareBeyondGuarantee 12 = .ok (.iload_n 1, 1) := by decide +kernel
theorem dX2_shareBeyondGuarantee_13 : decode cX2_shareBeyondGuarantee 13 = .ok (.ifCond .le 53, 3) := by decide +kernel
theorem dX2_shareBeyondGuarantee_16 : decode cX2_shareBeyondGuarantee 16 = .ok (.aload_n 0, 1) := by decide +kernel
theorem dX2_shareBeyondGuarantee_17 : decode cX2_shareBeyondGuarantee 17 = .ok (.getfield 11, 3) := by decide +kernel
theorem dX2_shareBeyondGuarantee_20 : decode cX2_shareBeyondGuarantee 20 = .ok (.iload_n 2, 1) := by decide +kernel
theorem dX2_shareBeyondGuarantee_21 : decode cX2_shareBeyondGuarantee 21 = .ok (.aaload, 1) := by decide +kernel
theorem dX2_shareBeyondGuarantee_22 : decode cX2_shareBeyondGuarantee 22 = .ok (.astore_n 3, 1) := by decide +kernel
theorem dX2_shareBeyondGuarantee_23 : decode cX2_shareBeyondGuarantee 23 = .ok (.iload_n 1, 1) := by decide +kernel
theorem dX2_shareBeyondGuarantee_24 : decode cX2_shareBeyondGuarantee 24 = .ok (.aload_n 3, 1) := by decide +kernel
theorem dX2_shareBeyondGuarantee_25 : decode cX2_shareBeyondGuarantee 25 = .ok (.getfield 72, 3) := by decide +kernel
theorem dX2_shareBeyondGuarantee_28 : decode cX2_shareBeyondGuarantee 28 = .ok (.invokestatic 91, 3) := by decide +kernel
theorem dX2_shareBeyondGuarantee_31 : decode cX2_shareBeyondGuarantee 31 = .ok (.istore 4, 2) := by decide +kernel
theorem dX2_shareBeyondGuarantee_33 : decode cX2_shareBeyondGuarantee 33 = .ok (.aload_n 3, 1) := by decide +kernel
theorem dX2_shareBeyondGuarantee_34 : decode cX2_shareBeyondGuarantee 34 = .ok (.dup, 1) := by decide +kernel
theorem dX2_shareBeyondGuarantee_35 : decode cX2_shareBeyondGuarantee 35 = .ok (.getfield 72, 3) := by decide +kernel
theorem dX2_shareBeyondGuarantee_38 : decode cX2_shareBeyondGuarantee 38 = .ok (.iload 4, 2) := by decide +kernel
theorem dX2_shareBeyondGuarantee_40 : decode cX2_shareBeyondGuarantee 40 = .ok (.isub, 1) := by decide +kernel
theorem dX2_shareBeyondGuarantee_41 : decode cX2_shareBeyondGuarantee 41 = .ok (.putfield 72, 3) := by decide +kernel
theorem dX2_shareBeyondGuarantee_44 : decode cX2_shareBeyondGuarantee 44 = .ok (.aload_n 3, 1) := by decide +kernel
theorem dX2_shareBeyondGuarantee_45 : decode cX2_shareBeyondGuarantee 45 = .ok (.dup, 1) := by decide +kernel
theorem dX2_shareBeyondGuarantee_46 : decode cX2_shareBeyondGuarantee 46 = .ok (.getfield 75, 3) := by decide +kernel
theorem dX2_shareBeyondGuarantee_49 : decode cX2_shareBeyondGuarantee 49 = .ok (.iload 4, 2) := by decide +kernel
theorem dX2_shareBeyondGuarantee_51 : decode cX2_shareBeyondGuarantee 51 = .ok (.iadd, 1) := by decide +kernel
theorem dX2_shareBeyondGuarantee_52 : decode cX2_shareBeyondGuarantee 52 = .ok (.putfield 75, 3) := by decide +kernel
theorem dX2_shareBeyondGuarantee_55 : decode cX2_shareBeyondGuarantee 55 = .ok (.iload_n 1, 1) := by decide +kernel
theorem dX2_shareBeyondGuarantee_56 : decode cX2_shareBeyondGuarantee 56 = .ok (.iload 4, 2) := by decide +kernel
theorem dX2_shareBeyondGuarantee_58 : decode cX2_shareBeyondGuarantee 58 = .ok (.isub, 1) := by decide +kernel
theorem dX2_shareBeyondGuarantee_59 : decode cX2_shareBeyondGuarantee 59 = .ok (.istore_n 1, 1) := by decide +kernel
theorem dX2_shareBeyondGuarantee_60 : decode cX2_shareBeyondGuarantee 60 = .ok (.iinc 2 (-1), 3) := by decide +kernel
theorem dX2_shareBeyondGuarantee_63 : decode cX2_shareBeyondGuarantee 63 = .ok (.goto (-55), 3) := by decide +kernel
theorem dX2_shareBeyondGuarantee_66 : decode cX2_shareBeyondGuarantee 66 = .ok (.return_, 1) := by decide +kernel
theorem dX2_countLoss_0 : decode cX2_countLoss 0 = .ok (.iload_n 1, 1) := by decide +kernel
theorem dX2_countLoss_1 : decode cX2_countLoss 1 = .ok (.ifCond .lt 22, 3) := by decide +kernel
theorem dX2_countLoss_4 : decode cX2_countLoss 4 = .ok (.iload_n 1, 1) := by decide +kernel
theorem dX2_countLoss_5 : decode cX2_countLoss 5 = .ok (.aload_n 0, 1) := by decide +kernel
theorem dX2_countLoss_6 : decode cX2_countLoss 6 = .ok (.getfield 20, 3) := by decide +kernel
theorem dX2_countLoss_9 : decode cX2_countLoss 9 = .ok (.arraylength, 1) := by decide +kernel
theorem dX2_countLoss_10 : decode cX2_countLoss 10 = .ok (.if_icmp .ge 13, 3) := by decide +kernel
theorem dX2_countLoss_13 : decode cX2_countLoss 13 = .ok (.aload_n 0, 1) := by decide +kernel
theorem dX2_countLoss_14 : decode cX2_countLoss 14 = .ok (.getfield 20, 3) := by decide +kernel
theorem dX2_countLoss_17 : decode cX2_countLoss 17 = .ok (.iload_n 1, 1) := by decide +kernel
theorem dX2_countLoss_18 : decode cX2_countLoss 18 = .ok (.dup2, 1) := by decide +kernel
theorem dX2_countLoss_19 : decode cX2_countLoss 19 = .ok (.iaload, 1) := by decide +kernel
theorem dX2_countLoss_20 : decode cX2_countLoss 20 = .ok (.iconst 1, 1) := by decide +kernel
theorem dX2_countLoss_21 : decode cX2_countLoss 21 = .ok (.iadd, 1) := by decide +kernel
theorem dX2_countLoss_22 : decode cX2_countLoss 22 = .ok (.iastore, 1) := by decide +kernel
theorem dX2_countLoss_23 : decode cX2_countLoss 23 = .ok (.aload_n 0, 1) := by decide +kernel
theorem dX2_countLoss_24 : decode cX2_countLoss 24 = .ok (.dup, 1) := by decide +kernel
theorem dX2_countLoss_25 : decode cX2_countLoss 25 = .ok (.getfield 47, 3) := by decide +kernel
theorem dX2_countLoss_28 : decode cX2_countLoss 28 = .ok (.iload_n 2, 1) := by decide +kernel
theorem dX2_countLoss_29 : decode cX2_countLoss 29 = .ok (.iadd, 1) := by decide +kernel
theorem dX2_countLoss_30 : decode cX2_countLoss 30 = .ok (.putfield 47, 3) := by decide +kernel
theorem dX2_countLoss_33 : decode cX2_countLoss 33 = .ok (.return_, 1) := by decide +kernel
theorem dX3_init_0 : decode cX3_init 0 = .ok (.aload_n 0, 1) := by decide +kernel
theorem dX3_init_1 : decode cX3_init 1 = .ok (.invokespecial 3, 3) := by decide +kernel
theorem dX3_init_4 : decode cX3_init 4 = .ok (.aload_n 0, 1) := by decide +kernel
theorem dX3_init_5 : decode cX3_init 5 = .ok (.iload_n 1, 1) := by decide +kernel
theorem dX3_init_6 : decode cX3_init 6 = .ok (.putfield 9, 3) := by decide +kernel
theorem dX3_init_9 : decode cX3_init 9 = .ok (.return_, 1) := by decide +kernel
theorem dX3_startAnew_0 : decode cX3_startAnew 0 = .ok (.aload_n 0, 1) := by decide +kernel
theorem dX3_startAnew_1 : decode cX3_startAnew 1 = .ok (.bipush 8, 2) := by decide +kernel
theorem dX3_startAnew_3 : decode cX3_startAnew 3 = .ok (.putfield 15, 3) := by decide +kernel
theorem dX3_startAnew_6 : decode cX3_startAnew 6 = .ok (.aload_n 0, 1) := by decide +kernel
theorem dX3_startAnew_7 : decode cX3_startAnew 7 = .ok (.iconst 0, 1) := by decide +kernel
theorem dX3_startAnew_8 : decode cX3_startAnew 8 = .ok (.putfield 18, 3) := by decide +kernel
theorem dX3_startAnew_11 : decode cX3_startAnew 11 = .ok (.aload_n 0, 1) := by decide +kernel
theorem dX3_startAnew_12 : decode cX3_startAnew 12 = .ok (.iconst 0, 1) := by decide +kernel
theorem dX3_startAnew_13 : decode cX3_startAnew 13 = .ok (.putfield 21, 3) := by decide +kernel
theorem dX3_startAnew_16 : decode cX3_startAnew 16 = .ok (.aload_n 0, 1) := by decide +kernel
theorem dX3_startAnew_17 : decode cX3_startAnew 17 = .ok (.iconst 0, 1) := by decide +kernel
theorem dX3_startAnew_18 : decode cX3_startAnew 18 = .ok (.putfield 24, 3) := by decide +kernel
theorem dX3_startAnew_21 : decode cX3_startAnew 21 = .ok (.aload_n 0, 1) := by decide +kernel
theorem dX3_startAnew_22 : decode cX3_startAnew 22 = .ok (.iconst 4, 1) := by decide +kernel
theorem dX3_startAnew_23 : decode cX3_startAnew 23 = .ok (.putfield 27, 3) := by decide +kernel
theorem dX3_startAnew_26 : decode cX3_startAnew 26 = .ok (.aload_n 0, 1) := by decide +kernel
theorem dX3_startAnew_27 : decode cX3_startAnew 27 = .ok (.iconst 0, 1) := by decide +kernel
theorem dX3_startAnew_28 : decode cX3_startAnew 28 = .ok (.putfield 30, 3) := by decide +kernel
theorem dX3_startAnew_31 : decode cX3_startAnew 31 = .ok (.aload_n 0, 1) := by decide +kernel
theorem dX3_startAnew_32 : decode cX3_startAnew 32 = .ok (.iconst 0, 1) := by decide +kernel
theorem dX3_startAnew_33 : decode cX3_startAnew 33 = .ok (.putfield 33, 3) := by decide +kernel
theorem dX3_startAnew_36 : decode cX3_startAnew 36 = .ok (.aload_n 0, 1) := by decide +kernel
theorem dX3_startAnew_37 : decode cX3_startAnew 37 = .ok (.iconst 0, 1) := by decide +kernel
theorem dX3_startAnew_38 : decode cX3_startAnew 38 = .ok (.putfield 37, 3) := by decide +kernel
theorem dX3_startAnew_41 : decode cX3_startAnew 41 = .ok (.aload_n 0, 1) := by decide +kernel
theorem dX3_startAnew_42 : decode cX3_startAnew 42 = .ok (.iconst 0, 1) := by decide +kernel
theorem dX3_startAnew_43 : decode cX3_startAnew 43 = .ok (.putfield 40, 3) := by decide +kernel
theorem dX3_startAnew_46 : decode cX3_startAnew 46 = .ok (.aload_n 0, 1) := by decide +kernel
theorem dX3_startAnew_47 : decode cX3_startAnew 47 = .ok (.iconst 0, 1) := by decide +kernel
theorem dX3_startAnew_48 : decode cX3_startAnew 48 = .ok (.putfield 43, 3) := by decide +kernel
theorem dX3_startAnew_51 : decode cX3_startAnew 51 = .ok (.aload_n 0, 1) := by decide +kernel
theorem dX3_startAnew_52 : decode cX3_startAnew 52 = .ok (.iconst 0, 1) := by decide +kernel
theorem dX3_startAnew_53 : decode cX3_startAnew 53 = .ok (.putfield 46, 3) := by decide +kernel
theorem dX3_startAnew_56 : decode cX3_startAnew 56 = .ok (.aload_n 0, 1) := by decide +kernel
theorem dX3_startAnew_57 : decode cX3_startAnew 57 = .ok (.iconst 0, 1) := by decide +kernel
theorem dX3_startAnew_58 : decode cX3_startAnew 58 = .ok (.putfield 49, 3) := by decide +kernel
theorem dX3_startAnew_61 : decode cX3_startAnew 61 = .ok (.aload_n 0, 1) := by decide +kernel
theorem dX3_startAnew_62 : decode cX3_startAnew 62 = .ok (.iconst (-1), 1) := by decide +kernel
theorem dX3_startAnew_63 : decode cX3_startAnew 63 = .ok (.putfield 52, 3) := by decide +kernel
theorem dX3_startAnew_66 : decode cX3_startAnew 66 = .ok (.aload_n 0, 1) := by decide +kernel
theorem dX3_startAnew_67 : decode cX3_startAnew 67 = .ok (.iconst (-1), 1) := by decide +kernel
theorem dX3_startAnew_68 : decode cX3_startAnew 68 = .ok (.putfield 55, 3) := by decide +kernel
theorem dX3_startAnew_71 : decode cX3_startAnew 71 = .ok (.aload_n 0, 1) := by decide +kernel
theorem dX3_startAnew_72 : decode cX3_startAnew 72 = .ok (.iconst 0, 1) := by decide +kernel
theorem dX3_startAnew_73 : decode cX3_startAnew 73 = .ok (.putfield 58, 3) := by decide +kernel
theorem dX3_startAnew_76 : decode cX3_startAnew 76 = .ok (.return_, 1) := by decide +kernel
theorem dX3_copyFrom_0 : decode cX3_copyFrom 0 = .ok (.aload_n 0, 1) := by decide +kernel
theorem dX3_copyFrom_1 : decode cX3_copyFrom 1 = .ok (.aload_n 1, 1) := by decide +kernel
theorem dX3_copyFrom_2 : decode cX3_copyFrom 2 = .ok (.getfield 15, 3) := by decide +kernel
theorem dX3_copyFrom_5 : decode cX3_copyFrom 5 = .ok (.putfield 15, 3) := by decide +kernel
theorem dX3_copyFrom_8 : decode cX3_copyFrom 8 = .ok (.aload_n 0, 1) := by decide +kernel
theorem dX3_copyFrom_9 : decode cX3_copyFrom 9 = .ok (.aload_n 1, 1) := by decide +kernel
theorem dX3_copyFrom_10 : decode cX3_copyFrom 10 = .ok (.getfield 18, 3) := by decide +kernel
theorem dX3_copyFrom_13 : decode cX3_copyFrom 13 = .ok (.putfield 18, 3) := by decide +kernel
theorem dX3_copyFrom_16 : decode cX3_copyFrom 16 = .ok (.aload_n 0, 1) := by decide +kernel
theorem dX3_copyFrom_17 : decode cX3_copyFrom 17 = .ok (.aload_n 1, 1) := by decide +kernel
theorem dX3_copyFrom_18 : decode cX3_copyFrom 18 = .ok (.getfield 21, 3) := by decide +kernel
theorem dX3_copyFrom_21 : decode cX3_copyFrom 21 = .ok (.putfield 21, 3) := by decide +kernel
theorem dX3_copyFrom_24 : decode cX3_copyFrom 24 = .ok (.aload_n 0, 1) := by decide +kernel
theorem dX3_copyFrom_25 : decode cX3_copyFrom 25 = .ok (.aload_n 1, 1) := by decide +kernel
theorem dX3_copyFrom_26 : decode cX3_copyFrom 26 = .ok (.getfield 24, 3) := by decide +kernel
theorem dX3_copyFrom_29 : decode cX3_copyFrom 29 = .ok (.putfield 24, 3) := by decide +kernel
theorem dX3_copyFrom_32 : decode cX3_copyFrom 32 = .ok (.aload_n 0, 1) := by decide +kernel
theorem dX3_copyFrom_33 : decode cX3_copyFrom 33 = .ok (.aload_n 1, 1) := by decide +kernel
theorem dX3_copyFrom_34 : decode cX3_copyFrom 34 = .ok (.getfield 27, 3) := by decide +kernel
theorem dX3_copyFrom_37 : decode cX3_copyFrom 37 = .ok (.putfield 27, 3) := by decide +kernel
theorem dX3_copyFrom_40 : decode cX3_copyFrom 40 = .ok (.aload_n 0, 1) := by decide +kernel
theorem dX3_copyFrom_41 : decode cX3_copyFrom 41 = .ok (.aload_n 1, 1) := by decide +kernel
theorem dX3_copyFrom_42 : decode cX3_copyFrom 42 = .ok (.getfield 30, 3) := by decide +kernel
theorem dX3_copyFrom_45 : decode cX3_copyFrom 45 = .ok (.putfield 30, 3) := by decide +kernel
theorem dX3_copyFrom_48 : decode cX3_copyFrom 48 = .ok (.aload_n 0, 1) := by decide +kernel
theorem dX3_copyFrom_49 : decode cX3_copyFrom 49 = .ok (.aload_n 1, 1) := by decide +kernel
theorem dX3_copyFrom_50 : decode cX3_copyFrom 50 = .ok (.getfield 33, 3) := by decide +kernel
theorem dX3_copyFrom_53 : decode cX3_copyFrom 53 = .ok (.putfield 33, 3) := by decide +kernel
theorem dX3_copyFrom_56 : decode cX3_copyFrom 56 = .ok (.aload_n 0, 1) := by decide +kernel
theorem dX3_copyFrom_57 : decode cX3_copyFrom 57 = .ok (.aload_n 1, 1) := by decide +kernel
theorem dX3_copyFrom_58 : decode cX3_copyFrom 58 = .ok (.getfield 37, 3) := by decide +kernel
theorem dX3_copyFrom_61 : decode cX3_copyFrom 61 = .ok (.putfield 37, 3) := by decide +kernel
theorem dX3_copyFrom_64 : decode cX3_copyFrom 64 = .ok (.aload_n 0, 1) := by decide +kernel
theorem dX3_copyFrom_65 : decode cX3_copyFrom 65 = .ok (.aload_n 1, 1) := by decide +kernel
theorem dX3_copyFrom_66 : decode cX3_copyFrom 66 = .ok (.getfield 40, 3) := by decide +kernel
theorem dX3_copyFrom_69 : decode cX3_copyFrom 69 = .ok (.putfield 40, 3) := by decide +kernel
theorem dX3_copyFrom_72 : decode cX3_copyFrom 72 = .ok (.aload_n 0, 1) := by decide +kernel
theorem dX3_copyFrom_73 : decode cX3_copyFrom 73 = .ok (.aload_n 1, 1) := by decide +kernel
theorem dX3_copyFrom_74 : decode cX3_copyFrom 74 = .ok (.getfield 43, 3) := by decide +kernel
theorem dX3_copyFrom_77 : decode cX3_copyFrom 77 = .ok (.putfield 43, 3) := by decide +kernel
theorem dX3_copyFrom_80 : decode cX3_copyFrom 80 = .ok (.aload_n 0, 1) := by decide +kernel
theorem dX3_copyFrom_81 : decode cX3_copyFrom 81 = .ok (.aload_n 1, 1) := by decide +kernel
theorem dX3_copyFrom_82 : decode cX3_copyFrom 82 = .ok (.getfield 46, 3) := by decide +kernel
theorem dX3_copyFrom_85 : decode cX3_copyFrom 85 = .ok (.putfield 46, 3) := by decide +kernel
theorem dX3_copyFrom_88 : decode cX3_copyFrom 88 = .ok (.aload_n 0, 1) := by decide +kernel
theorem dX3_copyFrom_89 : decode cX3_copyFrom 89 = .ok (.aload_n 1, 1) := by decide +kernel
theorem dX3_copyFrom_90 : decode cX3_copyFrom 90 = .ok (.getfield 49, 3) := by decide +kernel
theorem dX3_copyFrom_93 : decode cX3_copyFrom 93 = .ok (.putfield 49, 3) := by decide +kernel
theorem dX3_copyFrom_96 : decode cX3_copyFrom 96 = .ok (.aload_n 0, 1) := by decide +kernel
theorem dX3_copyFrom_97 : decode cX3_copyFrom 97 = .ok (.aload_n 1, 1) := by decide +kernel
theorem dX3_copyFrom_98 : decode cX3_copyFrom 98 = .ok (.getfield 52, 3) := by decide +kernel
theorem dX3_copyFrom_101 : decode cX3_copyFrom 101 = .ok (.putfield 52, 3) := by decide +kernel
theorem dX3_copyFrom_104 : decode cX3_copyFrom 104 = .ok (.aload_n 0, 1) := by decide +kernel
theorem dX3_copyFrom_105 : decode cX3_copyFrom 105 = .ok (.aload_n 1, 1) := by decide +kernel
theorem dX3_copyFrom_106 : decode cX3_copyFrom 106 = .ok (.getfield 55, 3) := by decide +kernel
theorem dX3_copyFrom_109 : decode cX3_copyFrom 109 = .ok (.putfield 55, 3) := by decide +kernel
theorem dX3_copyFrom_112 : decode cX3_copyFrom 112 = .ok (.aload_n 0, 1) := by decide +kernel
theorem dX3_copyFrom_113 : decode cX3_copyFrom 113 = .ok (.aload_n 1, 1) := by decide +kernel
theorem dX3_copyFrom_114 : decode cX3_copyFrom 114 = .ok (.getfield 58, 3) := by decide +kernel
theorem dX3_copyFrom_117 : decode cX3_copyFrom 117 = .ok (.putfield 58, 3) := by decide +kernel
theorem dX3_copyFrom_120 : decode cX3_copyFrom 120 = .ok (.return_, 1) := by decide +kernel
theorem dX3_limitWith_0 : decode cX3_limitWith 0 = .ok (.aload_n 0, 1) := by decide +kernel
theorem dX3_limitWith_1 : decode cX3_limitWith 1 = .ok (.getfield 15, 3) := by decide +kernel
theorem dX3_limitWith_4 : decode cX3_limitWith 4 = .ok (.iload_n 1, 1) := by decide +kernel
theorem dX3_limitWith_5 : decode cX3_limitWith 5 = .ok (.imul, 1) := by decide +kernel
theorem dX3_limitWith_6 : decode cX3_limitWith 6 = .ok (.bipush 8, 2) := by decide +kernel
theorem dX3_limitWith_8 : decode cX3_limitWith 8 = .ok (.idiv, 1) := by decide +kernel
theorem dX3_limitWith_9 : decode cX3_limitWith 9 = .ok (.ireturn, 1) := by decide +kernel
theorem dX3_poolRefusal_0 : decode cX3_poolRefusal 0 = .ok (.iload_n 1, 1) := by decide +kernel
theorem dX3_poolRefusal_1 : decode cX3_poolRefusal 1 = .ok (.iload_n 2, 1) := by decide +kernel
theorem dX3_poolRefusal_2 : decode cX3_poolRefusal 2 = .ok (.if_icmp .le 5, 3) := by decide +kernel
theorem dX3_poolRefusal_5 : decode cX3_poolRefusal 5 = .ok (.iconst 2, 1) := by decide +kernel
theorem dX3_poolRefusal_6 : decode cX3_poolRefusal 6 = .ok (.ireturn, 1) := by decide +kernel
theorem dX3_poolRefusal_7 : decode cX3_poolRefusal 7 = .ok (.aload_n 0, 1) := by decide +kernel
theorem dX3_poolRefusal_8 : decode cX3_poolRefusal 8 = .ok (.getfield 46, 3) := by decide +kernel
theorem dX3_poolRefusal_11 : decode cX3_poolRefusal 11 = .ok (.iload_n 1, 1) := by decide +kernel
theorem dX3_poolRefusal_12 : decode cX3_poolRefusal 12 = .ok (.iadd, 1) := by decide +kernel
theorem dX3_poolRefusal_13 : decode cX3_poolRefusal 13 = .ok (.aload_n 0, 1) := by decide +kernel
theorem dX3_poolRefusal_14 : decode cX3_poolRefusal 14 = .ok (.iload_n 2, 1) := by decide +kernel
theorem dX3_poolRefusal_15 : decode cX3_poolRefusal 15 = .ok (.invokevirtual 61, 3) := by decide +kernel
theorem dX3_poolRefusal_18 : decode cX3_poolRefusal 18 = .ok (.isub, 1) := by decide +kernel
theorem dX3_poolRefusal_19 : decode cX3_poolRefusal 19 = .ok (.aload_n 0, 1) := by decide +kernel
theorem dX3_poolRefusal_20 : decode cX3_poolRefusal 20 = .ok (.getfield 24, 3) := by decide +kernel
theorem dX3_poolRefusal_23 : decode cX3_poolRefusal 23 = .ok (.if_icmp .gt 7, 3) := by decide +kernel
theorem dX3_poolRefusal_26 : decode cX3_poolRefusal 26 = .ok (.iconst 0, 1) := by decide +kernel
theorem dX3_poolRefusal_27 : decode cX3_poolRefusal 27 = .ok (.goto 4, 3) := by decide +kernel
theorem dX3_poolRefusal_30 : decode cX3_poolRefusal 30 = .ok (.iconst 3, 1) := by decide +kernel
theorem dX3_poolRefusal_31 : decode cX3_poolRefusal 31 = .ok (.ireturn, 1) := by decide +kernel
theorem dX3_addShared_0 : decode cX3_addShared 0 = .ok (.aload_n 0, 1) := by decide +kernel
theorem dX3_addShared_1 : decode cX3_addShared 1 = .ok (.dup, 1) := by decide +kernel
theorem dX3_addShared_2 : decode cX3_addShared 2 = .ok (.getfield 24, 3) := by decide +kernel
theorem dX3_addShared_5 : decode cX3_addShared 5 = .ok (.iconst 0, 1) := by decide +kernel
theorem dX3_addShared_6 : decode cX3_addShared 6 = .ok (.aload_n 0, 1) := by decide +kernel
theorem dX3_addShared_7 : decode cX3_addShared 7 = .ok (.getfield 46, 3) := by decide +kernel
theorem dX3_addShared_10 : decode cX3_addShared 10 = .ok (.iload_n 1, 1) := by decide +kernel
theorem dX3_addShared_11 : decode cX3_addShared 11 = .ok (.iadd, 1) := by decide +kernel
theorem dX3_addShared_12 : decode cX3_addShared 12 = .ok (.aload_n 0, 1) := by decide +kernel
theorem dX3_addShared_13 : decode cX3_addShared 13 = .ok (.iload_n 2, 1) := by decide +kernel
theorem dX3_addShared_14 : decode cX3_addShared 14 = .ok (.invokevirtual 61, 3) := by decide +kernel
theorem dX3_addShared_17 : decode cX3_addShared 17 = .ok (.isub, 1) := by decide +kernel
theorem dX3_addShared_18 : decode cX3_addShared 18 = .ok (.invokestatic 65, 3) := by decide +kernel
theorem dX3_addShared_21 : decode cX3_addShared 21 = .ok (.isub, 1) := by decide +kernel
theorem dX3_addShared_22 : decode cX3_addShared 22 = .ok (.putfield 24, 3) := by decide +kernel
theorem dX3_addShared_25 : decode cX3_addShared 25 = .ok (.aload_n 0, 1) := by decide +kernel
theorem dX3_addShared_26 : decode cX3_addShared 26 = .ok (.dup, 1) := by decide +kernel
theorem dX3_addShared_27 : decode cX3_addShared 27 = .ok (.getfield 46, 3) := by decide +kernel
theorem dX3_addShared_30 : decode cX3_addShared 30 = .ok (.iload_n 1, 1) := by decide +kernel
theorem dX3_addShared_31 : decode cX3_addShared 31 = .ok (.iadd, 1) := by decide +kernel
theorem dX3_addShared_32 : decode cX3_addShared 32 = .ok (.putfield 46, 3) := by decide +kernel
theorem dX3_addShared_35 : decode cX3_addShared 35 = .ok (.return_, 1) := by decide +kernel
theorem dX3_pause_0 : decode cX3_pause 0 = .ok (.aload_n 0, 1) := by decide +kernel
theorem dX3_pause_1 : decode cX3_pause 1 = .ok (.getfield 37, 3) := by decide +kernel
theorem dX3_pause_4 : decode cX3_pause 4 = .ok (.ifCond .ne 18, 3) := by decide +kernel
theorem dX3_pause_7 : decode cX3_pause 7 = .ok (.aload_n 0, 1) := by decide +kernel
theorem dX3_pause_8 : decode cX3_pause 8 = .ok (.iconst 1, 1) := by decide +kernel
theorem dX3_pause_9 : decode cX3_pause 9 = .ok (.putfield 37, 3) := by decide +kernel
theorem dX3_pause_12 : decode cX3_pause 12 = .ok (.aload_n 0, 1) := by decide +kernel
theorem dX3_pause_13 : decode cX3_pause 13 = .ok (.dup, 1) := by decide +kernel
theorem dX3_pause_14 : decode cX3_pause 14 = .ok (.getfield 40, 3) := by decide +kernel
theorem dX3_pause_17 : decode cX3_pause 17 = .ok (.iconst 1, 1) := by decide +kernel
theorem dX3_pause_18 : decode cX3_pause 18 = .ok (.iadd, 1) := by decide +kernel
theorem dX3_pause_19 : decode cX3_pause 19 = .ok (.putfield 40, 3) := by decide +kernel
theorem dX3_pause_22 : decode cX3_pause 22 = .ok (.return_, 1) := by decide +kernel
theorem dX3_giveBack_0 : decode cX3_giveBack 0 = .ok (.iload_n 1, 1) := by decide +kernel
theorem dX3_giveBack_1 : decode cX3_giveBack 1 = .ok (.istore_n 2, 1) := by decide +kernel
theorem dX3_giveBack_2 : decode cX3_giveBack 2 = .ok (.iload_n 2, 1) := by decide +kernel
theorem dX3_giveBack_3 : decode cX3_giveBack 3 = .ok (.aload_n 0, 1) := by decide +kernel
theorem dX3_giveBack_4 : decode cX3_giveBack 4 = .ok (.getfield 49, 3) := by decide +kernel
theorem dX3_giveBack_7 : decode cX3_giveBack 7 = .ok (.invokestatic 71, 3) := by decide +kernel
theorem dX3_giveBack_10 : decode cX3_giveBack 10 = .ok (.istore_n 3, 1) := by decide +kernel
theorem dX3_giveBack_11 : decode cX3_giveBack 11 = .ok (.aload_n 0, 1) := by decide +kernel
theorem dX3_giveBack_12 : decode cX3_giveBack 12 = .ok (.dup, 1) := by decide +kernel
theorem dX3_giveBack_13 : decode cX3_giveBack 13 = .ok (.getfield 49, 3) := by decide +kernel
theorem dX3_giveBack_16 : decode cX3_giveBack 16 = .ok (.iload_n 3, 1) := by decide +kernel
theorem dX3_giveBack_17 : decode cX3_giveBack 17 = .ok (.isub, 1) := by decide +kernel
theorem dX3_giveBack_18 : decode cX3_giveBack 18 = .ok (.putfield 49, 3) := by decide +kernel
theorem dX3_giveBack_21 : decode cX3_giveBack 21 = .ok (.iload_n 2, 1) := by decide +kernel
theorem dX3_giveBack_22 : decode cX3_giveBack 22 = .ok (.iload_n 3, 1) := by decide +kernel
theorem dX3_giveBack_23 : decode cX3_giveBack 23 = .ok (.isub, 1) := by decide +kernel
theorem dX3_giveBack_24 : decode cX3_giveBack 24 = .ok (.istore_n 2, 1) := by decide +kernel
theorem dX3_giveBack_25 : decode cX3_giveBack 25 = .ok (.iload_n 2, 1) := by decide +kernel
theorem dX3_giveBack_26 : decode cX3_giveBack 26 = .ok (.aload_n 0, 1) := by decide +kernel
theorem dX3_giveBack_27 : decode cX3_giveBack 27 = .ok (.getfield 46, 3) := by decide +kernel
theorem dX3_giveBack_30 : decode cX3_giveBack 30 = .ok (.invokestatic 71, 3) := by decide +kernel
theorem dX3_giveBack_33 : decode cX3_giveBack 33 = .ok (.istore_n 3, 1) := by decide +kernel
theorem dX3_giveBack_34 : decode cX3_giveBack 34 = .ok (.aload_n 0, 1) := by decide +kernel
theorem dX3_giveBack_35 : decode cX3_giveBack 35 = .ok (.dup, 1) := by decide +kernel
theorem dX3_giveBack_36 : decode cX3_giveBack 36 = .ok (.getfield 46, 3) := by decide +kernel
theorem dX3_giveBack_39 : decode cX3_giveBack 39 = .ok (.iload_n 3, 1) := by decide +kernel
theorem dX3_giveBack_40 : decode cX3_giveBack 40 = .ok (.isub, 1) := by decide +kernel
theorem dX3_giveBack_41 : decode cX3_giveBack 41 = .ok (.putfield 46, 3) := by decide +kernel
theorem dX3_giveBack_44 : decode cX3_giveBack 44 = .ok (.iload_n 2, 1) := by decide +kernel
theorem dX3_giveBack_45 : decode cX3_giveBack 45 = .ok (.iload_n 3, 1) := by decide +kernel
theorem dX3_giveBack_46 : decode cX3_giveBack 46 = .ok (.isub, 1) := by decide +kernel
theorem dX3_giveBack_47 : decode cX3_giveBack 47 = .ok (.istore_n 2, 1) := by decide +kernel
theorem dX3_giveBack_48 : decode cX3_giveBack 48 = .ok (.aload_n 0, 1) := by decide +kernel
theorem dX3_giveBack_49 : decode cX3_giveBack 49 = .ok (.dup, 1) := by decide +kernel
theorem dX3_giveBack_50 : decode cX3_giveBack 50 = .ok (.getfield 43, 3) := by decide +kernel
theorem dX3_giveBack_53 : decode cX3_giveBack 53 = .ok (.iload_n 2, 1) := by decide +kernel
theorem dX3_giveBack_54 : decode cX3_giveBack 54 = .ok (.isub, 1) := by decide +kernel
theorem dX3_giveBack_55 : decode cX3_giveBack 55 = .ok (.putfield 43, 3) := by decide +kernel
theorem dX3_giveBack_58 : decode cX3_giveBack 58 = .ok (.return_, 1) := by decide +kernel
theorem dX4_init_0 : decode cX4_init 0 = .ok (.aload_n 0, 1) := by decide +kernel
theorem dX4_init_1 : decode cX4_init 1 = .ok (.invokespecial 3, 3) := by decide +kernel
theorem dX4_init_4 : decode cX4_init 4 = .ok (.aload_n 0, 1) := by decide +kernel
theorem dX4_init_5 : decode cX4_init 5 = .ok (.bipush 120, 2) := by decide +kernel
theorem dX4_init_7 : decode cX4_init 7 = .ok (.newarray .int, 2) := by decide +kernel
theorem dX4_init_9 : decode cX4_init 9 = .ok (.putfield 9, 3) := by decide +kernel
theorem dX4_init_12 : decode cX4_init 12 = .ok (.return_, 1) := by decide +kernel
theorem dX4_rewind_0 : decode cX4_rewind 0 = .ok (.aload_n 0, 1) := by decide +kernel
theorem dX4_rewind_1 : decode cX4_rewind 1 = .ok (.iconst 0, 1) := by decide +kernel
theorem dX4_rewind_2 : decode cX4_rewind 2 = .ok (.putfield 15, 3) := by decide +kernel
theorem dX4_rewind_5 : decode cX4_rewind 5 = .ok (.aload_n 0, 1) := by decide +kernel
theorem dX4_rewind_6 : decode cX4_rewind 6 = .ok (.iconst (-1), 1) := by decide +kernel
theorem dX4_rewind_7 : decode cX4_rewind 7 = .ok (.putfield 19, 3) := by decide +kernel
theorem dX4_rewind_10 : decode cX4_rewind 10 = .ok (.return_, 1) := by decide +kernel
theorem dX4_hasMore_0 : decode cX4_hasMore 0 = .ok (.aload_n 0, 1) := by decide +kernel
theorem dX4_hasMore_1 : decode cX4_hasMore 1 = .ok (.getfield 15, 3) := by decide +kernel
theorem dX4_hasMore_4 : decode cX4_hasMore 4 = .ok (.aload_n 0, 1) := by decide +kernel
theorem dX4_hasMore_5 : decode cX4_hasMore 5 = .ok (.getfield 22, 3) := by decide +kernel
theorem dX4_hasMore_8 : decode cX4_hasMore 8 = .ok (.if_icmp .ge 7, 3) := by decide +kernel
theorem dX4_hasMore_11 : decode cX4_hasMore 11 = .ok (.iconst 1, 1) := by decide +kernel
theorem dX4_hasMore_12 : decode cX4_hasMore 12 = .ok (.goto 4, 3) := by decide +kernel
theorem dX4_hasMore_15 : decode cX4_hasMore 15 = .ok (.iconst 0, 1) := by decide +kernel
theorem dX4_hasMore_16 : decode cX4_hasMore 16 = .ok (.ireturn, 1) := by decide +kernel
theorem dX4_findFault_0 : decode cX4_findFault 0 = .ok (.aload_n 0, 1) := by decide +kernel
theorem dX4_findFault_1 : decode cX4_findFault 1 = .ok (.invokevirtual 25, 3) := by decide +kernel
theorem dX4_findFault_4 : decode cX4_findFault 4 = .ok (.iconst 0, 1) := by decide +kernel
theorem dX4_findFault_5 : decode cX4_findFault 5 = .ok (.istore_n 2, 1) := by decide +kernel
theorem dX4_findFault_6 : decode cX4_findFault 6 = .ok (.iload_n 2, 1) := by decide +kernel
theorem dX4_findFault_7 : decode cX4_findFault 7 = .ok (.bipush 120, 2) := by decide +kernel
theorem dX4_findFault_9 : decode cX4_findFault 9 = .ok (.if_icmp .ge 33, 3) := by decide +kernel
theorem dX4_findFault_12 : decode cX4_findFault 12 = .ok (.aload_n 0, 1) := by decide +kernel
theorem dX4_findFault_13 : decode cX4_findFault 13 = .ok (.getfield 15, 3) := by decide +kernel
theorem dX4_findFault_16 : decode cX4_findFault 16 = .ok (.aload_n 0, 1) := by decide +kernel
theorem dX4_findFault_17 : decode cX4_findFault 17 = .ok (.getfield 22, 3) := by decide +kernel
theorem dX4_findFault_20 : decode cX4_findFault 20 = .ok (.if_icmp .ge 22, 3) := by decide +kernel
theorem dX4_findFault_23 : decode cX4_findFault 23 = .ok (.aload_n 0, 1) := by decide +kernel
theorem dX4_findFault_24 : decode cX4_findFault 24 = .ok (.getfield 19, 3) := by decide +kernel
theorem dX4_findFault_27 : decode cX4_findFault 27 = .ok (.iconst (-1), 1) := by decide +kernel
theorem dX4_findFault_28 : decode cX4_findFault 28 = .ok (.if_icmp .ne 14, 3) := by decide +kernel
theorem dX4_findFault_31 : decode cX4_findFault 31 = .ok (.aload_n 0, 1) := by decide +kernel
theorem dX4_findFault_32 : decode cX4_findFault 32 = .ok (.iload_n 1, 1) := by decide +kernel
theorem dX4_findFault_33 : decode cX4_findFault 33 = .ok (.invokevirtual 28, 3) := by decide +kernel
theorem dX4_findFault_36 : decode cX4_findFault 36 = .ok (.iinc 2 1, 3) := by decide +kernel
theorem dX4_findFault_39 : decode cX4_findFault 39 = .ok (.goto (-33), 3) := by decide +kernel
theorem dX4_findFault_42 : decode cX4_findFault 42 = .ok (.aload_n 0, 1) := by decide +kernel
theorem dX4_findFault_43 : decode cX4_findFault 43 = .ok (.getfield 19, 3) := by decide +kernel
theorem dX4_findFault_46 : decode cX4_findFault 46 = .ok (.ireturn, 1) := by decide +kernel
theorem dX4_readOrder_0 : decode cX4_readOrder 0 = .ok (.aload_n 0, 1) := by decide +kernel
theorem dX4_readOrder_1 : decode cX4_readOrder 1 = .ok (.aload_n 0, 1) := by decide +kernel
theorem dX4_readOrder_2 : decode cX4_readOrder 2 = .ok (.invokevirtual 32, 3) := by decide +kernel
theorem dX4_readOrder_5 : decode cX4_readOrder 5 = .ok (.putfield 36, 3) := by decide +kernel
theorem dX4_readOrder_8 : decode cX4_readOrder 8 = .ok (.aload_n 0, 1) := by decide +kernel
theorem dX4_readOrder_9 : decode cX4_readOrder 9 = .ok (.iconst (-1), 1) := by decide +kernel
theorem dX4_readOrder_10 : decode cX4_readOrder 10 = .ok (.putfield 39, 3) := by decide +kernel
theorem dX4_readOrder_13 : decode cX4_readOrder 13 = .ok (.aload_n 0, 1) := by decide +kernel
theorem dX4_readOrder_14 : decode cX4_readOrder 14 = .ok (.iconst 1, 1) := by decide +kernel
theorem dX4_readOrder_15 : decode cX4_readOrder 15 = .ok (.putfield 42, 3) := by decide +kernel
theorem dX4_readOrder_18 : decode cX4_readOrder 18 = .ok (.aload_n 0, 1) := by decide +kernel
theorem dX4_readOrder_19 : decode cX4_readOrder 19 = .ok (.getfield 36, 3) := by decide +kernel
theorem dX4_readOrder_22 : decode cX4_readOrder 22 = .ok (.lookupswitch 173 #[(97, 42), (102, 112), (103, 134), (116, 88)], 42) := by decide +kernel
theorem dX4_readOrder_64 : decode cX4_readOrder 64 = .ok (.aload_n 0, 1) := by decide +kernel
theorem dX4_readOrder_65 : decode cX4_readOrder 65 = .ok (.dup, 1) := by decide +kernel
theorem dX4_readOrder_66 : decode cX4_readOrder 66 = .ok (.getfield 15, 3) := by decide +kernel
theorem dX4_readOrder_69 : decode cX4_readOrder 69 = .ok (.iconst 1, 1) := by decide +kernel
theorem dX4_readOrder_70 : decode cX4_readOrder 70 = .ok (.iadd, 1) := by decide +kernel
theorem dX4_readOrder_71 : decode cX4_readOrder 71 = .ok (.putfield 15, 3) := by decide +kernel
theorem dX4_readOrder_74 : decode cX4_readOrder 74 = .ok (.aload_n 0, 1) := by decide +kernel
theorem dX4_readOrder_75 : decode cX4_readOrder 75 = .ok (.aload_n 0, 1) := by decide +kernel
theorem dX4_readOrder_76 : decode cX4_readOrder 76 = .ok (.iload_n 1, 1) := by decide +kernel
theorem dX4_readOrder_77 : decode cX4_readOrder 77 = .ok (.invokevirtual 45, 3) := by decide +kernel
theorem dX4_readOrder_80 : decode cX4_readOrder 80 = .ok (.putfield 39, 3) := by decide +kernel
theorem dX4_readOrder_83 : decode cX4_readOrder 83 = .ok (.aload_n 0, 1) := by decide +kernel
theorem dX4_readOrder_84 : decode cX4_readOrder 84 = .ok (.aload_n 0, 1) := by decide +kernel
theorem dX4_readOrder_85 : decode cX4_readOrder 85 = .ok (.iconst 3, 1) := by decide +kernel
theorem dX4_readOrder_86 : decode cX4_readOrder 86 = .ok (.invokevirtual 45, 3) := by decide +kernel
theorem dX4_readOrder_89 : decode cX4_readOrder 89 = .ok (.putfield 49, 3) := by decide +kernel
theorem dX4_readOrder_92 : decode cX4_readOrder 92 = .ok (.aload_n 0, 1) := by decide +kernel
theorem dX4_readOrder_93 : decode cX4_readOrder 93 = .ok (.aload_n 0, 1) := by decide +kernel
theorem dX4_readOrder_94 : decode cX4_readOrder 94 = .ok (.iconst 1, 1) := by decide +kernel
theorem dX4_readOrder_95 : decode cX4_readOrder 95 = .ok (.bipush 12, 2) := by decide +kernel
theorem dX4_readOrder_97 : decode cX4_readOrder 97 = .ok (.invokevirtual 52, 3) := by decide +kernel
theorem dX4_readOrder_100 : decode cX4_readOrder 100 = .ok (.putfield 56, 3) := by decide +kernel
theorem dX4_readOrder_103 : decode cX4_readOrder 103 = .ok (.aload_n 0, 1) := by decide +kernel
theorem dX4_readOrder_104 : decode cX4_readOrder 104 = .ok (.invokevirtual 59, 3) := by decide +kernel
theorem dX4_readOrder_107 : decode cX4_readOrder 107 = .ok (.goto 96, 3) := by decide +kernel
theorem dX4_readOrder_110 : decode cX4_readOrder 110 = .ok (.aload_n 0, 1) := by decide +kernel
theorem dX4_readOrder_111 : decode cX4_readOrder 111 = .ok (.dup, 1) := by decide +kernel
theorem dX4_readOrder_112 : decode cX4_readOrder 112 = .ok (.getfield 15, 3) := by decide +kernel
theorem dX4_readOrder_115 : decode cX4_readOrder 115 = .ok (.iconst 1, 1) := by decide +kernel
theorem dX4_readOrder_116 : decode cX4_readOrder 116 = .ok (.iadd, 1) := by decide +kernel
theorem dX4_readOrder_117 : decode cX4_readOrder 117 = .ok (.putfield 15, 3) := by decide +kernel
theorem dX4_readOrder_120 : decode cX4_readOrder 120 = .ok (.aload_n 0, 1) := by decide +kernel
theorem dX4_readOrder_121 : decode cX4_readOrder 121 = .ok (.aload_n 0, 1) := by decide +kernel
theorem dX4_readOrder_122 : decode cX4_readOrder 122 = .ok (.iconst 1, 1) := by decide +kernel
theorem dX4_readOrder_123 : decode cX4_readOrder 123 = .ok (.bipush 20, 2) := by decide +kernel
theorem dX4_readOrder_125 : decode cX4_readOrder 125 = .ok (.invokevirtual 52, 3) := by decide +kernel
theorem dX4_readOrder_128 : decode cX4_readOrder 128 = .ok (.putfield 56, 3) := by decide +kernel
theorem dX4_readOrder_131 : decode cX4_readOrder 131 = .ok (.goto 72, 3) := by decide +kernel
theorem dX4_readOrder_134 : decode cX4_readOrder 134 = .ok (.aload_n 0, 1) := by decide +kernel
theorem dX4_readOrder_135 : decode cX4_readOrder 135 = .ok (.dup, 1) := by decide +kernel
theorem dX4_readOrder_136 : decode cX4_readOrder 136 = .ok (.getfield 15, 3) := by decide +kernel
theorem dX4_readOrder_139 : decode cX4_readOrder 139 = .ok (.iconst 1, 1) := by decide +kernel
theorem dX4_readOrder_140 : decode cX4_readOrder 140 = .ok (.iadd, 1) := by decide +kernel
theorem dX4_readOrder_141 : decode cX4_readOrder 141 = .ok (.putfield 15, 3) := by decide +kernel
theorem dX4_readOrder_144 : decode cX4_readOrder 144 = .ok (.aload_n 0, 1) := by decide +kernel
theorem dX4_readOrder_145 : decode cX4_readOrder 145 = .ok (.aload_n 0, 1) := by decide +kernel
theorem dX4_readOrder_146 : decode cX4_readOrder 146 = .ok (.iload_n 1, 1) := by decide +kernel
theorem dX4_readOrder_147 : decode cX4_readOrder 147 = .ok (.invokevirtual 45, 3) := by decide +kernel
theorem dX4_readOrder_150 : decode cX4_readOrder 150 = .ok (.putfield 39, 3) := by decide +kernel
theorem dX4_readOrder_153 : decode cX4_readOrder 153 = .ok (.goto 50, 3) := by decide +kernel
theorem dX4_readOrder_156 : decode cX4_readOrder 156 = .ok (.aload_n 0, 1) := by decide +kernel
theorem dX4_readOrder_157 : decode cX4_readOrder 157 = .ok (.dup, 1) := by decide +kernel
theorem dX4_readOrder_158 : decode cX4_readOrder 158 = .ok (.getfield 15, 3) := by decide +kernel
theorem dX4_readOrder_161 : decode cX4_readOrder 161 = .ok (.iconst 1, 1) := by decide +kernel
theorem dX4_readOrder_162 : decode cX4_readOrder 162 = .ok (.iadd, 1) := by decide +kernel
theorem dX4_readOrder_163 : decode cX4_readOrder 163 = .ok (.putfield 15, 3) := by decide +kernel
theorem dX4_readOrder_166 : decode cX4_readOrder 166 = .ok (.aload_n 0, 1) := by decide +kernel
theorem dX4_readOrder_167 : decode cX4_readOrder 167 = .ok (.aload_n 0, 1) := by decide +kernel
theorem dX4_readOrder_168 : decode cX4_readOrder 168 = .ok (.iload_n 1, 1) := by decide +kernel
theorem dX4_readOrder_169 : decode cX4_readOrder 169 = .ok (.invokevirtual 45, 3) := by decide +kernel
theorem dX4_readOrder_172 : decode cX4_readOrder 172 = .ok (.putfield 39, 3) := by decide +kernel
theorem dX4_readOrder_175 : decode cX4_readOrder 175 = .ok (.aload_n 0, 1) := by decide +kernel
theorem dX4_readOrder_176 : decode cX4_readOrder 176 = .ok (.bipush 44, 2) := by decide +kernel
theorem dX4_readOrder_178 : decode cX4_readOrder 178 = .ok (.invokevirtual 62, 3) := by decide +kernel
theorem dX4_readOrder_181 : decode cX4_readOrder 181 = .ok (.aload_n 0, 1) := by decide +kernel
theorem dX4_readOrder_182 : decode cX4_readOrder 182 = .ok (.aload_n 0, 1) := by decide +kernel
theorem dX4_readOrder_183 : decode cX4_readOrder 183 = .ok (.iconst 1, 1) := by decide +kernel
theorem dX4_readOrder_184 : decode cX4_readOrder 184 = .ok (.bipush 32, 2) := by decide +kernel
theorem dX4_readOrder_186 : decode cX4_readOrder 186 = .ok (.invokevirtual 52, 3) := by decide +kernel
theorem dX4_readOrder_189 : decode cX4_readOrder 189 = .ok (.putfield 56, 3) := by decide +kernel
theorem dX4_readOrder_192 : decode cX4_readOrder 192 = .ok (.goto 11, 3) := by decide +kernel
theorem dX4_readOrder_195 : decode cX4_readOrder 195 = .ok (.aload_n 0, 1) := by decide +kernel
theorem dX4_readOrder_196 : decode cX4_readOrder 196 = .ok (.aload_n 0, 1) := by decide +kernel
theorem dX4_readOrder_197 : decode cX4_readOrder 197 = .ok (.getfield 15, 3) := by decide +kernel
theorem dX4_readOrder_200 : decode cX4_readOrder 200 = .ok (.putfield 19, 3) := by decide +kernel
theorem dX4_readOrder_203 : decode cX4_readOrder 203 = .ok (.aload_n 0, 1) := by decide +kernel
theorem dX4_readOrder_204 : decode cX4_readOrder 204 = .ok (.bipush 59, 2) := by decide +kernel
theorem dX4_readOrder_206 : decode cX4_readOrder 206 = .ok (.invokevirtual 62, 3) := by decide +kernel
theorem dX4_readOrder_209 : decode cX4_readOrder 209 = .ok (.return_, 1) := by decide +kernel
theorem dX4_readCount_0 : decode cX4_readCount 0 = .ok (.aload_n 0, 1) := by decide +kernel
theorem dX4_readCount_1 : decode cX4_readCount 1 = .ok (.getfield 19, 3) := by decide +kernel
theorem dX4_readCount_4 : decode cX4_readCount 4 = .ok (.iconst (-1), 1) := by decide +kernel
theorem dX4_readCount_5 : decode cX4_readCount 5 = .ok (.if_icmp .ne 33, 3) := by decide +kernel
theorem dX4_readCount_8 : decode cX4_readCount 8 = .ok (.aload_n 0, 1) := by decide +kernel
theorem dX4_readCount_9 : decode cX4_readCount 9 = .ok (.invokevirtual 32, 3) := by decide +kernel
theorem dX4_readCount_12 : decode cX4_readCount 12 = .ok (.bipush 42, 2) := by decide +kernel
theorem dX4_readCount_14 : decode cX4_readCount 14 = .ok (.if_icmp .ne 24, 3) := by decide +kernel
theorem dX4_readCount_17 : decode cX4_readCount 17 = .ok (.aload_n 0, 1) := by decide +kernel
theorem dX4_readCount_18 : decode cX4_readCount 18 = .ok (.dup, 1) := by decide +kernel
theorem dX4_readCount_19 : decode cX4_readCount 19 = .ok (.getfield 15, 3) := by decide +kernel
theorem dX4_readCount_22 : decode cX4_readCount 22 = .ok (.iconst 1, 1) := by decide +kernel
theorem dX4_readCount_23 : decode cX4_readCount 23 = .ok (.iadd, 1) := by decide +kernel
theorem dX4_readCount_24 : decode cX4_readCount 24 = .ok (.putfield 15, 3) := by decide +kernel
theorem dX4_readCount_27 : decode cX4_readCount 27 = .ok (.aload_n 0, 1) := by decide +kernel
theorem dX4_readCount_28 : decode cX4_readCount 28 = .ok (.aload_n 0, 1) := by decide +kernel
theorem dX4_readCount_29 : decode cX4_readCount 29 = .ok (.iconst 2, 1) := by decide +kernel
theorem dX4_readCount_30 : decode cX4_readCount 30 = .ok (.bipush 9, 2) := by decide +kernel
theorem dX4_readCount_32 : decode cX4_readCount 32 = .ok (.invokevirtual 52, 3) := by decide +kernel
theorem dX4_readCount_35 : decode cX4_readCount 35 = .ok (.putfield 42, 3) := by decide +kernel
theorem dX4_readCount_38 : decode cX4_readCount 38 = .ok (.return_, 1) := by decide +kernel
theorem dX4_letterHere_0 : decode cX4_letterHere 0 = .ok (.aload_n 0, 1) := by decide +kernel
theorem dX4_letterHere_1 : decode cX4_letterHere 1 = .ok (.getfield 15, 3) := by decide +kernel
theorem dX4_letterHere_4 : decode cX4_letterHere 4 = .ok (.ifCond .lt 35, 3) := by decide +kernel
theorem dX4_letterHere_7 : decode cX4_letterHere 7 = .ok (.aload_n 0, 1) := by decide +kernel
theorem dX4_letterHere_8 : decode cX4_letterHere 8 = .ok (.getfield 15, 3) := by decide +kernel
theorem dX4_letterHere_11 : decode cX4_letterHere 11 = .ok (.aload_n 0, 1) := by decide +kernel
theorem dX4_letterHere_12 : decode cX4_letterHere 12 = .ok (.getfield 22, 3) := by decide +kernel
theorem dX4_letterHere_15 : decode cX4_letterHere 15 = .ok (.if_icmp .ge 24, 3) := by decide +kernel
theorem dX4_letterHere_18 : decode cX4_letterHere 18 = .ok (.aload_n 0, 1) := by decide +kernel
theorem dX4_letterHere_19 : decode cX4_letterHere 19 = .ok (.getfield 15, 3) := by decide +kernel
theorem dX4_letterHere_22 : decode cX4_letterHere 22 = .ok (.bipush 120, 2) := by decide +kernel
theorem dX4_letterHere_24 : decode cX4_letterHere 24 = .ok (.if_icmp .ge 15, 3) := by decide +kernel
theorem dX4_letterHere_27 : decode cX4_letterHere 27 = .ok (.aload_n 0, 1) := by decide +kernel
theorem dX4_letterHere_28 : decode cX4_letterHere 28 = .ok (.getfield 9, 3) := by decide +kernel
theorem dX4_letterHere_31 : decode cX4_letterHere 31 = .ok (.aload_n 0, 1) := by decide +kernel
theorem dX4_letterHere_32 : decode cX4_letterHere 32 = .ok (.getfield 15, 3) := by decide +kernel
theorem dX4_letterHere_35 : decode cX4_letterHere 35 = .ok (.iaload, 1) := by decide +kernel
theorem dX4_letterHere_36 : decode cX4_letterHere 36 = .ok (.goto 4, 3) := by decide +kernel
theorem dX4_letterHere_39 : decode cX4_letterHere 39 = .ok (.iconst (-1), 1) := by decide +kernel
theorem dX4_letterHere_40 : decode cX4_letterHere 40 = .ok (.ireturn, 1) := by decide +kernel
theorem dX4_expect_0 : decode cX4_expect 0 = .ok (.aload_n 0, 1) := by decide +kernel
theorem dX4_expect_1 : decode cX4_expect 1 = .ok (.getfield 19, 3) := by decide +kernel
theorem dX4_expect_4 : decode cX4_expect 4 = .ok (.iconst (-1), 1) := by decide +kernel
theorem dX4_expect_5 : decode cX4_expect 5 = .ok (.if_icmp .eq 4, 3) := by decide +kernel
theorem dX4_expect_8 : decode cX4_expect 8 = .ok (.return_, 1) := by decide +kernel
theorem dX4_expect_9 : decode cX4_expect 9 = .ok (.aload_n 0, 1) := by decide +kernel
theorem dX4_expect_10 : decode cX4_expect 10 = .ok (.invokevirtual 32, 3) := by decide +kernel
theorem dX4_expect_13 : decode cX4_expect 13 = .ok (.iload_n 1, 1) := by decide +kernel
theorem dX4_expect_14 : decode cX4_expect 14 = .ok (.if_icmp .ne 16, 3) := by decide +kernel
theorem dX4_expect_17 : decode cX4_expect 17 = .ok (.aload_n 0, 1) := by decide +kernel
theorem dX4_expect_18 : decode cX4_expect 18 = .ok (.dup, 1) := by decide +kernel
theorem dX4_expect_19 : decode cX4_expect 19 = .ok (.getfield 15, 3) := by decide +kernel
theorem dX4_expect_22 : decode cX4_expect 22 = .ok (.iconst 1, 1) := by decide +kernel
theorem dX4_expect_23 : decode cX4_expect 23 = .ok (.iadd, 1) := by decide +kernel
theorem dX4_expect_24 : decode cX4_expect 24 = .ok (.putfield 15, 3) := by decide +kernel
theorem dX4_expect_27 : decode cX4_expect 27 = .ok (.goto 11, 3) := by decide +kernel
theorem dX4_expect_30 : decode cX4_expect 30 = .ok (.aload_n 0, 1) := by decide +kernel
theorem dX4_expect_31 : decode cX4_expect 31 = .ok (.aload_n 0, 1) := by decide +kernel
theorem dX4_expect_32 : decode cX4_expect 32 = .ok (.getfield 15, 3) := by decide +kernel
theorem dX4_expect_35 : decode cX4_expect 35 = .ok (.putfield 19, 3) := by decide +kernel
theorem dX4_expect_38 : decode cX4_expect 38 = .ok (.return_, 1) := by decide +kernel
theorem dX4_readDigit_0 : decode cX4_readDigit 0 = .ok (.aload_n 0, 1) := by decide +kernel
theorem dX4_readDigit_1 : decode cX4_readDigit 1 = .ok (.invokevirtual 32, 3) := by decide +kernel
theorem dX4_readDigit_4 : decode cX4_readDigit 4 = .ok (.bipush 48, 2) := by decide +kernel
theorem dX4_readDigit_6 : decode cX4_readDigit 6 = .ok (.isub, 1) := by decide +kernel
theorem dX4_readDigit_7 : decode cX4_readDigit 7 = .ok (.istore_n 2, 1) := by decide +kernel
theorem dX4_readDigit_8 : decode cX4_readDigit 8 = .ok (.aload_n 0, 1) := by decide +kernel
theorem dX4_readDigit_9 : decode cX4_readDigit 9 = .ok (.getfield 19, 3) := by decide +kernel
theorem dX4_readDigit_12 : decode cX4_readDigit 12 = .ok (.iconst (-1), 1) := by decide +kernel
theorem dX4_readDigit_13 : decode cX4_readDigit 13 = .ok (.if_icmp .eq 5, 3) := by decide +kernel
theorem dX4_readDigit_16 : decode cX4_readDigit 16 = .ok (.iconst 0, 1) := by decide +kernel
theorem dX4_readDigit_17 : decode cX4_readDigit 17 = .ok (.ireturn, 1) := by decide +kernel
theorem dX4_readDigit_18 : decode cX4_readDigit 18 = .ok (.iload_n 2, 1) := by decide +kernel
theorem dX4_readDigit_19 : decode cX4_readDigit 19 = .ok (.ifCond .lt 8, 3) := by decide +kernel
theorem dX4_readDigit_22 : decode cX4_readDigit 22 = .ok (.iload_n 2, 1) := by decide +kernel
theorem dX4_readDigit_23 : decode cX4_readDigit 23 = .ok (.iload_n 1, 1) := by decide +kernel
theorem dX4_readDigit_24 : decode cX4_readDigit 24 = .ok (.if_icmp .lt 13, 3) := by decide +kernel
theorem dX4_readDigit_27 : decode cX4_readDigit 27 = .ok (.aload_n 0, 1) := by decide +kernel
theorem dX4_readDigit_28 : decode cX4_readDigit 28 = .ok (.aload_n 0, 1) := by decide +kernel
theorem dX4_readDigit_29 : decode cX4_readDigit 29 = .ok (.getfield 15, 3) := by decide +kernel
theorem dX4_readDigit_32 : decode cX4_readDigit 32 = .ok (.putfield 19, 3) := by decide +kernel
theorem dX4_readDigit_35 : decode cX4_readDigit 35 = .ok (.iconst 0, 1) := by decide +kernel
theorem dX4_readDigit_36 : decode cX4_readDigit 36 = .ok (.ireturn, 1) := by decide +kernel
theorem dX4_readDigit_37 : decode cX4_readDigit 37 = .ok (.aload_n 0, 1) := by decide +kernel
theorem dX4_readDigit_38 : decode cX4_readDigit 38 = .ok (.dup, 1) := by decide +kernel
theorem dX4_readDigit_39 : decode cX4_readDigit 39 = .ok (.getfield 15, 3) := by decide +kernel
theorem dX4_readDigit_42 : decode cX4_readDigit 42 = .ok (.iconst 1, 1) := by decide +kernel
theorem dX4_readDigit_43 : decode cX4_readDigit 43 = .ok (.iadd, 1) := by decide +kernel
theorem dX4_readDigit_44 : decode cX4_readDigit 44 = .ok (.putfield 15, 3) := by decide +kernel
theorem dX4_readDigit_47 : decode cX4_readDigit 47 = .ok (.iload_n 2, 1) := by decide +kernel
theorem dX4_readDigit_48 : decode cX4_readDigit 48 = .ok (.ireturn, 1) := by decide +kernel
theorem dX4_readNumber_0 : decode cX4_readNumber 0 = .ok (.aload_n 0, 1) := by decide +kernel
theorem dX4_readNumber_1 : decode cX4_readNumber 1 = .ok (.getfield 19, 3) := by decide +kernel
theorem dX4_readNumber_4 : decode cX4_readNumber 4 = .ok (.iconst (-1), 1) := by decide +kernel
theorem dX4_readNumber_5 : decode cX4_readNumber 5 = .ok (.if_icmp .eq 5, 3) := by decide +kernel
theorem dX4_readNumber_8 : decode cX4_readNumber 8 = .ok (.iload_n 1, 1) := by decide +kernel
theorem dX4_readNumber_9 : decode cX4_readNumber 9 = .ok (.ireturn, 1) := by decide +kernel
theorem dX4_readNumber_10 : decode cX4_readNumber 10 = .ok (.aload_n 0, 1) := by decide +kernel
theorem dX4_readNumber_11 : decode cX4_readNumber 11 = .ok (.getfield 15, 3) := by decide +kernel
theorem dX4_readNumber_14 : decode cX4_readNumber 14 = .ok (.istore_n 3, 1) := by decide +kernel
theorem dX4_readNumber_15 : decode cX4_readNumber 15 = .ok (.aload_n 0, 1) := by decide +kernel
theorem dX4_readNumber_16 : decode cX4_readNumber 16 = .ok (.invokevirtual 32, 3) := by decide +kernel
theorem dX4_readNumber_19 : decode cX4_readNumber 19 = .ok (.istore 4, 2) := by decide +kernel
theorem dX4_readNumber_21 : decode cX4_readNumber 21 = .ok (.iconst 0, 1) := by decide +kernel
theorem dX4_readNumber_22 : decode cX4_readNumber 22 = .ok (.istore 5, 2) := by decide +kernel
theorem dX4_readNumber_24 : decode cX4_readNumber 24 = .ok (.aload_n 0, 1) := by decide +kernel
theorem dX4_readNumber_25 : decode cX4_readNumber 25 = .ok (.getfield 15, 3) := by decide +kernel
theorem dX4_readNumber_28 : decode cX4_readNumber 28 = .ok (.aload_n 0, 1) := by decide +kernel
theorem dX4_readNumber_29 : decode cX4_readNumber 29 = .ok (.getfield 22, 3) := by decide +kernel
theorem dX4_readNumber_32 : decode cX4_readNumber 32 = .ok (.if_icmp .ge 55, 3) := by decide +kernel
theorem dX4_readNumber_35 : decode cX4_readNumber 35 = .ok (.aload_n 0, 1) := by decide +kernel
theorem dX4_readNumber_36 : decode cX4_readNumber 36 = .ok (.invokevirtual 32, 3) := by decide +kernel
theorem dX4_readNumber_39 : decode cX4_readNumber 39 = .ok (.bipush 48, 2) := by decide +kernel
theorem dX4_readNumber_41 : decode cX4_readNumber 41 = .ok (.if_icmp .lt 46, 3) := by decide +kernel
theorem dX4_readNumber_44 : decode cX4_readNumber 44 = .ok (.aload_n 0, 1) := by decide +kernel
theorem dX4_readNumber_45 : decode cX4_readNumber 45 = .ok (.invokevirtual 32, 3) := by decide +kernel
theorem dX4_readNumber_48 : decode cX4_readNumber 48 = .ok (.bipush 57, 2) := by decide +kernel
theorem dX4_readNumber_50 : decode cX4_readNumber 50 = .ok (.if_icmp .gt 37, 3) := by decide +kernel
theorem dX4_readNumber_53 : decode cX4_readNumber 53 = .ok (.sipush 999, 3) := by decide +kernel
theorem dX4_readNumber_56 : decode cX4_readNumber 56 = .ok (.iload 5, 2) := by decide +kernel
theorem dX4_readNumber_58 : decode cX4_readNumber 58 = .ok (.bipush 10, 2) := by decide +kernel
theorem dX4_readNumber_60 : decode cX4_readNumber 60 = .ok (.imul, 1) := by decide +kernel
theorem dX4_readNumber_61 : decode cX4_readNumber 61 = .ok (.aload_n 0, 1) := by decide +kernel
theorem dX4_readNumber_62 : decode cX4_readNumber 62 = .ok (.invokevirtual 32, 3) := by decide +kernel
theorem dX4_readNumber_65 : decode cX4_readNumber 65 = .ok (.iadd, 1) := by decide +kernel
theorem dX4_readNumber_66 : decode cX4_readNumber 66 = .ok (.bipush 48, 2) := by decide +kernel
theorem dX4_readNumber_68 : decode cX4_readNumber 68 = .ok (.isub, 1) := by decide +kernel
theorem dX4_readNumber_69 : decode cX4_readNumber 69 = .ok (.invokestatic 65, 3) := by decide +kernel
theorem dX4_readNumber_72 : decode cX4_readNumber 72 = .ok (.istore 5, 2) := by decide +kernel
theorem dX4_readNumber_74 : decode cX4_readNumber 74 = .ok (.aload_n 0, 1) := by decide +kernel
theorem dX4_readNumber_75 : decode cX4_readNumber 75 = .ok (.dup, 1) := by decide +kernel
theorem dX4_readNumber_76 : decode cX4_readNumber 76 = .ok (.getfield 15, 3) := by decide +kernel
theorem dX4_readNumber_79 : decode cX4_readNumber 79 = .ok (.iconst 1, 1) := by decide +kernel
theorem dX4_readNumber_80 : decode cX4_readNumber 80 = .ok (.iadd, 1) := by decide +kernel
theorem dX4_readNumber_81 : decode cX4_readNumber 81 = .ok (.putfield 15, 3) := by decide +kernel
theorem dX4_readNumber_84 : decode cX4_readNumber 84 = .ok (.goto (-60), 3) := by decide +kernel
theorem dX4_readNumber_87 : decode cX4_readNumber 87 = .ok (.iload 4, 2) := by decide +kernel
theorem dX4_readNumber_89 : decode cX4_readNumber 89 = .ok (.bipush 48, 2) := by decide +kernel
theorem dX4_readNumber_91 : decode cX4_readNumber 91 = .ok (.if_icmp .eq 15, 3) := by decide +kernel
theorem dX4_readNumber_94 : decode cX4_readNumber 94 = .ok (.iload 5, 2) := by decide +kernel
theorem dX4_readNumber_96 : decode cX4_readNumber 96 = .ok (.iload_n 1, 1) := by decide +kernel
theorem dX4_readNumber_97 : decode cX4_readNumber 97 = .ok (.if_icmp .lt 9, 3) := by decide +kernel
theorem dX4_readNumber_100 : decode cX4_readNumber 100 = .ok (.iload 5, 2) := by decide +kernel
theorem dX4_readNumber_102 : decode cX4_readNumber 102 = .ok (.iload_n 2, 1) := by decide +kernel
theorem dX4_readNumber_103 : decode cX4_readNumber 103 = .ok (.if_icmp .le 8, 3) := by decide +kernel
theorem dX4_readNumber_106 : decode cX4_readNumber 106 = .ok (.aload_n 0, 1) := by decide +kernel
theorem dX4_readNumber_107 : decode cX4_readNumber 107 = .ok (.iload_n 3, 1) := by decide +kernel
theorem dX4_readNumber_108 : decode cX4_readNumber 108 = .ok (.putfield 19, 3) := by decide +kernel
theorem dX4_readNumber_111 : decode cX4_readNumber 111 = .ok (.iload 5, 2) := by decide +kernel
theorem dX4_readNumber_113 : decode cX4_readNumber 113 = .ok (.ireturn, 1) := by decide +kernel
end
section
theorem dX0_init_0 : decode cX0_init 0 = .ok (.aload_n 0, 1) := by decide +kernel
theorem dX0_init_1 : decode cX0_init 1 = .ok (.invokespecial 3, 3) := by decide +kernel
theorem dX0_init_4 : decode cX0_init 4 = .ok (.aload_n 0, 1) := by decide +kernel
theorem dX0_init_5 : decode cX0_init 5 = .ok (.new 9, 3) := by decide +kernel
theorem dX0_init_8 : decode cX0_init 8 = .ok (.dup, 1) := by decide +kernel
theorem dX0_init_9 : decode cX0_init 9 = .ok (.invokespecial 11, 3) := by decide +kernel
theorem dX0_init_12 : decode cX0_init 12 = .ok (.putfield 12, 3) := by decide +kernel
theorem dX0_init_15 : decode cX0_init 15 = .ok (.aload_n 0, 1) := by decide +kernel
theorem dX0_init_16 : decode cX0_init 16 = .ok (.bipush 6, 2) := by decide +kernel
theorem dX0_init_18 : decode cX0_init 18 = .ok (.anewarray 18, 3) := by decide +kernel
theorem dX0_init_21 : decode cX0_init 21 = .ok (.putfield 20, 3) := by decide +kernel
theorem dX0_init_24 : decode cX0_init 24 = .ok (.iconst 0, 1) := by decide +kernel
theorem dX0_init_25 : decode cX0_init 25 = .ok (.istore_n 1, 1) := by decide +kernel
theorem dX0_init_26 : decode cX0_init 26 = .ok (.iload_n 1, 1) := by decide +kernel
theorem dX0_init_27 : decode cX0_init 27 = .ok (.bipush 6, 2) := by decide +kernel
theorem dX0_init_29 : decode cX0_init 29 = .ok (.if_icmp .ge 22, 3) := by decide +kernel
theorem dX0_init_32 : decode cX0_init 32 = .ok (.aload_n 0, 1) := by decide +kernel
theorem dX0_init_33 : decode cX0_init 33 = .ok (.getfield 20, 3) := by decide +kernel
theorem dX0_init_36 : decode cX0_init 36 = .ok (.iload_n 1, 1) := by decide +kernel
theorem dX0_init_37 : decode cX0_init 37 = .ok (.new 18, 3) := by decide +kernel
theorem dX0_init_40 : decode cX0_init 40 = .ok (.dup, 1) := by decide +kernel
theorem dX0_init_41 : decode cX0_init 41 = .ok (.invokespecial 24, 3) := by decide +kernel
theorem dX0_init_44 : decode cX0_init 44 = .ok (.aastore, 1) := by decide +kernel
theorem dX0_init_45 : decode cX0_init 45 = .ok (.iinc 1 1, 3) := by decide +kernel
theorem dX0_init_48 : decode cX0_init 48 = .ok (.goto (-22), 3) := by decide +kernel
theorem dX0_init_51 : decode cX0_init 51 = .ok (.aload_n 0, 1) := by decide +kernel
theorem dX0_init_52 : decode cX0_init 52 = .ok (.iconst 4, 1) := by decide +kernel
theorem dX0_init_53 : decode cX0_init 53 = .ok (.newarray .int, 2) := by decide +kernel
theorem dX0_init_55 : decode cX0_init 55 = .ok (.putfield 25, 3) := by decide +kernel
theorem dX0_init_58 : decode cX0_init 58 = .ok (.aload_n 0, 1) := by decide +kernel
theorem dX0_init_59 : decode cX0_init 59 = .ok (.iconst 4, 1) := by decide +kernel
theorem dX0_init_60 : decode cX0_init 60 = .ok (.newarray .int, 2) := by decide +kernel
theorem dX0_init_62 : decode cX0_init 62 = .ok (.putfield 29, 3) := by decide +kernel
theorem dX0_init_65 : decode cX0_init 65 = .ok (.return_, 1) := by decide +kernel
theorem dX0_startAnew_0 : decode cX0_startAnew 0 = .ok (.aload_n 0, 1) := by decide +kernel
theorem dX0_startAnew_1 : decode cX0_startAnew 1 = .ok (.getfield 12, 3) := by decide +kernel
theorem dX0_startAnew_4 : decode cX0_startAnew 4 = .ok (.iload_n 1, 1) := by decide +kernel
theorem dX0_startAnew_5 : decode cX0_startAnew 5 = .ok (.invokevirtual 32, 3) := by decide +kernel
theorem dX0_startAnew_8 : decode cX0_startAnew 8 = .ok (.aload_n 0, 1) := by decide +kernel
theorem dX0_startAnew_9 : decode cX0_startAnew 9 = .ok (.getfield 20, 3) := by decide +kernel
theorem dX0_startAnew_12 : decode cX0_startAnew 12 = .ok (.astore_n 3, 1) := by decide +kernel
theorem dX0_startAnew_13 : decode cX0_startAnew 13 = .ok (.aload_n 3, 1) := by decide +kernel
theorem dX0_startAnew_14 : decode cX0_startAnew 14 = .ok (.arraylength, 1) := by decide +kernel
theorem dX0_startAnew_15 : decode cX0_startAnew 15 = .ok (.istore 4, 2) := by decide +kernel
theorem dX0_startAnew_17 : decode cX0_startAnew 17 = .ok (.iconst 0, 1) := by decide +kernel
theorem dX0_startAnew_18 : decode cX0_startAnew 18 = .ok (.istore 5, 2) := by decide +kernel
theorem dX0_startAnew_20 : decode cX0_startAnew 20 = .ok (.iload 5, 2) := by decide +kernel
theorem dX0_startAnew_22 : decode cX0_startAnew 22 = .ok (.iload 4, 2) := by decide +kernel
theorem dX0_startAnew_24 : decode cX0_startAnew 24 = .ok (.if_icmp .ge 20, 3) := by decide +kernel
theorem dX0_startAnew_27 : decode cX0_startAnew 27 = .ok (.aload_n 3, 1) := by decide +kernel
theorem dX0_startAnew_28 : decode cX0_startAnew 28 = .ok (.iload 5, 2) := by decide +kernel
theorem dX0_startAnew_30 : decode cX0_startAnew 30 = .ok (.aaload, 1) := by decide +kernel
theorem dX0_startAnew_31 : decode cX0_startAnew 31 = .ok (.astore 6, 2) := by decide +kernel
theorem dX0_startAnew_33 : decode cX0_startAnew 33 = .ok (.aload 6, 2) := by decide +kernel
theorem dX0_startAnew_35 : decode cX0_startAnew 35 = .ok (.invokevirtual 36, 3) := by decide +kernel
theorem dX0_startAnew_38 : decode cX0_startAnew 38 = .ok (.iinc 5 1, 3) := by decide +kernel
theorem dX0_startAnew_41 : decode cX0_startAnew 41 = .ok (.goto (-21), 3) := by decide +kernel
theorem dX0_startAnew_44 : decode cX0_startAnew 44 = .ok (.aload_n 0, 1) := by decide +kernel
theorem dX0_startAnew_45 : decode cX0_startAnew 45 = .ok (.iload_n 2, 1) := by decide +kernel
theorem dX0_startAnew_46 : decode cX0_startAnew 46 = .ok (.putfield 38, 3) := by decide +kernel
theorem dX0_startAnew_49 : decode cX0_startAnew 49 = .ok (.aload_n 0, 1) := by decide +kernel
theorem dX0_startAnew_50 : decode cX0_startAnew 50 = .ok (.iconst 0, 1) := by decide +kernel
theorem dX0_startAnew_51 : decode cX0_startAnew 51 = .ok (.putfield 42, 3) := by decide +kernel
theorem dX0_startAnew_54 : decode cX0_startAnew 54 = .ok (.aload_n 0, 1) := by decide +kernel
theorem dX0_startAnew_55 : decode cX0_startAnew 55 = .ok (.iconst 0, 1) := by decide +kernel
theorem dX0_startAnew_56 : decode cX0_startAnew 56 = .ok (.putfield 46, 3) := by decide +kernel
theorem dX0_startAnew_59 : decode cX0_startAnew 59 = .ok (.aload_n 0, 1) := by decide +kernel
theorem dX0_startAnew_60 : decode cX0_startAnew 60 = .ok (.iconst 0, 1) := by decide +kernel
theorem dX0_startAnew_61 : decode cX0_startAnew 61 = .ok (.putfield 49, 3) := by decide +kernel
theorem dX0_startAnew_64 : decode cX0_startAnew 64 = .ok (.aload_n 0, 1) := by decide +kernel
theorem dX0_startAnew_65 : decode cX0_startAnew 65 = .ok (.iconst (-1), 1) := by decide +kernel
theorem dX0_startAnew_66 : decode cX0_startAnew 66 = .ok (.putfield 52, 3) := by decide +kernel
theorem dX0_startAnew_69 : decode cX0_startAnew 69 = .ok (.aload_n 0, 1) := by decide +kernel
theorem dX0_startAnew_70 : decode cX0_startAnew 70 = .ok (.iconst (-1), 1) := by decide +kernel
theorem dX0_startAnew_71 : decode cX0_startAnew 71 = .ok (.putfield 55, 3) := by decide +kernel
theorem dX0_startAnew_74 : decode cX0_startAnew 74 = .ok (.aload_n 0, 1) := by decide +kernel
theorem dX0_startAnew_75 : decode cX0_startAnew 75 = .ok (.iconst 0, 1) := by decide +kernel
theorem dX0_startAnew_76 : decode cX0_startAnew 76 = .ok (.putfield 58, 3) := by decide +kernel
theorem dX0_startAnew_79 : decode cX0_startAnew 79 = .ok (.return_, 1) := by decide +kernel
theorem dX0_copyFrom_0 : decode cX0_copyFrom 0 = .ok (.aload_n 0, 1) := by decide +kernel
theorem dX0_copyFrom_1 : decode cX0_copyFrom 1 = .ok (.getfield 12, 3) := by decide +kernel
theorem dX0_copyFrom_4 : decode cX0_copyFrom 4 = .ok (.aload_n 1, 1) := by decide +kernel
theorem dX0_copyFrom_5 : decode cX0_copyFrom 5 = .ok (.getfield 12, 3) := by decide +kernel
theorem dX0_copyFrom_8 : decode cX0_copyFrom 8 = .ok (.invokevirtual 61, 3) := by decide +kernel
theorem dX0_copyFrom_11 : decode cX0_copyFrom 11 = .ok (.iconst 0, 1) := by decide +kernel
theorem dX0_copyFrom_12 : decode cX0_copyFrom 12 = .ok (.istore_n 2, 1) := by decide +kernel
theorem dX0_copyFrom_13 : decode cX0_copyFrom 13 = .ok (.iload_n 2, 1) := by decide +kernel
theorem dX0_copyFrom_14 : decode cX0_copyFrom 14 = .ok (.bipush 6, 2) := by decide +kernel
theorem dX0_copyFrom_16 : decode cX0_copyFrom 16 = .ok (.if_icmp .ge 24, 3) := by decide +kernel
theorem dX0_copyFrom_19 : decode cX0_copyFrom 19 = .ok (.aload_n 0, 1) := by decide +kernel
theorem dX0_copyFrom_20 : decode cX0_copyFrom 20 = .ok (.getfield 20, 3) := by decide +kernel
theorem dX0_copyFrom_23 : decode cX0_copyFrom 23 = .ok (.iload_n 2, 1) := by decide +kernel
theorem dX0_copyFrom_24 : decode cX0_copyFrom 24 = .ok (.aaload, 1) := by decide +kernel
theorem dX0_copyFrom_25 : decode cX0_copyFrom 25 = .ok (.aload_n 1, 1) := by decide +kernel
theorem dX0_copyFrom_26 : decode cX0_copyFrom 26 = .ok (.getfield 20, 3) := by decide +kernel
theorem dX0_copyFrom_29 : decode cX0_copyFrom 29 = .ok (.iload_n 2, 1) := by decide +kernel
theorem dX0_copyFrom_30 : decode cX0_copyFrom 30 = .ok (.aaload, 1) := by decide +kernel
theorem dX0_copyFrom_31 : decode cX0_copyFrom 31 = .ok (.invokevirtual 65, 3) := by decide +kernel
theorem dX0_copyFrom_34 : decode cX0_copyFrom 34 = .ok (.iinc 2 1, 3) := by decide +kernel
theorem dX0_copyFrom_37 : decode cX0_copyFrom 37 = .ok (.goto (-24), 3) := by decide +kernel
theorem dX0_copyFrom_40 : decode cX0_copyFrom 40 = .ok (.aload_n 0, 1) := by decide +kernel
theorem dX0_copyFrom_41 : decode cX0_copyFrom 41 = .ok (.aload_n 1, 1) := by decide +kernel
theorem dX0_copyFrom_42 : decode cX0_copyFrom 42 = .ok (.getfield 38, 3) := by decide +kernel
theorem dX0_copyFrom_45 : decode cX0_copyFrom 45 = .ok (.putfield 38, 3) := by decide +kernel
theorem dX0_copyFrom_48 : decode cX0_copyFrom 48 = .ok (.aload_n 0, 1) := by decide +kernel
theorem dX0_copyFrom_49 : decode cX0_copyFrom 49 = .ok (.aload_n 1, 1) := by decide +kernel
theorem dX0_copyFrom_50 : decode cX0_copyFrom 50 = .ok (.getfield 42, 3) := by decide +kernel
theorem dX0_copyFrom_53 : decode cX0_copyFrom 53 = .ok (.putfield 42, 3) := by decide +kernel
theorem dX0_copyFrom_56 : decode cX0_copyFrom 56 = .ok (.aload_n 0, 1) := by decide +kernel
theorem dX0_copyFrom_57 : decode cX0_copyFrom 57 = .ok (.aload_n 1, 1) := by decide +kernel
theorem dX0_copyFrom_58 : decode cX0_copyFrom 58 = .ok (.getfield 46, 3) := by decide +kernel
theorem dX0_copyFrom_61 : decode cX0_copyFrom 61 = .ok (.putfield 46, 3) := by decide +kernel
theorem dX0_copyFrom_64 : decode cX0_copyFrom 64 = .ok (.aload_n 0, 1) := by decide +kernel
theorem dX0_copyFrom_65 : decode cX0_copyFrom 65 = .ok (.aload_n 1, 1) := by decide +kernel
theorem dX0_copyFrom_66 : decode cX0_copyFrom 66 = .ok (.getfield 49, 3) := by decide +kernel
theorem dX0_copyFrom_69 : decode cX0_copyFrom 69 = .ok (.putfield 49, 3) := by decide +kernel
theorem dX0_copyFrom_72 : decode cX0_copyFrom 72 = .ok (.aload_n 0, 1) := by decide +kernel
theorem dX0_copyFrom_73 : decode cX0_copyFrom 73 = .ok (.aload_n 1, 1) := by decide +kernel
theorem dX0_copyFrom_74 : decode cX0_copyFrom 74 = .ok (.getfield 52, 3) := by decide +kernel
theorem dX0_copyFrom_77 : decode cX0_copyFrom 77 = .ok (.putfield 52, 3) := by decide +kernel
theorem dX0_copyFrom_80 : decode cX0_copyFrom 80 = .ok (.aload_n 0, 1) := by decide +kernel
theorem dX0_copyFrom_81 : decode cX0_copyFrom 81 = .ok (.aload_n 1, 1) := by decide +kernel
theorem dX0_copyFrom_82 : decode cX0_copyFrom 82 = .ok (.getfield 55, 3) := by decide +kernel
theorem dX0_copyFrom_85 : decode cX0_copyFrom 85 = .ok (.putfield 55, 3) := by decide +kernel
theorem dX0_copyFrom_88 : decode cX0_copyFrom 88 = .ok (.aload_n 1, 1) := by decide +kernel
theorem dX0_copyFrom_89 : decode cX0_copyFrom 89 = .ok (.getfield 25, 3) := by decide +kernel
theorem dX0_copyFrom_92 : decode cX0_copyFrom 92 = .ok (.iconst 0, 1) := by decide +kernel
theorem dX0_copyFrom_93 : decode cX0_copyFrom 93 = .ok (.aload_n 0, 1) := by decide +kernel
theorem dX0_copyFrom_94 : decode cX0_copyFrom 94 = .ok (.getfield 25, 3) := by decide +kernel
theorem dX0_copyFrom_97 : decode cX0_copyFrom 97 = .ok (.iconst 0, 1) := by decide +kernel
theorem dX0_copyFrom_98 : decode cX0_copyFrom 98 = .ok (.iconst 4, 1) := by decide +kernel
theorem dX0_copyFrom_99 : decode cX0_copyFrom 99 = .ok (.invokestatic 68, 3) := by decide +kernel
theorem dX0_copyFrom_102 : decode cX0_copyFrom 102 = .ok (.aload_n 0, 1) := by decide +kernel
theorem dX0_copyFrom_103 : decode cX0_copyFrom 103 = .ok (.aload_n 1, 1) := by decide +kernel
theorem dX0_copyFrom_104 : decode cX0_copyFrom 104 = .ok (.getfield 58, 3) := by decide +kernel
theorem dX0_copyFrom_107 : decode cX0_copyFrom 107 = .ok (.putfield 58, 3) := by decide +kernel
theorem dX0_copyFrom_110 : decode cX0_copyFrom 110 = .ok (.return_, 1) := by decide +kernel
theorem dX0_portAt_0 : decode cX0_portAt 0 = .ok (.iload_n 1, 1) := by decide +kernel
theorem dX0_portAt_1 : decode cX0_portAt 1 = .ok (.ifCond .lt 20, 3) := by decide +kernel
theorem dX0_portAt_4 : decode cX0_portAt 4 = .ok (.iload_n 1, 1) := by decide +kernel
theorem dX0_portAt_5 : decode cX0_portAt 5 = .ok (.aload_n 0, 1) := by decide +kernel
theorem dX0_portAt_6 : decode cX0_portAt 6 = .ok (.getfield 38, 3) := by decide +kernel
theorem dX0_portAt_9 : decode cX0_portAt 9 = .ok (.if_icmp .ge 12, 3) := by decide +kernel
theorem dX0_portAt_12 : decode cX0_portAt 12 = .ok (.aload_n 0, 1) := by decide +kernel
theorem dX0_portAt_13 : decode cX0_portAt 13 = .ok (.getfield 20, 3) := by decide +kernel
theorem dX0_portAt_16 : decode cX0_portAt 16 = .ok (.iload_n 1, 1) := by decide +kernel
theorem dX0_portAt_17 : decode cX0_portAt 17 = .ok (.aaload, 1) := by decide +kernel
theorem dX0_portAt_18 : decode cX0_portAt 18 = .ok (.goto 4, 3) := by decide +kernel
theorem dX0_portAt_21 : decode cX0_portAt 21 = .ok (.aconst_null, 1) := by decide +kernel
theorem dX0_portAt_22 : decode cX0_portAt 22 = .ok (.areturn, 1) := by decide +kernel
theorem dX0_queueAt_0 : decode cX0_queueAt 0 = .ok (.iload_n 1, 1) := by decide +kernel
theorem dX0_queueAt_1 : decode cX0_queueAt 1 = .ok (.ifCond .lt 20, 3) := by decide +kernel
theorem dX0_queueAt_4 : decode cX0_queueAt 4 = .ok (.iload_n 1, 1) := by decide +kernel
theorem dX0_queueAt_5 : decode cX0_queueAt 5 = .ok (.aload_n 0, 1) := by decide +kernel
theorem dX0_queueAt_6 : decode cX0_queueAt 6 = .ok (.getfield 38, 3) := by decide +kernel
theorem dX0_queueAt_9 : decode cX0_queueAt 9 = .ok (.if_icmp .ge 12, 3) := by decide +kernel
theorem dX0_queueAt_12 : decode cX0_queueAt 12 = .ok (.iload_n 2, 1) := by decide +kernel
theorem dX0_queueAt_13 : decode cX0_queueAt 13 = .ok (.ifCond .lt 8, 3) := by decide +kernel
theorem dX0_queueAt_16 : decode cX0_queueAt 16 = .ok (.iload_n 2, 1) := by decide +kernel
theorem dX0_queueAt_17 : decode cX0_queueAt 17 = .ok (.iconst 3, 1) := by decide +kernel
theorem dX0_queueAt_18 : decode cX0_queueAt 18 = .ok (.if_icmp .lt 5, 3) := by decide +kernel
theorem dX0_queueAt_21 : decode cX0_queueAt 21 = .ok (.aconst_null, 1) := by decide +kernel
theorem dX0_queueAt_22 : decode cX0_queueAt 22 = .ok (.areturn, 1) := by decide +kernel
theorem dX0_queueAt_23 : decode cX0_queueAt 23 = .ok (.aload_n 0, 1) := by decide +kernel
theorem dX0_queueAt_24 : decode cX0_queueAt 24 = .ok (.getfield 20, 3) := by decide +kernel
theorem dX0_queueAt_27 : decode cX0_queueAt 27 = .ok (.iload_n 1, 1) := by decide +kernel
theorem dX0_queueAt_28 : decode cX0_queueAt 28 = .ok (.aaload, 1) := by decide +kernel
theorem dX0_queueAt_29 : decode cX0_queueAt 29 = .ok (.getfield 74, 3) := by decide +kernel
theorem dX0_queueAt_32 : decode cX0_queueAt 32 = .ok (.iload_n 2, 1) := by decide +kernel
theorem dX0_queueAt_33 : decode cX0_queueAt 33 = .ok (.aaload, 1) := by decide +kernel
theorem dX0_queueAt_34 : decode cX0_queueAt 34 = .ok (.areturn, 1) := by decide +kernel
theorem dX0_poolSize_0 : decode cX0_poolSize 0 = .ok (.aload_n 0, 1) := by decide +kernel
theorem dX0_poolSize_1 : decode cX0_poolSize 1 = .ok (.getfield 12, 3) := by decide +kernel
theorem dX0_poolSize_4 : decode cX0_poolSize 4 = .ok (.getfield 78, 3) := by decide +kernel
theorem dX0_poolSize_7 : decode cX0_poolSize 7 = .ok (.istore_n 1, 1) := by decide +kernel
theorem dX0_poolSize_8 : decode cX0_poolSize 8 = .ok (.iconst 0, 1) := by decide +kernel
theorem dX0_poolSize_9 : decode cX0_poolSize 9 = .ok (.istore_n 2, 1) := by decide +kernel
theorem dX0_poolSize_10 : decode cX0_poolSize 10 = .ok (.iload_n 2, 1) := by decide +kernel
theorem dX0_poolSize_11 : decode cX0_poolSize 11 = .ok (.aload_n 0, 1) := by decide +kernel
theorem dX0_poolSize_12 : decode cX0_poolSize 12 = .ok (.getfield 38, 3) := by decide +kernel
theorem dX0_poolSize_15 : decode cX0_poolSize 15 = .ok (.if_icmp .ge 33, 3) := by decide +kernel
theorem dX0_poolSize_18 : decode cX0_poolSize 18 = .ok (.aload_n 0, 1) := by decide +kernel
theorem dX0_poolSize_19 : decode cX0_poolSize 19 = .ok (.getfield 20, 3) := by decide +kernel
theorem dX0_poolSize_22 : decode cX0_poolSize 22 = .ok (.iload_n 2, 1) := by decide +kernel
theorem dX0_poolSize_23 : decode cX0_poolSize 23 = .ok (.aaload, 1) := by decide +kernel
theorem dX0_poolSize_24 : decode cX0_poolSize 24 = .ok (.astore_n 3, 1) := by decide +kernel
theorem dX0_poolSize_25 : decode cX0_poolSize 25 = .ok (.iload_n 1, 1) := by decide +kernel
theorem dX0_poolSize_26 : decode cX0_poolSize 26 = .ok (.aload_n 3, 1) := by decide +kernel
theorem dX0_poolSize_27 : decode cX0_poolSize 27 = .ok (.getfield 81, 3) := by decide +kernel
theorem dX0_poolSize_30 : decode cX0_poolSize 30 = .ok (.aload_n 3, 1) := by decide +kernel
theorem dX0_poolSize_31 : decode cX0_poolSize 31 = .ok (.getfield 84, 3) := by decide +kernel
theorem dX0_poolSize_34 : decode cX0_poolSize 34 = .ok (.iadd, 1) := by decide +kernel
theorem dX0_poolSize_35 : decode cX0_poolSize 35 = .ok (.aload_n 3, 1) := by decide +kernel
theorem dX0_poolSize_36 : decode cX0_poolSize 36 = .ok (.getfield 87, 3) := by decide +kernel
theorem dX0_poolSize_39 : decode cX0_poolSize 39 = .ok (.iadd, 1) := by decide +kernel
theorem dX0_poolSize_40 : decode cX0_poolSize 40 = .ok (.isub, 1) := by decide +kernel
theorem dX0_poolSize_41 : decode cX0_poolSize 41 = .ok (.istore_n 1, 1) := by decide +kernel
theorem dX0_poolSize_42 : decode cX0_poolSize 42 = .ok (.iinc 2 1, 3) := by decide +kernel
theorem dX0_poolSize_45 : decode cX0_poolSize 45 = .ok (.goto (-35), 3) := by decide +kernel
theorem dX0_poolSize_48 : decode cX0_poolSize 48 = .ok (.iload_n 1, 1) := by decide +kernel
theorem dX0_poolSize_49 : decode cX0_poolSize 49 = .ok (.ireturn, 1) := by decide +kernel
theorem dX0_sharedLeft_0 : decode cX0_sharedLeft 0 = .ok (.aload_n 0, 1) := by decide +kernel
theorem dX0_sharedLeft_1 : decode cX0_sharedLeft 1 = .ok (.invokevirtual 90, 3) := by decide +kernel
theorem dX0_sharedLeft_4 : decode cX0_sharedLeft 4 = .ok (.istore_n 1, 1) := by decide +kernel
theorem dX0_sharedLeft_5 : decode cX0_sharedLeft 5 = .ok (.iconst 0, 1) := by decide +kernel
theorem dX0_sharedLeft_6 : decode cX0_sharedLeft 6 = .ok (.istore_n 2, 1) := by decide +kernel
theorem dX0_sharedLeft_7 : decode cX0_sharedLeft 7 = .ok (.iload_n 2, 1) := by decide +kernel
theorem dX0_sharedLeft_8 : decode cX0_sharedLeft 8 = .ok (.aload_n 0, 1) := by decide +kernel
theorem dX0_sharedLeft_9 : decode cX0_sharedLeft 9 = .ok (.getfield 38, 3) := by decide +kernel
theorem dX0_sharedLeft_12 : decode cX0_sharedLeft 12 = .ok (.if_icmp .ge 21, 3) := by decide +kernel
theorem dX0_sharedLeft_15 : decode cX0_sharedLeft 15 = .ok (.iload_n 1, 1) := by decide +kernel
theorem dX0_sharedLeft_16 : decode cX0_sharedLeft 16 = .ok (.aload_n 0, 1) := by decide +kernel
theorem dX0_sharedLeft_17 : decode cX0_sharedLeft 17 = .ok (.getfield 20, 3) := by decide +kernel
theorem dX0_sharedLeft_20 : decode cX0_sharedLeft 20 = .ok (.iload_n 2, 1) := by decide +kernel
theorem dX0_sharedLeft_21 : decode cX0_sharedLeft 21 = .ok (.aaload, 1) := by decide +kernel
theorem dX0_sharedLeft_22 : decode cX0_sharedLeft 22 = .ok (.invokevirtual 94, 3) := by decide +kernel
theorem dX0_sharedLeft_25 : decode cX0_sharedLeft 25 = .ok (.isub, 1) := by decide +kernel
theorem dX0_sharedLeft_26 : decode cX0_sharedLeft 26 = .ok (.istore_n 1, 1) := by decide +kernel
theorem dX0_sharedLeft_27 : decode cX0_sharedLeft 27 = .ok (.iinc 2 1, 3) := by decide +kernel
theorem dX0_sharedLeft_30 : decode cX0_sharedLeft 30 = .ok (.goto (-23), 3) := by decide +kernel
theorem dX0_sharedLeft_33 : decode cX0_sharedLeft 33 = .ok (.iload_n 1, 1) := by decide +kernel
theorem dX0_sharedLeft_34 : decode cX0_sharedLeft 34 = .ok (.ireturn, 1) := by decide +kernel
theorem dX0_giveGrant_0 : decode cX0_giveGrant 0 = .ok (.aload_n 1, 1) := by decide +kernel
theorem dX0_giveGrant_1 : decode cX0_giveGrant 1 = .ok (.getfield 84, 3) := by decide +kernel
theorem dX0_giveGrant_4 : decode cX0_giveGrant 4 = .ok (.ifCond .ne 18, 3) := by decide +kernel
theorem dX0_giveGrant_7 : decode cX0_giveGrant 7 = .ok (.aload_n 0, 1) := by decide +kernel
theorem dX0_giveGrant_8 : decode cX0_giveGrant 8 = .ok (.getfield 55, 3) := by decide +kernel
theorem dX0_giveGrant_11 : decode cX0_giveGrant 11 = .ok (.iconst (-1), 1) := by decide +kernel
theorem dX0_giveGrant_12 : decode cX0_giveGrant 12 = .ok (.if_icmp .eq 10, 3) := by decide +kernel
theorem dX0_giveGrant_15 : decode cX0_giveGrant 15 = .ok (.aload_n 0, 1) := by decide +kernel
theorem dX0_giveGrant_16 : decode cX0_giveGrant 16 = .ok (.getfield 52, 3) := by decide +kernel
theorem dX0_giveGrant_19 : decode cX0_giveGrant 19 = .ok (.goto 4, 3) := by decide +kernel
theorem dX0_giveGrant_22 : decode cX0_giveGrant 22 = .ok (.iconst (-1), 1) := by decide +kernel
theorem dX0_giveGrant_23 : decode cX0_giveGrant 23 = .ok (.istore 4, 2) := by decide +kernel
theorem dX0_giveGrant_25 : decode cX0_giveGrant 25 = .ok (.aload_n 0, 1) := by decide +kernel
theorem dX0_giveGrant_26 : decode cX0_giveGrant 26 = .ok (.iload 4, 2) := by decide +kernel
theorem dX0_giveGrant_28 : decode cX0_giveGrant 28 = .ok (.invokevirtual 97, 3) := by decide +kernel
theorem dX0_giveGrant_31 : decode cX0_giveGrant 31 = .ok (.astore 5, 2) := by decide +kernel
theorem dX0_giveGrant_33 : decode cX0_giveGrant 33 = .ok (.aload_n 0, 1) := by decide +kernel
theorem dX0_giveGrant_34 : decode cX0_giveGrant 34 = .ok (.invokevirtual 101, 3) := by decide +kernel
theorem dX0_giveGrant_37 : decode cX0_giveGrant 37 = .ok (.istore 6, 2) := by decide +kernel
theorem dX0_giveGrant_39 : decode cX0_giveGrant 39 = .ok (.aload 5, 2) := by decide +kernel
theorem dX0_giveGrant_41 : decode cX0_giveGrant 41 = .ok (.ifnull 29, 3) := by decide +kernel
theorem dX0_giveGrant_44 : decode cX0_giveGrant 44 = .ok (.iload 6, 2) := by decide +kernel
theorem dX0_giveGrant_46 : decode cX0_giveGrant 46 = .ok (.aload 5, 2) := by decide +kernel
theorem dX0_giveGrant_48 : decode cX0_giveGrant 48 = .ok (.getfield 84, 3) := by decide +kernel
theorem dX0_giveGrant_51 : decode cX0_giveGrant 51 = .ok (.iconst 0, 1) := by decide +kernel
theorem dX0_giveGrant_52 : decode cX0_giveGrant 52 = .ok (.aload 5, 2) := by decide +kernel
theorem dX0_giveGrant_54 : decode cX0_giveGrant 54 = .ok (.invokevirtual 104, 3) := by decide +kernel
theorem dX0_giveGrant_57 : decode cX0_giveGrant 57 = .ok (.aload 5, 2) := by decide +kernel
theorem dX0_giveGrant_59 : decode cX0_giveGrant 59 = .ok (.getfield 81, 3) := by decide +kernel
theorem dX0_giveGrant_62 : decode cX0_giveGrant 62 = .ok (.isub, 1) := by decide +kernel
theorem dX0_giveGrant_63 : decode cX0_giveGrant 63 = .ok (.invokestatic 107, 3) := by decide +kernel
theorem dX0_giveGrant_66 : decode cX0_giveGrant 66 = .ok (.isub, 1) := by decide +kernel
theorem dX0_giveGrant_67 : decode cX0_giveGrant 67 = .ok (.iadd, 1) := by decide +kernel
theorem dX0_giveGrant_68 : decode cX0_giveGrant 68 = .ok (.istore 6, 2) := by decide +kernel
theorem dX0_giveGrant_70 : decode cX0_giveGrant 70 = .ok (.iload_n 3, 1) := by decide +kernel
theorem dX0_giveGrant_71 : decode cX0_giveGrant 71 = .ok (.aload_n 1, 1) := by decide +kernel
theorem dX0_giveGrant_72 : decode cX0_giveGrant 72 = .ok (.getfield 84, 3) := by decide +kernel
theorem dX0_giveGrant_75 : decode cX0_giveGrant 75 = .ok (.isub, 1) := by decide +kernel
theorem dX0_giveGrant_76 : decode cX0_giveGrant 76 = .ok (.iload 6, 2) := by decide +kernel
theorem dX0_giveGrant_78 : decode cX0_giveGrant 78 = .ok (.if_icmp .le 6, 3) := by decide +kernel
theorem dX0_giveGrant_81 : decode cX0_giveGrant 81 = .ok (.bipush (-3), 2) := by decide +kernel
theorem dX0_giveGrant_83 : decode cX0_giveGrant 83 = .ok (.ireturn, 1) := by decide +kernel
theorem dX0_giveGrant_84 : decode cX0_giveGrant 84 = .ok (.aload 5, 2) := by decide +kernel
theorem dX0_giveGrant_86 : decode cX0_giveGrant 86 = .ok (.ifnull 11, 3) := by decide +kernel
theorem dX0_giveGrant_89 : decode cX0_giveGrant 89 = .ok (.aload_n 0, 1) := by decide +kernel
theorem dX0_giveGrant_90 : decode cX0_giveGrant 90 = .ok (.aload 5, 2) := by decide +kernel
theorem dX0_giveGrant_92 : decode cX0_giveGrant 92 = .ok (.iload 4, 2) := by decide +kernel
theorem dX0_giveGrant_94 : decode cX0_giveGrant 94 = .ok (.invokevirtual 113, 3) := by decide +kernel
theorem dX0_giveGrant_97 : decode cX0_giveGrant 97 = .ok (.aload_n 1, 1) := by decide +kernel
theorem dX0_giveGrant_98 : decode cX0_giveGrant 98 = .ok (.getfield 84, 3) := by decide +kernel
theorem dX0_giveGrant_101 : decode cX0_giveGrant 101 = .ok (.ifCond .ne 8, 3) := by decide +kernel
theorem dX0_giveGrant_104 : decode cX0_giveGrant 104 = .ok (.aload_n 0, 1) := by decide +kernel
theorem dX0_giveGrant_105 : decode cX0_giveGrant 105 = .ok (.iload_n 2, 1) := by decide +kernel
theorem dX0_giveGrant_106 : decode cX0_giveGrant 106 = .ok (.invokevirtual 117, 3) := by decide +kernel
theorem dX0_giveGrant_109 : decode cX0_giveGrant 109 = .ok (.aload_n 1, 1) := by decide +kernel
theorem dX0_giveGrant_110 : decode cX0_giveGrant 110 = .ok (.iload_n 3, 1) := by decide +kernel
theorem dX0_giveGrant_111 : decode cX0_giveGrant 111 = .ok (.putfield 84, 3) := by decide +kernel
theorem dX0_giveGrant_114 : decode cX0_giveGrant 114 = .ok (.aload_n 1, 1) := by decide +kernel
theorem dX0_giveGrant_115 : decode cX0_giveGrant 115 = .ok (.invokevirtual 120, 3) := by decide +kernel
theorem dX0_giveGrant_118 : decode cX0_giveGrant 118 = .ok (.aload 5, 2) := by decide +kernel
theorem dX0_giveGrant_120 : decode cX0_giveGrant 120 = .ok (.ifnonnull 8, 3) := by decide +kernel
theorem dX0_giveGrant_123 : decode cX0_giveGrant 123 = .ok (.bipush (-5), 2) := by decide +kernel
theorem dX0_giveGrant_125 : decode cX0_giveGrant 125 = .ok (.goto 5, 3) := by decide +kernel
theorem dX0_giveGrant_128 : decode cX0_giveGrant 128 = .ok (.iload 4, 2) := by decide +kernel
theorem dX0_giveGrant_130 : decode cX0_giveGrant 130 = .ok (.ireturn, 1) := by decide +kernel
theorem dX0_rememberGrant_0 : decode cX0_rememberGrant 0 = .ok (.aload_n 0, 1) := by decide +kernel
theorem dX0_rememberGrant_1 : decode cX0_rememberGrant 1 = .ok (.getfield 52, 3) := by decide +kernel
theorem dX0_rememberGrant_4 : decode cX0_rememberGrant 4 = .ok (.iconst (-1), 1) := by decide +kernel
theorem dX0_rememberGrant_5 : decode cX0_rememberGrant 5 = .ok (.if_icmp .ne 11, 3) := by decide +kernel
theorem dX0_rememberGrant_8 : decode cX0_rememberGrant 8 = .ok (.aload_n 0, 1) := by decide +kernel
theorem dX0_rememberGrant_9 : decode cX0_rememberGrant 9 = .ok (.iload_n 1, 1) := by decide +kernel
theorem dX0_rememberGrant_10 : decode cX0_rememberGrant 10 = .ok (.putfield 52, 3) := by decide +kernel
theorem dX0_rememberGrant_13 : decode cX0_rememberGrant 13 = .ok (.goto 8, 3) := by decide +kernel
theorem dX0_rememberGrant_16 : decode cX0_rememberGrant 16 = .ok (.aload_n 0, 1) := by decide +kernel
theorem dX0_rememberGrant_17 : decode cX0_rememberGrant 17 = .ok (.iload_n 1, 1) := by decide +kernel
theorem dX0_rememberGrant_18 : decode cX0_rememberGrant 18 = .ok (.putfield 55, 3) := by decide +kernel
theorem dX0_rememberGrant_21 : decode cX0_rememberGrant 21 = .ok (.return_, 1) := by decide +kernel
theorem dX0_endGrant_0 : decode cX0_endGrant 0 = .ok (.aload_n 1, 1) := by decide +kernel
theorem dX0_endGrant_1 : decode cX0_endGrant 1 = .ok (.iconst 0, 1) := by decide +kernel
theorem dX0_endGrant_2 : decode cX0_endGrant 2 = .ok (.putfield 84, 3) := by decide +kernel
theorem dX0_endGrant_5 : decode cX0_endGrant 5 = .ok (.aload_n 1, 1) := by decide +kernel
theorem dX0_endGrant_6 : decode cX0_endGrant 6 = .ok (.invokevirtual 120, 3) := by decide +kernel
theorem dX0_endGrant_9 : decode cX0_endGrant 9 = .ok (.aload_n 0, 1) := by decide +kernel
theorem dX0_endGrant_10 : decode cX0_endGrant 10 = .ok (.getfield 52, 3) := by decide +kernel
theorem dX0_endGrant_13 : decode cX0_endGrant 13 = .ok (.iload_n 2, 1) := by decide +kernel
theorem dX0_endGrant_14 : decode cX0_endGrant 14 = .ok (.if_icmp .ne 11, 3) := by decide +kernel
theorem dX0_endGrant_17 : decode cX0_endGrant 17 = .ok (.aload_n 0, 1) := by decide +kernel
theorem dX0_endGrant_18 : decode cX0_endGrant 18 = .ok (.aload_n 0, 1) := by decide +kernel
theorem dX0_endGrant_19 : decode cX0_endGrant 19 = .ok (.getfield 55, 3) := by decide +kernel
theorem dX0_endGrant_22 : decode cX0_endGrant 22 = .ok (.putfield 52, 3) := by decide +kernel
theorem dX0_endGrant_25 : decode cX0_endGrant 25 = .ok (.aload_n 0, 1) := by decide +kernel
theorem dX0_endGrant_26 : decode cX0_endGrant 26 = .ok (.iconst (-1), 1) := by decide +kernel
theorem dX0_endGrant_27 : decode cX0_endGrant 27 = .ok (.putfield 55, 3) := by decide +kernel
theorem dX0_endGrant_30 : decode cX0_endGrant 30 = .ok (.return_, 1) := by decide +kernel
theorem dX0_judge_0 : decode cX0_judge 0 = .ok (.aload_n 1, 1) := by decide +kernel
theorem dX0_judge_1 : decode cX0_judge 1 = .ok (.invokevirtual 123, 3) := by decide +kernel
theorem dX0_judge_4 : decode cX0_judge 4 = .ok (.istore 4, 2) := by decide +kernel
theorem dX0_judge_6 : decode cX0_judge 6 = .ok (.iload_n 3, 1) := by decide +kernel
theorem dX0_judge_7 : decode cX0_judge 7 = .ok (.iload_n 3, 1) := by decide +kernel
theorem dX0_judge_8 : decode cX0_judge 8 = .ok (.iload 4, 2) := by decide +kernel
theorem dX0_judge_10 : decode cX0_judge 10 = .ok (.invokestatic 126, 3) := by decide +kernel
theorem dX0_judge_13 : decode cX0_judge 13 = .ok (.isub, 1) := by decide +kernel
theorem dX0_judge_14 : decode cX0_judge 14 = .ok (.istore 5, 2) := by decide +kernel
theorem dX0_judge_16 : decode cX0_judge 16 = .ok (.aload_n 0, 1) := by decide +kernel
theorem dX0_judge_17 : decode cX0_judge 17 = .ok (.iconst 0, 1) := by decide +kernel
theorem dX0_judge_18 : decode cX0_judge 18 = .ok (.putfield 129, 3) := by decide +kernel
theorem dX0_judge_21 : decode cX0_judge 21 = .ok (.aload_n 0, 1) := by decide +kernel
theorem dX0_judge_22 : decode cX0_judge 22 = .ok (.iconst 0, 1) := by decide +kernel
theorem dX0_judge_23 : decode cX0_judge 23 = .ok (.putfield 132, 3) := by decide +kernel
theorem dX0_judge_26 : decode cX0_judge 26 = .ok (.aload_n 0, 1) := by decide +kernel
theorem dX0_judge_27 : decode cX0_judge 27 = .ok (.getfield 29, 3) := by decide +kernel
theorem dX0_judge_30 : decode cX0_judge 30 = .ok (.iconst 0, 1) := by decide +kernel
theorem dX0_judge_31 : decode cX0_judge 31 = .ok (.iload 5, 2) := by decide +kernel
theorem dX0_judge_33 : decode cX0_judge 33 = .ok (.ifCond .ne 7, 3) := by decide +kernel
theorem dX0_judge_36 : decode cX0_judge 36 = .ok (.iconst 0, 1) := by decide +kernel
theorem dX0_judge_37 : decode cX0_judge 37 = .ok (.goto 4, 3) := by decide +kernel
theorem dX0_judge_40 : decode cX0_judge 40 = .ok (.iconst 1, 1) := by decide +kernel
theorem dX0_judge_41 : decode cX0_judge 41 = .ok (.iastore, 1) := by decide +kernel
theorem dX0_judge_42 : decode cX0_judge 42 = .ok (.aload_n 0, 1) := by decide +kernel
theorem dX0_judge_43 : decode cX0_judge 43 = .ok (.getfield 29, 3) := by decide +kernel
theorem dX0_judge_46 : decode cX0_judge 46 = .ok (.iconst 0, 1) := by decide +kernel
theorem dX0_judge_47 : decode cX0_judge 47 = .ok (.iaload, 1) := by decide +kernel
theorem dX0_judge_48 : decode cX0_judge 48 = .ok (.ifCond .ne 9, 3) := by decide +kernel
theorem dX0_judge_51 : decode cX0_judge 51 = .ok (.aload_n 0, 1) := by decide +kernel
theorem dX0_judge_52 : decode cX0_judge 52 = .ok (.iconst 1, 1) := by decide +kernel
theorem dX0_judge_53 : decode cX0_judge 53 = .ok (.putfield 129, 3) := by decide +kernel
theorem dX0_judge_56 : decode cX0_judge 56 = .ok (.return_, 1) := by decide +kernel
theorem dX0_judge_57 : decode cX0_judge 57 = .ok (.aload_n 0, 1) := by decide +kernel
theorem dX0_judge_58 : decode cX0_judge 58 = .ok (.invokevirtual 101, 3) := by decide +kernel
theorem dX0_judge_61 : decode cX0_judge 61 = .ok (.istore 6, 2) := by decide +kernel
theorem dX0_judge_63 : decode cX0_judge 63 = .ok (.aload_n 0, 1) := by decide +kernel
theorem dX0_judge_64 : decode cX0_judge 64 = .ok (.getfield 29, 3) := by decide +kernel
theorem dX0_judge_67 : decode cX0_judge 67 = .ok (.iconst 1, 1) := by decide +kernel
theorem dX0_judge_68 : decode cX0_judge 68 = .ok (.aload_n 2, 1) := by decide +kernel
theorem dX0_judge_69 : decode cX0_judge 69 = .ok (.iload 5, 2) := by decide +kernel
theorem dX0_judge_71 : decode cX0_judge 71 = .ok (.iload 6, 2) := by decide +kernel
theorem dX0_judge_73 : decode cX0_judge 73 = .ok (.invokevirtual 135, 3) := by decide +kernel
theorem dX0_judge_76 : decode cX0_judge 76 = .ok (.iastore, 1) := by decide +kernel
theorem dX0_judge_77 : decode cX0_judge 77 = .ok (.aload_n 0, 1) := by decide +kernel
theorem dX0_judge_78 : decode cX0_judge 78 = .ok (.getfield 29, 3) := by decide +kernel
theorem dX0_judge_81 : decode cX0_judge 81 = .ok (.iconst 1, 1) := by decide +kernel
theorem dX0_judge_82 : decode cX0_judge 82 = .ok (.iaload, 1) := by decide +kernel
theorem dX0_judge_83 : decode cX0_judge 83 = .ok (.ifCond .ne 9, 3) := by decide +kernel
theorem dX0_judge_86 : decode cX0_judge 86 = .ok (.aload_n 0, 1) := by decide +kernel
theorem dX0_judge_87 : decode cX0_judge 87 = .ok (.iconst 2, 1) := by decide +kernel
theorem dX0_judge_88 : decode cX0_judge 88 = .ok (.putfield 129, 3) := by decide +kernel
theorem dX0_judge_91 : decode cX0_judge 91 = .ok (.return_, 1) := by decide +kernel
theorem dX0_judge_92 : decode cX0_judge 92 = .ok (.aload_n 0, 1) := by decide +kernel
theorem dX0_judge_93 : decode cX0_judge 93 = .ok (.getfield 29, 3) := by decide +kernel
theorem dX0_judge_96 : decode cX0_judge 96 = .ok (.iconst 2, 1) := by decide +kernel
theorem dX0_judge_97 : decode cX0_judge 97 = .ok (.aload_n 1, 1) := by decide +kernel
theorem dX0_judge_98 : decode cX0_judge 98 = .ok (.aload_n 2, 1) := by decide +kernel
theorem dX0_judge_99 : decode cX0_judge 99 = .ok (.iload 5, 2) := by decide +kernel
theorem dX0_judge_101 : decode cX0_judge 101 = .ok (.invokestatic 140, 3) := by decide +kernel
theorem dX0_judge_104 : decode cX0_judge 104 = .ok (.iastore, 1) := by decide +kernel
theorem dX0_judge_105 : decode cX0_judge 105 = .ok (.aload_n 0, 1) := by decide +kernel
theorem dX0_judge_106 : decode cX0_judge 106 = .ok (.getfield 29, 3) := by decide +kernel
theorem dX0_judge_109 : decode cX0_judge 109 = .ok (.iconst 2, 1) := by decide +kernel
theorem dX0_judge_110 : decode cX0_judge 110 = .ok (.iaload, 1) := by decide +kernel
theorem dX0_judge_111 : decode cX0_judge 111 = .ok (.ifCond .ne 9, 3) := by decide +kernel
theorem dX0_judge_114 : decode cX0_judge 114 = .ok (.aload_n 0, 1) := by decide +kernel
theorem dX0_judge_115 : decode cX0_judge 115 = .ok (.iconst 3, 1) := by decide +kernel
theorem dX0_judge_116 : decode cX0_judge 116 = .ok (.putfield 129, 3) := by decide +kernel
theorem dX0_judge_119 : decode cX0_judge 119 = .ok (.return_, 1) := by decide +kernel
theorem dX0_judge_120 : decode cX0_judge 120 = .ok (.aload_n 0, 1) := by decide +kernel
theorem dX0_judge_121 : decode cX0_judge 121 = .ok (.getfield 29, 3) := by decide +kernel
theorem dX0_judge_124 : decode cX0_judge 124 = .ok (.iconst 3, 1) := by decide +kernel
theorem dX0_judge_125 : decode cX0_judge 125 = .ok (.bipush 6, 2) := by decide +kernel
theorem dX0_judge_127 : decode cX0_judge 127 = .ok (.iastore, 1) := by decide +kernel
theorem dX0_judge_128 : decode cX0_judge 128 = .ok (.aload_n 0, 1) := by decide +kernel
theorem dX0_judge_129 : decode cX0_judge 129 = .ok (.getfield 42, 3) := by decide +kernel
theorem dX0_judge_132 : decode cX0_judge 132 = .ok (.ifCond .eq 26, 3) := by decide +kernel
theorem dX0_judge_135 : decode cX0_judge 135 = .ok (.aload_n 0, 1) := by decide +kernel
theorem dX0_judge_136 : decode cX0_judge 136 = .ok (.aload_n 0, 1) := by decide +kernel
theorem dX0_judge_137 : decode cX0_judge 137 = .ok (.aload_n 1, 1) := by decide +kernel
theorem dX0_judge_138 : decode cX0_judge 138 = .ok (.aload_n 2, 1) := by decide +kernel
theorem dX0_judge_139 : decode cX0_judge 139 = .ok (.iload_n 3, 1) := by decide +kernel
theorem dX0_judge_140 : decode cX0_judge 140 = .ok (.iload 4, 2) := by decide +kernel
theorem dX0_judge_142 : decode cX0_judge 142 = .ok (.iload 6, 2) := by decide +kernel
theorem dX0_judge_144 : decode cX0_judge 144 = .ok (.invokevirtual 144, 3) := by decide +kernel
theorem dX0_judge_147 : decode cX0_judge 147 = .ok (.putfield 132, 3) := by decide +kernel
theorem dX0_judge_150 : decode cX0_judge 150 = .ok (.aload_n 0, 1) := by decide +kernel
theorem dX0_judge_151 : decode cX0_judge 151 = .ok (.getfield 29, 3) := by decide +kernel
theorem dX0_judge_154 : decode cX0_judge 154 = .ok (.iconst 3, 1) := by decide +kernel
theorem dX0_judge_155 : decode cX0_judge 155 = .ok (.bipush 7, 2) := by decide +kernel
theorem dX0_judge_157 : decode cX0_judge 157 = .ok (.iastore, 1) := by decide +kernel
theorem dX0_judge_158 : decode cX0_judge 158 = .ok (.aload_n 0, 1) := by decide +kernel
theorem dX0_judge_159 : decode cX0_judge 159 = .ok (.getfield 132, 3) := by decide +kernel
theorem dX0_judge_162 : decode cX0_judge 162 = .ok (.ifCond .le 8, 3) := by decide +kernel
theorem dX0_judge_165 : decode cX0_judge 165 = .ok (.aload_n 0, 1) := by decide +kernel
theorem dX0_judge_166 : decode cX0_judge 166 = .ok (.iconst 4, 1) := by decide +kernel
theorem dX0_judge_167 : decode cX0_judge 167 = .ok (.putfield 129, 3) := by decide +kernel
theorem dX0_judge_170 : decode cX0_judge 170 = .ok (.return_, 1) := by decide +kernel
theorem dX0_headroomRefusal_0 : decode cX0_headroomRefusal 0 = .ok (.aload_n 1, 1) := by decide +kernel
theorem dX0_headroomRefusal_1 : decode cX0_headroomRefusal 1 = .ok (.getfield 148, 3) := by decide +kernel
theorem dX0_headroomRefusal_4 : decode cX0_headroomRefusal 4 = .ok (.ifCond .ne 5, 3) := by decide +kernel
theorem dX0_headroomRefusal_7 : decode cX0_headroomRefusal 7 = .ok (.iconst 4, 1) := by decide +kernel
theorem dX0_headroomRefusal_8 : decode cX0_headroomRefusal 8 = .ok (.ireturn, 1) := by decide +kernel
theorem dX0_headroomRefusal_9 : decode cX0_headroomRefusal 9 = .ok (.iload_n 2, 1) := by decide +kernel
theorem dX0_headroomRefusal_10 : decode cX0_headroomRefusal 10 = .ok (.aload_n 0, 1) := by decide +kernel
theorem dX0_headroomRefusal_11 : decode cX0_headroomRefusal 11 = .ok (.getfield 87, 3) := by decide +kernel
theorem dX0_headroomRefusal_14 : decode cX0_headroomRefusal 14 = .ok (.aload_n 0, 1) := by decide +kernel
theorem dX0_headroomRefusal_15 : decode cX0_headroomRefusal 15 = .ok (.invokevirtual 151, 3) := by decide +kernel
theorem dX0_headroomRefusal_18 : decode cX0_headroomRefusal 18 = .ok (.isub, 1) := by decide +kernel
theorem dX0_headroomRefusal_19 : decode cX0_headroomRefusal 19 = .ok (.if_icmp .le 7, 3) := by decide +kernel
theorem dX0_headroomRefusal_22 : decode cX0_headroomRefusal 22 = .ok (.iconst 5, 1) := by decide +kernel
theorem dX0_headroomRefusal_23 : decode cX0_headroomRefusal 23 = .ok (.goto 4, 3) := by decide +kernel
theorem dX0_headroomRefusal_26 : decode cX0_headroomRefusal 26 = .ok (.iconst 0, 1) := by decide +kernel
theorem dX0_headroomRefusal_27 : decode cX0_headroomRefusal 27 = .ok (.ireturn, 1) := by decide +kernel
theorem dX0_victimsNeeded_0 : decode cX0_victimsNeeded 0 = .ok (.iload 4, 2) := by decide +kernel
theorem dX0_victimsNeeded_2 : decode cX0_victimsNeeded 2 = .ok (.istore 6, 2) := by decide +kernel
theorem dX0_victimsNeeded_4 : decode cX0_victimsNeeded 4 = .ok (.iload 5, 2) := by decide +kernel
theorem dX0_victimsNeeded_6 : decode cX0_victimsNeeded 6 = .ok (.istore 7, 2) := by decide +kernel
theorem dX0_victimsNeeded_8 : decode cX0_victimsNeeded 8 = .ok (.iconst 0, 1) := by decide +kernel
theorem dX0_victimsNeeded_9 : decode cX0_victimsNeeded 9 = .ok (.istore 8, 2) := by decide +kernel
theorem dX0_victimsNeeded_11 : decode cX0_victimsNeeded 11 = .ok (.iconst 2, 1) := by decide +kernel
theorem dX0_victimsNeeded_12 : decode cX0_victimsNeeded 12 = .ok (.istore 9, 2) := by decide +kernel
theorem dX0_victimsNeeded_14 : decode cX0_victimsNeeded 14 = .ok (.iload 9, 2) := by decide +kernel
theorem dX0_victimsNeeded_16 : decode cX0_victimsNeeded 16 = .ok (.aload_n 2, 1) := by decide +kernel
theorem dX0_victimsNeeded_17 : decode cX0_victimsNeeded 17 = .ok (.getfield 154, 3) := by decide +kernel
theorem dX0_victimsNeeded_20 : decode cX0_victimsNeeded 20 = .ok (.if_icmp .le 172, 3) := by decide +kernel
theorem dX0_victimsNeeded_23 : decode cX0_victimsNeeded 23 = .ok (.aload_n 1, 1) := by decide +kernel
theorem dX0_victimsNeeded_24 : decode cX0_victimsNeeded 24 = .ok (.getfield 74, 3) := by decide +kernel
theorem dX0_victimsNeeded_27 : decode cX0_victimsNeeded 27 = .ok (.iload 9, 2) := by decide +kernel
theorem dX0_victimsNeeded_29 : decode cX0_victimsNeeded 29 = .ok (.aaload, 1) := by decide +kernel
theorem dX0_victimsNeeded_30 : decode cX0_victimsNeeded 30 = .ok (.astore 10, 2) := by decide +kernel
theorem dX0_victimsNeeded_32 : decode cX0_victimsNeeded 32 = .ok (.aload 10, 2) := by decide +kernel
theorem dX0_victimsNeeded_34 : decode cX0_victimsNeeded 34 = .ok (.getfield 157, 3) := by decide +kernel
theorem dX0_victimsNeeded_37 : decode cX0_victimsNeeded 37 = .ok (.istore 11, 2) := by decide +kernel
theorem dX0_victimsNeeded_39 : decode cX0_victimsNeeded 39 = .ok (.aload 10, 2) := by decide +kernel
theorem dX0_victimsNeeded_41 : decode cX0_victimsNeeded 41 = .ok (.getfield 160, 3) := by decide +kernel
theorem dX0_victimsNeeded_44 : decode cX0_victimsNeeded 44 = .ok (.istore 12, 2) := by decide +kernel
theorem dX0_victimsNeeded_46 : decode cX0_victimsNeeded 46 = .ok (.aload 10, 2) := by decide +kernel
theorem dX0_victimsNeeded_48 : decode cX0_victimsNeeded 48 = .ok (.getfield 163, 3) := by decide +kernel
theorem dX0_victimsNeeded_51 : decode cX0_victimsNeeded 51 = .ok (.istore 13, 2) := by decide +kernel
theorem dX0_victimsNeeded_53 : decode cX0_victimsNeeded 53 = .ok (.iconst 0, 1) := by decide +kernel
theorem dX0_victimsNeeded_54 : decode cX0_victimsNeeded 54 = .ok (.istore 14, 2) := by decide +kernel
theorem dX0_victimsNeeded_56 : decode cX0_victimsNeeded 56 = .ok (.iload 14, 2) := by decide +kernel
theorem dX0_victimsNeeded_58 : decode cX0_victimsNeeded 58 = .ok (.aload 10, 2) := by decide +kernel
theorem dX0_victimsNeeded_60 : decode cX0_victimsNeeded 60 = .ok (.getfield 166, 3) := by decide +kernel
theorem dX0_victimsNeeded_63 : decode cX0_victimsNeeded 63 = .ok (.if_icmp .ge 123, 3) := by decide +kernel
theorem dX0_victimsNeeded_66 : decode cX0_victimsNeeded 66 = .ok (.aload_n 0, 1) := by decide +kernel
theorem dX0_victimsNeeded_67 : decode cX0_victimsNeeded 67 = .ok (.getfield 12, 3) := by decide +kernel
theorem dX0_victimsNeeded_70 : decode cX0_victimsNeeded 70 = .ok (.iload 13, 2) := by decide +kernel
theorem dX0_victimsNeeded_72 : decode cX0_victimsNeeded 72 = .ok (.invokevirtual 169, 3) := by decide +kernel
theorem dX0_victimsNeeded_75 : decode cX0_victimsNeeded 75 = .ok (.istore 15, 2) := by decide +kernel
theorem dX0_victimsNeeded_77 : decode cX0_victimsNeeded 77 = .ok (.iload 15, 2) := by decide +kernel
theorem dX0_victimsNeeded_79 : decode cX0_victimsNeeded 79 = .ok (.iload 11, 2) := by decide +kernel
theorem dX0_victimsNeeded_81 : decode cX0_victimsNeeded 81 = .ok (.invokestatic 126, 3) := by decide +kernel
theorem dX0_victimsNeeded_84 : decode cX0_victimsNeeded 84 = .ok (.istore 16, 2) := by decide +kernel
theorem dX0_victimsNeeded_86 : decode cX0_victimsNeeded 86 = .ok (.iload 11, 2) := by decide +kernel
theorem dX0_victimsNeeded_88 : decode cX0_victimsNeeded 88 = .ok (.iload 16, 2) := by decide +kernel
theorem dX0_victimsNeeded_90 : decode cX0_victimsNeeded 90 = .ok (.isub, 1) := by decide +kernel
theorem dX0_victimsNeeded_91 : decode cX0_victimsNeeded 91 = .ok (.istore 11, 2) := by decide +kernel
theorem dX0_victimsNeeded_93 : decode cX0_victimsNeeded 93 = .ok (.iload 15, 2) := by decide +kernel
theorem dX0_victimsNeeded_95 : decode cX0_victimsNeeded 95 = .ok (.iload 16, 2) := by decide +kernel
theorem dX0_victimsNeeded_97 : decode cX0_victimsNeeded 97 = .ok (.isub, 1) := by decide +kernel
theorem dX0_victimsNeeded_98 : decode cX0_victimsNeeded 98 = .ok (.istore 15, 2) := by decide +kernel
theorem dX0_victimsNeeded_100 : decode cX0_victimsNeeded 100 = .ok (.iload 15, 2) := by decide +kernel
theorem dX0_victimsNeeded_102 : decode cX0_victimsNeeded 102 = .ok (.iload 12, 2) := by decide +kernel
theorem dX0_victimsNeeded_104 : decode cX0_victimsNeeded 104 = .ok (.invokestatic 126, 3) := by decide +kernel
theorem dX0_victimsNeeded_107 : decode cX0_victimsNeeded 107 = .ok (.istore 16, 2) := by decide +kernel
theorem dX0_victimsNeeded_109 : decode cX0_victimsNeeded 109 = .ok (.iload 12, 2) := by decide +kernel
theorem dX0_victimsNeeded_111 : decode cX0_victimsNeeded 111 = .ok (.iload 16, 2) := by decide +kernel
theorem dX0_victimsNeeded_113 : decode cX0_victimsNeeded 113 = .ok (.isub, 1) := by decide +kernel
theorem dX0_victimsNeeded_114 : decode cX0_victimsNeeded 114 = .ok (.istore 12, 2) := by decide +kernel
theorem dX0_victimsNeeded_116 : decode cX0_victimsNeeded 116 = .ok (.iload 15, 2) := by decide +kernel
theorem dX0_victimsNeeded_118 : decode cX0_victimsNeeded 118 = .ok (.iload 16, 2) := by decide +kernel
theorem dX0_victimsNeeded_120 : decode cX0_victimsNeeded 120 = .ok (.isub, 1) := by decide +kernel
theorem dX0_victimsNeeded_121 : decode cX0_victimsNeeded 121 = .ok (.istore 15, 2) := by decide +kernel
theorem dX0_victimsNeeded_123 : decode cX0_victimsNeeded 123 = .ok (.iload 7, 2) := by decide +kernel
theorem dX0_victimsNeeded_125 : decode cX0_victimsNeeded 125 = .ok (.iload 16, 2) := by decide +kernel
theorem dX0_victimsNeeded_127 : decode cX0_victimsNeeded 127 = .ok (.iadd, 1) := by decide +kernel
theorem dX0_victimsNeeded_128 : decode cX0_victimsNeeded 128 = .ok (.istore 7, 2) := by decide +kernel
theorem dX0_victimsNeeded_130 : decode cX0_victimsNeeded 130 = .ok (.iload 6, 2) := by decide +kernel
theorem dX0_victimsNeeded_132 : decode cX0_victimsNeeded 132 = .ok (.iload 15, 2) := by decide +kernel
theorem dX0_victimsNeeded_134 : decode cX0_victimsNeeded 134 = .ok (.iadd, 1) := by decide +kernel
theorem dX0_victimsNeeded_135 : decode cX0_victimsNeeded 135 = .ok (.istore 6, 2) := by decide +kernel
theorem dX0_victimsNeeded_137 : decode cX0_victimsNeeded 137 = .ok (.iinc 8 1, 3) := by decide +kernel
theorem dX0_victimsNeeded_140 : decode cX0_victimsNeeded 140 = .ok (.iload_n 3, 1) := by decide +kernel
theorem dX0_victimsNeeded_141 : decode cX0_victimsNeeded 141 = .ok (.iload_n 3, 1) := by decide +kernel
theorem dX0_victimsNeeded_142 : decode cX0_victimsNeeded 142 = .ok (.iload 6, 2) := by decide +kernel
theorem dX0_victimsNeeded_144 : decode cX0_victimsNeeded 144 = .ok (.invokestatic 126, 3) := by decide +kernel
theorem dX0_victimsNeeded_147 : decode cX0_victimsNeeded 147 = .ok (.isub, 1) := by decide +kernel
theorem dX0_victimsNeeded_148 : decode cX0_victimsNeeded 148 = .ok (.istore 17, 2) := by decide +kernel
theorem dX0_victimsNeeded_150 : decode cX0_victimsNeeded 150 = .ok (.iload 17, 2) := by decide +kernel
theorem dX0_victimsNeeded_152 : decode cX0_victimsNeeded 152 = .ok (.ifCond .eq 14, 3) := by decide +kernel
theorem dX0_victimsNeeded_155 : decode cX0_victimsNeeded 155 = .ok (.aload_n 2, 1) := by decide +kernel
theorem dX0_victimsNeeded_156 : decode cX0_victimsNeeded 156 = .ok (.iload 17, 2) := by decide +kernel
theorem dX0_victimsNeeded_158 : decode cX0_victimsNeeded 158 = .ok (.iload 7, 2) := by decide +kernel
theorem dX0_victimsNeeded_160 : decode cX0_victimsNeeded 160 = .ok (.invokevirtual 135, 3) := by decide +kernel
theorem dX0_victimsNeeded_163 : decode cX0_victimsNeeded 163 = .ok (.ifCond .ne 6, 3) := by decide +kernel
theorem dX0_victimsNeeded_166 : decode cX0_victimsNeeded 166 = .ok (.iload 8, 2) := by decide +kernel
theorem dX0_victimsNeeded_168 : decode cX0_victimsNeeded 168 = .ok (.ireturn, 1) := by decide +kernel
theorem dX0_victimsNeeded_169 : decode cX0_victimsNeeded 169 = .ok (.aload_n 0, 1) := by decide +kernel
theorem dX0_victimsNeeded_170 : decode cX0_victimsNeeded 170 = .ok (.getfield 12, 3) := by decide +kernel
theorem dX0_victimsNeeded_173 : decode cX0_victimsNeeded 173 = .ok (.iload 13, 2) := by decide +kernel
theorem dX0_victimsNeeded_175 : decode cX0_victimsNeeded 175 = .ok (.invokevirtual 173, 3) := by decide +kernel
theorem dX0_victimsNeeded_178 : decode cX0_victimsNeeded 178 = .ok (.istore 13, 2) := by decide +kernel
theorem dX0_victimsNeeded_180 : decode cX0_victimsNeeded 180 = .ok (.iinc 14 1, 3) := by decide +kernel
theorem dX0_victimsNeeded_183 : decode cX0_victimsNeeded 183 = .ok (.goto (-127), 3) := by decide +kernel
theorem dX0_victimsNeeded_186 : decode cX0_victimsNeeded 186 = .ok (.iinc 9 (-1), 3) := by decide +kernel
theorem dX0_victimsNeeded_189 : decode cX0_victimsNeeded 189 = .ok (.goto (-175), 3) := by decide +kernel
theorem dX0_victimsNeeded_192 : decode cX0_victimsNeeded 192 = .ok (.iconst 0, 1) := by decide +kernel
theorem dX0_victimsNeeded_193 : decode cX0_victimsNeeded 193 = .ok (.ireturn, 1) := by decide +kernel
theorem dX0_receive_0 : decode cX0_receive 0 = .ok (.aload_n 0, 1) := by decide +kernel
theorem dX0_receive_1 : decode cX0_receive 1 = .ok (.aload_n 1, 1) := by decide +kernel
theorem dX0_receive_2 : decode cX0_receive 2 = .ok (.aload_n 2, 1) := by decide +kernel
theorem dX0_receive_3 : decode cX0_receive 3 = .ok (.iload_n 3, 1) := by decide +kernel
theorem dX0_receive_4 : decode cX0_receive 4 = .ok (.invokevirtual 176, 3) := by decide +kernel
theorem dX0_receive_7 : decode cX0_receive 7 = .ok (.aload_n 0, 1) := by decide +kernel
theorem dX0_receive_8 : decode cX0_receive 8 = .ok (.getfield 129, 3) := by decide +kernel
theorem dX0_receive_11 : decode cX0_receive 11 = .ok (.ifCond .ne 47, 3) := by decide +kernel
theorem dX0_receive_14 : decode cX0_receive 14 = .ok (.aload_n 0, 1) := by decide +kernel
theorem dX0_receive_15 : decode cX0_receive 15 = .ok (.getfield 29, 3) := by decide +kernel
theorem dX0_receive_18 : decode cX0_receive 18 = .ok (.iconst 0, 1) := by decide +kernel
theorem dX0_receive_19 : decode cX0_receive 19 = .ok (.aload_n 0, 1) := by decide +kernel
theorem dX0_receive_20 : decode cX0_receive 20 = .ok (.getfield 25, 3) := by decide +kernel
theorem dX0_receive_23 : decode cX0_receive 23 = .ok (.iconst 0, 1) := by decide +kernel
theorem dX0_receive_24 : decode cX0_receive 24 = .ok (.iconst 4, 1) := by decide +kernel
theorem dX0_receive_25 : decode cX0_receive 25 = .ok (.invokestatic 68, 3) := by decide +kernel
theorem dX0_receive_28 : decode cX0_receive 28 = .ok (.aload_n 0, 1) := by decide +kernel
theorem dX0_receive_29 : decode cX0_receive 29 = .ok (.iconst 1, 1) := by decide +kernel
theorem dX0_receive_30 : decode cX0_receive 30 = .ok (.putfield 58, 3) := by decide +kernel
theorem dX0_receive_33 : decode cX0_receive 33 = .ok (.aload_n 1, 1) := by decide +kernel
theorem dX0_receive_34 : decode cX0_receive 34 = .ok (.aload_n 2, 1) := by decide +kernel
theorem dX0_receive_35 : decode cX0_receive 35 = .ok (.getfield 148, 3) := by decide +kernel
theorem dX0_receive_38 : decode cX0_receive 38 = .ok (.ifCond .eq 7, 3) := by decide +kernel
theorem dX0_receive_41 : decode cX0_receive 41 = .ok (.iconst 5, 1) := by decide +kernel
theorem dX0_receive_42 : decode cX0_receive 42 = .ok (.goto 9, 3) := by decide +kernel
theorem dX0_receive_45 : decode cX0_receive 45 = .ok (.aload_n 0, 1) := by decide +kernel
theorem dX0_receive_46 : decode cX0_receive 46 = .ok (.getfield 29, 3) := by decide +kernel
theorem dX0_receive_49 : decode cX0_receive 49 = .ok (.iconst 1, 1) := by decide +kernel
theorem dX0_receive_50 : decode cX0_receive 50 = .ok (.iaload, 1) := by decide +kernel
theorem dX0_receive_51 : decode cX0_receive 51 = .ok (.iload_n 3, 1) := by decide +kernel
theorem dX0_receive_52 : decode cX0_receive 52 = .ok (.invokevirtual 180, 3) := by decide +kernel
theorem dX0_receive_55 : decode cX0_receive 55 = .ok (.bipush (-6), 2) := by decide +kernel
theorem dX0_receive_57 : decode cX0_receive 57 = .ok (.ireturn, 1) := by decide +kernel
theorem dX0_receive_58 : decode cX0_receive 58 = .ok (.aload_n 0, 1) := by decide +kernel
theorem dX0_receive_59 : decode cX0_receive 59 = .ok (.aload_n 1, 1) := by decide +kernel
theorem dX0_receive_60 : decode cX0_receive 60 = .ok (.aload_n 2, 1) := by decide +kernel
theorem dX0_receive_61 : decode cX0_receive 61 = .ok (.getfield 154, 3) := by decide +kernel
theorem dX0_receive_64 : decode cX0_receive 64 = .ok (.invokevirtual 184, 3) := by decide +kernel
theorem dX0_receive_67 : decode cX0_receive 67 = .ok (.aload_n 0, 1) := by decide +kernel
theorem dX0_receive_68 : decode cX0_receive 68 = .ok (.aload_n 1, 1) := by decide +kernel
theorem dX0_receive_69 : decode cX0_receive 69 = .ok (.aload_n 2, 1) := by decide +kernel
theorem dX0_receive_70 : decode cX0_receive 70 = .ok (.iload_n 3, 1) := by decide +kernel
theorem dX0_receive_71 : decode cX0_receive 71 = .ok (.invokevirtual 187, 3) := by decide +kernel
theorem dX0_receive_74 : decode cX0_receive 74 = .ok (.aload_n 0, 1) := by decide +kernel
theorem dX0_receive_75 : decode cX0_receive 75 = .ok (.getfield 49, 3) := by decide +kernel
theorem dX0_receive_78 : decode cX0_receive 78 = .ok (.istore 4, 2) := by decide +kernel
theorem dX0_receive_80 : decode cX0_receive 80 = .ok (.aload_n 0, 1) := by decide +kernel
theorem dX0_receive_81 : decode cX0_receive 81 = .ok (.getfield 12, 3) := by decide +kernel
theorem dX0_receive_84 : decode cX0_receive 84 = .ok (.aload_n 2, 1) := by decide +kernel
theorem dX0_receive_85 : decode cX0_receive 85 = .ok (.aload_n 0, 1) := by decide +kernel
theorem dX0_receive_86 : decode cX0_receive 86 = .ok (.getfield 12, 3) := by decide +kernel
theorem dX0_receive_89 : decode cX0_receive 89 = .ok (.iload 4, 2) := by decide +kernel
theorem dX0_receive_91 : decode cX0_receive 91 = .ok (.iload_n 3, 1) := by decide +kernel
theorem dX0_receive_92 : decode cX0_receive 92 = .ok (.invokevirtual 190, 3) := by decide +kernel
theorem dX0_receive_95 : decode cX0_receive 95 = .ok (.invokevirtual 193, 3) := by decide +kernel
theorem dX0_receive_98 : decode cX0_receive 98 = .ok (.aload_n 0, 1) := by decide +kernel
theorem dX0_receive_99 : decode cX0_receive 99 = .ok (.dup, 1) := by decide +kernel
theorem dX0_receive_100 : decode cX0_receive 100 = .ok (.getfield 49, 3) := by decide +kernel
theorem dX0_receive_103 : decode cX0_receive 103 = .ok (.iconst 1, 1) := by decide +kernel
theorem dX0_receive_104 : decode cX0_receive 104 = .ok (.iadd, 1) := by decide +kernel
theorem dX0_receive_105 : decode cX0_receive 105 = .ok (.putfield 49, 3) := by decide +kernel
theorem dX0_receive_108 : decode cX0_receive 108 = .ok (.iload 4, 2) := by decide +kernel
theorem dX0_receive_110 : decode cX0_receive 110 = .ok (.ireturn, 1) := by decide +kernel
theorem dX0_removeVictims_0 : decode cX0_removeVictims 0 = .ok (.aload_n 0, 1) := by decide +kernel
theorem dX0_removeVictims_1 : decode cX0_removeVictims 1 = .ok (.getfield 132, 3) := by decide +kernel
theorem dX0_removeVictims_4 : decode cX0_removeVictims 4 = .ok (.istore_n 3, 1) := by decide +kernel
theorem dX0_removeVictims_5 : decode cX0_removeVictims 5 = .ok (.iconst 2, 1) := by decide +kernel
theorem dX0_removeVictims_6 : decode cX0_removeVictims 6 = .ok (.istore 4, 2) := by decide +kernel
theorem dX0_removeVictims_8 : decode cX0_removeVictims 8 = .ok (.iload 4, 2) := by decide +kernel
theorem dX0_removeVictims_10 : decode cX0_removeVictims 10 = .ok (.iload_n 2, 1) := by decide +kernel
theorem dX0_removeVictims_11 : decode cX0_removeVictims 11 = .ok (.if_icmp .le 80, 3) := by decide +kernel
theorem dX0_removeVictims_14 : decode cX0_removeVictims 14 = .ok (.aload_n 1, 1) := by decide +kernel
theorem dX0_removeVictims_15 : decode cX0_removeVictims 15 = .ok (.getfield 74, 3) := by decide +kernel
theorem dX0_removeVictims_18 : decode cX0_removeVictims 18 = .ok (.iload 4, 2) := by decide +kernel
theorem dX0_removeVictims_20 : decode cX0_removeVictims 20 = .ok (.aaload, 1) := by decide +kernel
theorem dX0_removeVictims_21 : decode cX0_removeVictims 21 = .ok (.astore 5, 2) := by decide +kernel
theorem dX0_removeVictims_23 : decode cX0_removeVictims 23 = .ok (.iload_n 3, 1) := by decide +kernel
theorem dX0_removeVictims_24 : decode cX0_removeVictims 24 = .ok (.aload 5, 2) := by decide +kernel
theorem dX0_removeVictims_26 : decode cX0_removeVictims 26 = .ok (.getfield 166, 3) := by decide +kernel
theorem dX0_removeVictims_29 : decode cX0_removeVictims 29 = .ok (.invokestatic 126, 3) := by decide +kernel
theorem dX0_removeVictims_32 : decode cX0_removeVictims 32 = .ok (.istore 6, 2) := by decide +kernel
theorem dX0_removeVictims_34 : decode cX0_removeVictims 34 = .ok (.iconst 0, 1) := by decide +kernel
theorem dX0_removeVictims_35 : decode cX0_removeVictims 35 = .ok (.istore 7, 2) := by decide +kernel
theorem dX0_removeVictims_37 : decode cX0_removeVictims 37 = .ok (.iload 7, 2) := by decide +kernel
theorem dX0_removeVictims_39 : decode cX0_removeVictims 39 = .ok (.iload 6, 2) := by decide +kernel
theorem dX0_removeVictims_41 : decode cX0_removeVictims 41 = .ok (.if_icmp .ge 39, 3) := by decide +kernel
theorem dX0_removeVictims_44 : decode cX0_removeVictims 44 = .ok (.aload_n 1, 1) := by decide +kernel
theorem dX0_removeVictims_45 : decode cX0_removeVictims 45 = .ok (.bipush 8, 2) := by decide +kernel
theorem dX0_removeVictims_47 : decode cX0_removeVictims 47 = .ok (.aload_n 0, 1) := by decide +kernel
theorem dX0_removeVictims_48 : decode cX0_removeVictims 48 = .ok (.getfield 12, 3) := by decide +kernel
theorem dX0_removeVictims_51 : decode cX0_removeVictims 51 = .ok (.aload 5, 2) := by decide +kernel
theorem dX0_removeVictims_53 : decode cX0_removeVictims 53 = .ok (.getfield 163, 3) := by decide +kernel
theorem dX0_removeVictims_56 : decode cX0_removeVictims 56 = .ok (.invokevirtual 169, 3) := by decide +kernel
theorem dX0_removeVictims_59 : decode cX0_removeVictims 59 = .ok (.invokevirtual 180, 3) := by decide +kernel
theorem dX0_removeVictims_62 : decode cX0_removeVictims 62 = .ok (.aload_n 0, 1) := by decide +kernel
theorem dX0_removeVictims_63 : decode cX0_removeVictims 63 = .ok (.aload_n 1, 1) := by decide +kernel
theorem dX0_removeVictims_64 : decode cX0_removeVictims 64 = .ok (.aload 5, 2) := by decide +kernel
theorem dX0_removeVictims_66 : decode cX0_removeVictims 66 = .ok (.aload 5, 2) := by decide +kernel
theorem dX0_removeVictims_68 : decode cX0_removeVictims 68 = .ok (.getfield 163, 3) := by decide +kernel
theorem dX0_removeVictims_71 : decode cX0_removeVictims 71 = .ok (.invokevirtual 197, 3) := by decide +kernel
theorem dX0_removeVictims_74 : decode cX0_removeVictims 74 = .ok (.iinc 7 1, 3) := by decide +kernel
theorem dX0_removeVictims_77 : decode cX0_removeVictims 77 = .ok (.goto (-40), 3) := by decide +kernel
theorem dX0_removeVictims_80 : decode cX0_removeVictims 80 = .ok (.iload_n 3, 1) := by decide +kernel
theorem dX0_removeVictims_81 : decode cX0_removeVictims 81 = .ok (.iload 6, 2) := by decide +kernel
theorem dX0_removeVictims_83 : decode cX0_removeVictims 83 = .ok (.isub, 1) := by decide +kernel
theorem dX0_removeVictims_84 : decode cX0_removeVictims 84 = .ok (.istore_n 3, 1) := by decide +kernel
theorem dX0_removeVictims_85 : decode cX0_removeVictims 85 = .ok (.iinc 4 (-1), 3) := by decide +kernel
theorem dX0_removeVictims_88 : decode cX0_removeVictims 88 = .ok (.goto (-80), 3) := by decide +kernel
theorem dX0_removeVictims_91 : decode cX0_removeVictims 91 = .ok (.return_, 1) := by decide +kernel
theorem dX0_chargeCells_0 : decode cX0_chargeCells 0 = .ok (.iload_n 3, 1) := by decide +kernel
theorem dX0_chargeCells_1 : decode cX0_chargeCells 1 = .ok (.aload_n 1, 1) := by decide +kernel
theorem dX0_chargeCells_2 : decode cX0_chargeCells 2 = .ok (.invokevirtual 123, 3) := by decide +kernel
theorem dX0_chargeCells_5 : decode cX0_chargeCells 5 = .ok (.invokestatic 126, 3) := by decide +kernel
theorem dX0_chargeCells_8 : decode cX0_chargeCells 8 = .ok (.istore 4, 2) := by decide +kernel
theorem dX0_chargeCells_10 : decode cX0_chargeCells 10 = .ok (.iload_n 3, 1) := by decide +kernel
theorem dX0_chargeCells_11 : decode cX0_chargeCells 11 = .ok (.iload 4, 2) := by decide +kernel
theorem dX0_chargeCells_13 : decode cX0_chargeCells 13 = .ok (.isub, 1) := by decide +kernel
theorem dX0_chargeCells_14 : decode cX0_chargeCells 14 = .ok (.istore 5, 2) := by decide +kernel
theorem dX0_chargeCells_16 : decode cX0_chargeCells 16 = .ok (.aload_n 0, 1) := by decide +kernel
theorem dX0_chargeCells_17 : decode cX0_chargeCells 17 = .ok (.getfield 129, 3) := by decide +kernel
theorem dX0_chargeCells_20 : decode cX0_chargeCells 20 = .ok (.iconst 3, 1) := by decide +kernel
theorem dX0_chargeCells_21 : decode cX0_chargeCells 21 = .ok (.if_icmp .ne 21, 3) := by decide +kernel
theorem dX0_chargeCells_24 : decode cX0_chargeCells 24 = .ok (.aload_n 2, 1) := by decide +kernel
theorem dX0_chargeCells_25 : decode cX0_chargeCells 25 = .ok (.dup, 1) := by decide +kernel
theorem dX0_chargeCells_26 : decode cX0_chargeCells 26 = .ok (.getfield 157, 3) := by decide +kernel
theorem dX0_chargeCells_29 : decode cX0_chargeCells 29 = .ok (.iload 5, 2) := by decide +kernel
theorem dX0_chargeCells_31 : decode cX0_chargeCells 31 = .ok (.iadd, 1) := by decide +kernel
theorem dX0_chargeCells_32 : decode cX0_chargeCells 32 = .ok (.putfield 157, 3) := by decide +kernel
theorem dX0_chargeCells_35 : decode cX0_chargeCells 35 = .ok (.aload_n 2, 1) := by decide +kernel
theorem dX0_chargeCells_36 : decode cX0_chargeCells 36 = .ok (.invokevirtual 200, 3) := by decide +kernel
theorem dX0_chargeCells_39 : decode cX0_chargeCells 39 = .ok (.goto 18, 3) := by decide +kernel
theorem dX0_chargeCells_42 : decode cX0_chargeCells 42 = .ok (.iload 5, 2) := by decide +kernel
theorem dX0_chargeCells_44 : decode cX0_chargeCells 44 = .ok (.ifCond .le 13, 3) := by decide +kernel
theorem dX0_chargeCells_47 : decode cX0_chargeCells 47 = .ok (.aload_n 2, 1) := by decide +kernel
theorem dX0_chargeCells_48 : decode cX0_chargeCells 48 = .ok (.iload 5, 2) := by decide +kernel
theorem dX0_chargeCells_50 : decode cX0_chargeCells 50 = .ok (.aload_n 0, 1) := by decide +kernel
theorem dX0_chargeCells_51 : decode cX0_chargeCells 51 = .ok (.invokevirtual 101, 3) := by decide +kernel
theorem dX0_chargeCells_54 : decode cX0_chargeCells 54 = .ok (.invokevirtual 203, 3) := by decide +kernel
theorem dX0_chargeCells_57 : decode cX0_chargeCells 57 = .ok (.aload_n 2, 1) := by decide +kernel
theorem dX0_chargeCells_58 : decode cX0_chargeCells 58 = .ok (.dup, 1) := by decide +kernel
theorem dX0_chargeCells_59 : decode cX0_chargeCells 59 = .ok (.getfield 206, 3) := by decide +kernel
theorem dX0_chargeCells_62 : decode cX0_chargeCells 62 = .ok (.iload 4, 2) := by decide +kernel
theorem dX0_chargeCells_64 : decode cX0_chargeCells 64 = .ok (.iadd, 1) := by decide +kernel
theorem dX0_chargeCells_65 : decode cX0_chargeCells 65 = .ok (.putfield 206, 3) := by decide +kernel
theorem dX0_chargeCells_68 : decode cX0_chargeCells 68 = .ok (.return_, 1) := by decide +kernel
theorem dX0_takeOut_0 : decode cX0_takeOut 0 = .ok (.aload_n 2, 1) := by decide +kernel
theorem dX0_takeOut_1 : decode cX0_takeOut 1 = .ok (.aload_n 0, 1) := by decide +kernel
theorem dX0_takeOut_2 : decode cX0_takeOut 2 = .ok (.getfield 12, 3) := by decide +kernel
theorem dX0_takeOut_5 : decode cX0_takeOut 5 = .ok (.iload_n 3, 1) := by decide +kernel
theorem dX0_takeOut_6 : decode cX0_takeOut 6 = .ok (.invokevirtual 169, 3) := by decide +kernel
theorem dX0_takeOut_9 : decode cX0_takeOut 9 = .ok (.invokevirtual 209, 3) := by decide +kernel
theorem dX0_takeOut_12 : decode cX0_takeOut 12 = .ok (.aload_n 0, 1) := by decide +kernel
theorem dX0_takeOut_13 : decode cX0_takeOut 13 = .ok (.getfield 12, 3) := by decide +kernel
theorem dX0_takeOut_16 : decode cX0_takeOut 16 = .ok (.aload_n 2, 1) := by decide +kernel
theorem dX0_takeOut_17 : decode cX0_takeOut 17 = .ok (.iload_n 3, 1) := by decide +kernel
theorem dX0_takeOut_18 : decode cX0_takeOut 18 = .ok (.invokevirtual 212, 3) := by decide +kernel
theorem dX0_takeOut_21 : decode cX0_takeOut 21 = .ok (.aload_n 0, 1) := by decide +kernel
theorem dX0_takeOut_22 : decode cX0_takeOut 22 = .ok (.getfield 12, 3) := by decide +kernel
theorem dX0_takeOut_25 : decode cX0_takeOut 25 = .ok (.iload_n 3, 1) := by decide +kernel
theorem dX0_takeOut_26 : decode cX0_takeOut 26 = .ok (.invokevirtual 215, 3) := by decide +kernel
theorem dX0_takeOut_29 : decode cX0_takeOut 29 = .ok (.aload_n 2, 1) := by decide +kernel
theorem dX0_takeOut_30 : decode cX0_takeOut 30 = .ok (.getfield 166, 3) := by decide +kernel
theorem dX0_takeOut_33 : decode cX0_takeOut 33 = .ok (.ifCond .ne 8, 3) := by decide +kernel
theorem dX0_takeOut_36 : decode cX0_takeOut 36 = .ok (.aload_n 2, 1) := by decide +kernel
theorem dX0_takeOut_37 : decode cX0_takeOut 37 = .ok (.iconst 0, 1) := by decide +kernel
theorem dX0_takeOut_38 : decode cX0_takeOut 38 = .ok (.putfield 218, 3) := by decide +kernel
theorem dX0_takeOut_41 : decode cX0_takeOut 41 = .ok (.aload_n 1, 1) := by decide +kernel
theorem dX0_takeOut_42 : decode cX0_takeOut 42 = .ok (.invokevirtual 221, 3) := by decide +kernel
theorem dX0_takeOut_45 : decode cX0_takeOut 45 = .ok (.ifCond .eq 7, 3) := by decide +kernel
theorem dX0_takeOut_48 : decode cX0_takeOut 48 = .ok (.aload_n 1, 1) := by decide +kernel
theorem dX0_takeOut_49 : decode cX0_takeOut 49 = .ok (.invokevirtual 225, 3) := by decide +kernel
theorem dX0_takeOut_52 : decode cX0_takeOut 52 = .ok (.return_, 1) := by decide +kernel
theorem dX0_discardAll_0 : decode cX0_discardAll 0 = .ok (.iconst 0, 1) := by decide +kernel
theorem dX0_discardAll_1 : decode cX0_discardAll 1 = .ok (.istore_n 2, 1) := by decide +kernel
theorem dX0_discardAll_2 : decode cX0_discardAll 2 = .ok (.aload_n 1, 1) := by decide +kernel
theorem dX0_discardAll_3 : decode cX0_discardAll 3 = .ok (.getfield 74, 3) := by decide +kernel
theorem dX0_discardAll_6 : decode cX0_discardAll 6 = .ok (.astore_n 3, 1) := by decide +kernel
theorem dX0_discardAll_7 : decode cX0_discardAll 7 = .ok (.aload_n 3, 1) := by decide +kernel
theorem dX0_discardAll_8 : decode cX0_discardAll 8 = .ok (.arraylength, 1) := by decide +kernel
theorem dX0_discardAll_9 : decode cX0_discardAll 9 = .ok (.istore 4, 2) := by decide +kernel
theorem dX0_discardAll_11 : decode cX0_discardAll 11 = .ok (.iconst 0, 1) := by decide +kernel
theorem dX0_discardAll_12 : decode cX0_discardAll 12 = .ok (.istore 5, 2) := by decide +kernel
theorem dX0_discardAll_14 : decode cX0_discardAll 14 = .ok (.iload 5, 2) := by decide +kernel
theorem dX0_discardAll_16 : decode cX0_discardAll 16 = .ok (.iload 4, 2) := by decide +kernel
theorem dX0_discardAll_18 : decode cX0_discardAll 18 = .ok (.if_icmp .ge 73, 3) := by decide +kernel
theorem dX0_discardAll_21 : decode cX0_discardAll 21 = .ok (.aload_n 3, 1) := by decide +kernel
theorem dX0_discardAll_22 : decode cX0_discardAll 22 = .ok (.iload 5, 2) := by decide +kernel
theorem dX0_discardAll_24 : decode cX0_discardAll 24 = .ok (.aaload, 1) := by decide +kernel
theorem dX0_discardAll_25 : decode cX0_discardAll 25 = .ok (.astore 6, 2) := by decide +kernel
theorem dX0_discardAll_27 : decode cX0_discardAll 27 = .ok (.iconst 0, 1) := by decide +kernel
theorem dX0_discardAll_28 : decode cX0_discardAll 28 = .ok (.istore 7, 2) := by decide +kernel
theorem dX0_discardAll_30 : decode cX0_discardAll 30 = .ok (.iload 7, 2) := by decide +kernel
theorem dX0_discardAll_32 : decode cX0_discardAll 32 = .ok (.sipush 128, 3) := by decide +kernel
theorem dX0_discardAll_35 : decode cX0_discardAll 35 = .ok (.if_icmp .ge 50, 3) := by decide +kernel
theorem dX0_discardAll_38 : decode cX0_discardAll 38 = .ok (.aload 6, 2) := by decide +kernel
theorem dX0_discardAll_40 : decode cX0_discardAll 40 = .ok (.getfield 166, 3) := by decide +kernel
theorem dX0_discardAll_43 : decode cX0_discardAll 43 = .ok (.ifCond .le 42, 3) := by decide +kernel
theorem dX0_discardAll_46 : decode cX0_discardAll 46 = .ok (.aload_n 1, 1) := by decide +kernel
theorem dX0_discardAll_47 : decode cX0_discardAll 47 = .ok (.bipush 9, 2) := by decide +kernel
theorem dX0_discardAll_49 : decode cX0_discardAll 49 = .ok (.aload_n 0, 1) := by decide +kernel
theorem dX0_discardAll_50 : decode cX0_discardAll 50 = .ok (.getfield 12, 3) := by decide +kernel
theorem dX0_discardAll_53 : decode cX0_discardAll 53 = .ok (.aload 6, 2) := by decide +kernel
theorem dX0_discardAll_55 : decode cX0_discardAll 55 = .ok (.getfield 228, 3) := by decide +kernel
theorem dX0_discardAll_58 : decode cX0_discardAll 58 = .ok (.invokevirtual 169, 3) := by decide +kernel
theorem dX0_discardAll_61 : decode cX0_discardAll 61 = .ok (.invokevirtual 180, 3) := by decide +kernel
theorem dX0_discardAll_64 : decode cX0_discardAll 64 = .ok (.aload_n 0, 1) := by decide +kernel
theorem dX0_discardAll_65 : decode cX0_discardAll 65 = .ok (.aload_n 1, 1) := by decide +kernel
theorem dX0_discardAll_66 : decode cX0_discardAll 66 = .ok (.aload 6, 2) := by decide +kernel
theorem dX0_discardAll_68 : decode cX0_discardAll 68 = .ok (.aload 6, 2) := by decide +kernel
theorem dX0_discardAll_70 : decode cX0_discardAll 70 = .ok (.getfield 228, 3) := by decide +kernel
theorem dX0_discardAll_73 : decode cX0_discardAll 73 = .ok (.invokevirtual 197, 3) := by decide +kernel
theorem dX0_discardAll_76 : decode cX0_discardAll 76 = .ok (.iinc 2 1, 3) := by decide +kernel
theorem dX0_discardAll_79 : decode cX0_discardAll 79 = .ok (.iinc 7 1, 3) := by decide +kernel
theorem dX0_discardAll_82 : decode cX0_discardAll 82 = .ok (.goto (-52), 3) := by decide +kernel
theorem dX0_discardAll_85 : decode cX0_discardAll 85 = .ok (.iinc 5 1, 3) := by decide +kernel
theorem dX0_discardAll_88 : decode cX0_discardAll 88 = .ok (.goto (-74), 3) := by decide +kernel
theorem dX0_discardAll_91 : decode cX0_discardAll 91 = .ok (.iload_n 2, 1) := by decide +kernel
theorem dX0_discardAll_92 : decode cX0_discardAll 92 = .ok (.ireturn, 1) := by decide +kernel
theorem dX0_passTick_0 : decode cX0_passTick 0 = .ok (.iconst 0, 1) := by decide +kernel
theorem dX0_passTick_1 : decode cX0_passTick 1 = .ok (.istore_n 1, 1) := by decide +kernel
theorem dX0_passTick_2 : decode cX0_passTick 2 = .ok (.iconst 0, 1) := by decide +kernel
theorem dX0_passTick_3 : decode cX0_passTick 3 = .ok (.istore_n 2, 1) := by decide +kernel
theorem dX0_passTick_4 : decode cX0_passTick 4 = .ok (.iload_n 2, 1) := by decide +kernel
theorem dX0_passTick_5 : decode cX0_passTick 5 = .ok (.aload_n 0, 1) := by decide +kernel
theorem dX0_passTick_6 : decode cX0_passTick 6 = .ok (.getfield 38, 3) := by decide +kernel
theorem dX0_passTick_9 : decode cX0_passTick 9 = .ok (.if_icmp .ge 22, 3) := by decide +kernel
theorem dX0_passTick_12 : decode cX0_passTick 12 = .ok (.iload_n 1, 1) := by decide +kernel
theorem dX0_passTick_13 : decode cX0_passTick 13 = .ok (.aload_n 0, 1) := by decide +kernel
theorem dX0_passTick_14 : decode cX0_passTick 14 = .ok (.aload_n 0, 1) := by decide +kernel
theorem dX0_passTick_15 : decode cX0_passTick 15 = .ok (.getfield 20, 3) := by decide +kernel
theorem dX0_passTick_18 : decode cX0_passTick 18 = .ok (.iload_n 2, 1) := by decide +kernel
theorem dX0_passTick_19 : decode cX0_passTick 19 = .ok (.aaload, 1) := by decide +kernel
theorem dX0_passTick_20 : decode cX0_passTick 20 = .ok (.invokevirtual 231, 3) := by decide +kernel
theorem dX0_passTick_23 : decode cX0_passTick 23 = .ok (.iadd, 1) := by decide +kernel
theorem dX0_passTick_24 : decode cX0_passTick 24 = .ok (.istore_n 1, 1) := by decide +kernel
theorem dX0_passTick_25 : decode cX0_passTick 25 = .ok (.iinc 2 1, 3) := by decide +kernel
theorem dX0_passTick_28 : decode cX0_passTick 28 = .ok (.goto (-24), 3) := by decide +kernel
theorem dX0_passTick_31 : decode cX0_passTick 31 = .ok (.aload_n 0, 1) := by decide +kernel
theorem dX0_passTick_32 : decode cX0_passTick 32 = .ok (.invokevirtual 101, 3) := by decide +kernel
theorem dX0_passTick_35 : decode cX0_passTick 35 = .ok (.istore_n 2, 1) := by decide +kernel
theorem dX0_passTick_36 : decode cX0_passTick 36 = .ok (.iconst 0, 1) := by decide +kernel
theorem dX0_passTick_37 : decode cX0_passTick 37 = .ok (.istore_n 3, 1) := by decide +kernel
theorem dX0_passTick_38 : decode cX0_passTick 38 = .ok (.iload_n 3, 1) := by decide +kernel
theorem dX0_passTick_39 : decode cX0_passTick 39 = .ok (.aload_n 0, 1) := by decide +kernel
theorem dX0_passTick_40 : decode cX0_passTick 40 = .ok (.getfield 38, 3) := by decide +kernel
theorem dX0_passTick_43 : decode cX0_passTick 43 = .ok (.if_icmp .ge 102, 3) := by decide +kernel
theorem dX0_passTick_46 : decode cX0_passTick 46 = .ok (.aload_n 0, 1) := by decide +kernel
theorem dX0_passTick_47 : decode cX0_passTick 47 = .ok (.getfield 20, 3) := by decide +kernel
theorem dX0_passTick_50 : decode cX0_passTick 50 = .ok (.iload_n 3, 1) := by decide +kernel
theorem dX0_passTick_51 : decode cX0_passTick 51 = .ok (.aaload, 1) := by decide +kernel
theorem dX0_passTick_52 : decode cX0_passTick 52 = .ok (.getfield 74, 3) := by decide +kernel
theorem dX0_passTick_55 : decode cX0_passTick 55 = .ok (.astore 4, 2) := by decide +kernel
theorem dX0_passTick_57 : decode cX0_passTick 57 = .ok (.aload 4, 2) := by decide +kernel
theorem dX0_passTick_59 : decode cX0_passTick 59 = .ok (.arraylength, 1) := by decide +kernel
theorem dX0_passTick_60 : decode cX0_passTick 60 = .ok (.istore 5, 2) := by decide +kernel
theorem dX0_passTick_62 : decode cX0_passTick 62 = .ok (.iconst 0, 1) := by decide +kernel
theorem dX0_passTick_63 : decode cX0_passTick 63 = .ok (.istore 6, 2) := by decide +kernel
theorem dX0_passTick_65 : decode cX0_passTick 65 = .ok (.iload 6, 2) := by decide +kernel
theorem dX0_passTick_67 : decode cX0_passTick 67 = .ok (.iload 5, 2) := by decide +kernel
theorem dX0_passTick_69 : decode cX0_passTick 69 = .ok (.if_icmp .ge 70, 3) := by decide +kernel
theorem dX0_passTick_72 : decode cX0_passTick 72 = .ok (.aload 4, 2) := by decide +kernel
theorem dX0_passTick_74 : decode cX0_passTick 74 = .ok (.iload 6, 2) := by decide +kernel
theorem dX0_passTick_76 : decode cX0_passTick 76 = .ok (.aaload, 1) := by decide +kernel
theorem dX0_passTick_77 : decode cX0_passTick 77 = .ok (.astore 7, 2) := by decide +kernel
theorem dX0_passTick_79 : decode cX0_passTick 79 = .ok (.aload 7, 2) := by decide +kernel
theorem dX0_passTick_81 : decode cX0_passTick 81 = .ok (.aload 7, 2) := by decide +kernel
theorem dX0_passTick_83 : decode cX0_passTick 83 = .ok (.getfield 235, 3) := by decide +kernel
theorem dX0_passTick_86 : decode cX0_passTick 86 = .ok (.aload 7, 2) := by decide +kernel
theorem dX0_passTick_88 : decode cX0_passTick 88 = .ok (.getfield 238, 3) := by decide +kernel
theorem dX0_passTick_91 : decode cX0_passTick 91 = .ok (.aload 7, 2) := by decide +kernel
theorem dX0_passTick_93 : decode cX0_passTick 93 = .ok (.getfield 241, 3) := by decide +kernel
theorem dX0_passTick_96 : decode cX0_passTick 96 = .ok (.iadd, 1) := by decide +kernel
theorem dX0_passTick_97 : decode cX0_passTick 97 = .ok (.invokestatic 126, 3) := by decide +kernel
theorem dX0_passTick_100 : decode cX0_passTick 100 = .ok (.putfield 238, 3) := by decide +kernel
theorem dX0_passTick_103 : decode cX0_passTick 103 = .ok (.aload 7, 2) := by decide +kernel
theorem dX0_passTick_105 : decode cX0_passTick 105 = .ok (.getfield 157, 3) := by decide +kernel
theorem dX0_passTick_108 : decode cX0_passTick 108 = .ok (.ifCond .ne 25, 3) := by decide +kernel
theorem dX0_passTick_111 : decode cX0_passTick 111 = .ok (.aload 7, 2) := by decide +kernel
theorem dX0_passTick_113 : decode cX0_passTick 113 = .ok (.getfield 160, 3) := by decide +kernel
theorem dX0_passTick_116 : decode cX0_passTick 116 = .ok (.iconst 2, 1) := by decide +kernel
theorem dX0_passTick_117 : decode cX0_passTick 117 = .ok (.iadd, 1) := by decide +kernel
theorem dX0_passTick_118 : decode cX0_passTick 118 = .ok (.aload 7, 2) := by decide +kernel
theorem dX0_passTick_120 : decode cX0_passTick 120 = .ok (.iload_n 2, 1) := by decide +kernel
theorem dX0_passTick_121 : decode cX0_passTick 121 = .ok (.invokevirtual 244, 3) := by decide +kernel
theorem dX0_passTick_124 : decode cX0_passTick 124 = .ok (.if_icmp .gt 9, 3) := by decide +kernel
theorem dX0_passTick_127 : decode cX0_passTick 127 = .ok (.aload 7, 2) := by decide +kernel
theorem dX0_passTick_129 : decode cX0_passTick 129 = .ok (.iconst 0, 1) := by decide +kernel
theorem dX0_passTick_130 : decode cX0_passTick 130 = .ok (.putfield 247, 3) := by decide +kernel
theorem dX0_passTick_133 : decode cX0_passTick 133 = .ok (.iinc 6 1, 3) := by decide +kernel
theorem dX0_passTick_136 : decode cX0_passTick 136 = .ok (.goto (-71), 3) := by decide +kernel
theorem dX0_passTick_139 : decode cX0_passTick 139 = .ok (.iinc 3 1, 3) := by decide +kernel
theorem dX0_passTick_142 : decode cX0_passTick 142 = .ok (.goto (-104), 3) := by decide +kernel
theorem dX0_passTick_145 : decode cX0_passTick 145 = .ok (.aload_n 0, 1) := by decide +kernel
theorem dX0_passTick_146 : decode cX0_passTick 146 = .ok (.dup, 1) := by decide +kernel
theorem dX0_passTick_147 : decode cX0_passTick 147 = .ok (.getfield 46, 3) := by decide +kernel
theorem dX0_passTick_150 : decode cX0_passTick 150 = .ok (.iconst 1, 1) := by decide +kernel
theorem dX0_passTick_151 : decode cX0_passTick 151 = .ok (.iadd, 1) := by decide +kernel
theorem dX0_passTick_152 : decode cX0_passTick 152 = .ok (.putfield 46, 3) := by decide +kernel
theorem dX0_passTick_155 : decode cX0_passTick 155 = .ok (.iload_n 1, 1) := by decide +kernel
theorem dX0_passTick_156 : decode cX0_passTick 156 = .ok (.ireturn, 1) := by decide +kernel
theorem dX0_send_0 : decode cX0_send 0 = .ok (.aload_n 1, 1) := by decide +kernel
theorem dX0_send_1 : decode cX0_send 1 = .ok (.invokevirtual 221, 3) := by decide +kernel
theorem dX0_send_4 : decode cX0_send 4 = .ok (.ifCond .eq 5, 3) := by decide +kernel
theorem dX0_send_7 : decode cX0_send 7 = .ok (.iconst 0, 1) := by decide +kernel
theorem dX0_send_8 : decode cX0_send 8 = .ok (.ireturn, 1) := by decide +kernel
theorem dX0_send_9 : decode cX0_send 9 = .ok (.aload_n 1, 1) := by decide +kernel
theorem dX0_send_10 : decode cX0_send 10 = .ok (.dup, 1) := by decide +kernel
theorem dX0_send_11 : decode cX0_send 11 = .ok (.getfield 250, 3) := by decide +kernel
theorem dX0_send_14 : decode cX0_send 14 = .ok (.aload_n 1, 1) := by decide +kernel
theorem dX0_send_15 : decode cX0_send 15 = .ok (.getfield 253, 3) := by decide +kernel
theorem dX0_send_18 : decode cX0_send 18 = .ok (.iadd, 1) := by decide +kernel
theorem dX0_send_19 : decode cX0_send 19 = .ok (.putfield 250, 3) := by decide +kernel
theorem dX0_send_22 : decode cX0_send 22 = .ok (.aload_n 1, 1) := by decide +kernel
theorem dX0_send_23 : decode cX0_send 23 = .ok (.getfield 256, 3) := by decide +kernel
theorem dX0_send_26 : decode cX0_send 26 = .ok (.ifCond .eq 11, 3) := by decide +kernel
theorem dX0_send_29 : decode cX0_send 29 = .ok (.aload_n 0, 1) := by decide +kernel
theorem dX0_send_30 : decode cX0_send 30 = .ok (.aload_n 1, 1) := by decide +kernel
theorem dX0_send_31 : decode cX0_send 31 = .ok (.invokevirtual 259, 3) := by decide +kernel
theorem dX0_send_34 : decode cX0_send 34 = .ok (.goto 8, 3) := by decide +kernel
theorem dX0_send_37 : decode cX0_send 37 = .ok (.aload_n 0, 1) := by decide +kernel
theorem dX0_send_38 : decode cX0_send 38 = .ok (.aload_n 1, 1) := by decide +kernel
theorem dX0_send_39 : decode cX0_send 39 = .ok (.invokevirtual 262, 3) := by decide +kernel
theorem dX0_send_42 : decode cX0_send 42 = .ok (.istore_n 2, 1) := by decide +kernel
theorem dX0_send_43 : decode cX0_send 43 = .ok (.aload_n 1, 1) := by decide +kernel
theorem dX0_send_44 : decode cX0_send 44 = .ok (.dup, 1) := by decide +kernel
theorem dX0_send_45 : decode cX0_send 45 = .ok (.getfield 265, 3) := by decide +kernel
theorem dX0_send_48 : decode cX0_send 48 = .ok (.iload_n 2, 1) := by decide +kernel
theorem dX0_send_49 : decode cX0_send 49 = .ok (.iadd, 1) := by decide +kernel
theorem dX0_send_50 : decode cX0_send 50 = .ok (.putfield 265, 3) := by decide +kernel
theorem dX0_send_53 : decode cX0_send 53 = .ok (.iload_n 2, 1) := by decide +kernel
theorem dX0_send_54 : decode cX0_send 54 = .ok (.ireturn, 1) := by decide +kernel
theorem dX0_sendByPriority_0 : decode cX0_sendByPriority 0 = .ok (.iconst 0, 1) := by decide +kernel
theorem dX0_sendByPriority_1 : decode cX0_sendByPriority 1 = .ok (.istore_n 2, 1) := by decide +kernel
theorem dX0_sendByPriority_2 : decode cX0_sendByPriority 2 = .ok (.iconst 0, 1) := by decide +kernel
theorem dX0_sendByPriority_3 : decode cX0_sendByPriority 3 = .ok (.istore_n 3, 1) := by decide +kernel
theorem dX0_sendByPriority_4 : decode cX0_sendByPriority 4 = .ok (.iload_n 3, 1) := by decide +kernel
theorem dX0_sendByPriority_5 : decode cX0_sendByPriority 5 = .ok (.sipush 128, 3) := by decide +kernel
theorem dX0_sendByPriority_8 : decode cX0_sendByPriority 8 = .ok (.if_icmp .ge 75, 3) := by decide +kernel
theorem dX0_sendByPriority_11 : decode cX0_sendByPriority 11 = .ok (.aload_n 1, 1) := by decide +kernel
theorem dX0_sendByPriority_12 : decode cX0_sendByPriority 12 = .ok (.invokevirtual 268, 3) := by decide +kernel
theorem dX0_sendByPriority_15 : decode cX0_sendByPriority 15 = .ok (.astore 4, 2) := by decide +kernel
theorem dX0_sendByPriority_17 : decode cX0_sendByPriority 17 = .ok (.aload 4, 2) := by decide +kernel
theorem dX0_sendByPriority_19 : decode cX0_sendByPriority 19 = .ok (.ifnonnull 6, 3) := by decide +kernel
theorem dX0_sendByPriority_22 : decode cX0_sendByPriority 22 = .ok (.goto 61, 3) := by decide +kernel
theorem dX0_sendByPriority_25 : decode cX0_sendByPriority 25 = .ok (.aload_n 0, 1) := by decide +kernel
theorem dX0_sendByPriority_26 : decode cX0_sendByPriority 26 = .ok (.getfield 12, 3) := by decide +kernel
theorem dX0_sendByPriority_29 : decode cX0_sendByPriority 29 = .ok (.aload 4, 2) := by decide +kernel
theorem dX0_sendByPriority_31 : decode cX0_sendByPriority 31 = .ok (.getfield 228, 3) := by decide +kernel
theorem dX0_sendByPriority_34 : decode cX0_sendByPriority 34 = .ok (.invokevirtual 169, 3) := by decide +kernel
theorem dX0_sendByPriority_37 : decode cX0_sendByPriority 37 = .ok (.istore 5, 2) := by decide +kernel
theorem dX0_sendByPriority_39 : decode cX0_sendByPriority 39 = .ok (.iload 5, 2) := by decide +kernel
theorem dX0_sendByPriority_41 : decode cX0_sendByPriority 41 = .ok (.aload_n 1, 1) := by decide +kernel
theorem dX0_sendByPriority_42 : decode cX0_sendByPriority 42 = .ok (.getfield 250, 3) := by decide +kernel
theorem dX0_sendByPriority_45 : decode cX0_sendByPriority 45 = .ok (.if_icmp .le 6, 3) := by decide +kernel
theorem dX0_sendByPriority_48 : decode cX0_sendByPriority 48 = .ok (.goto 35, 3) := by decide +kernel
theorem dX0_sendByPriority_51 : decode cX0_sendByPriority 51 = .ok (.aload_n 1, 1) := by decide +kernel
theorem dX0_sendByPriority_52 : decode cX0_sendByPriority 52 = .ok (.dup, 1) := by decide +kernel
theorem dX0_sendByPriority_53 : decode cX0_sendByPriority 53 = .ok (.getfield 250, 3) := by decide +kernel
theorem dX0_sendByPriority_56 : decode cX0_sendByPriority 56 = .ok (.iload 5, 2) := by decide +kernel
theorem dX0_sendByPriority_58 : decode cX0_sendByPriority 58 = .ok (.isub, 1) := by decide +kernel
theorem dX0_sendByPriority_59 : decode cX0_sendByPriority 59 = .ok (.putfield 250, 3) := by decide +kernel
theorem dX0_sendByPriority_62 : decode cX0_sendByPriority 62 = .ok (.aload_n 0, 1) := by decide +kernel
theorem dX0_sendByPriority_63 : decode cX0_sendByPriority 63 = .ok (.aload_n 1, 1) := by decide +kernel
theorem dX0_sendByPriority_64 : decode cX0_sendByPriority 64 = .ok (.aload 4, 2) := by decide +kernel
theorem dX0_sendByPriority_66 : decode cX0_sendByPriority 66 = .ok (.aload 4, 2) := by decide +kernel
theorem dX0_sendByPriority_68 : decode cX0_sendByPriority 68 = .ok (.getfield 228, 3) := by decide +kernel
theorem dX0_sendByPriority_71 : decode cX0_sendByPriority 71 = .ok (.invokevirtual 197, 3) := by decide +kernel
theorem dX0_sendByPriority_74 : decode cX0_sendByPriority 74 = .ok (.iinc 2 1, 3) := by decide +kernel
theorem dX0_sendByPriority_77 : decode cX0_sendByPriority 77 = .ok (.iinc 3 1, 3) := by decide +kernel
theorem dX0_sendByPriority_80 : decode cX0_sendByPriority 80 = .ok (.goto (-76), 3) := by decide +kernel
theorem dX0_sendByPriority_83 : decode cX0_sendByPriority 83 = .ok (.iload_n 2, 1) := by decide +kernel
theorem dX0_sendByPriority_84 : decode cX0_sendByPriority 84 = .ok (.ireturn, 1) := by decide +kernel
theorem dX0_sendInTurns_0 : decode cX0_sendInTurns 0 = .ok (.iconst 0, 1) := by decide +kernel
theorem dX0_sendInTurns_1 : decode cX0_sendInTurns 1 = .ok (.istore_n 2, 1) := by decide +kernel
theorem dX0_sendInTurns_2 : decode cX0_sendInTurns 2 = .ok (.iconst 0, 1) := by decide +kernel
theorem dX0_sendInTurns_3 : decode cX0_sendInTurns 3 = .ok (.istore_n 3, 1) := by decide +kernel
theorem dX0_sendInTurns_4 : decode cX0_sendInTurns 4 = .ok (.iload_n 3, 1) := by decide +kernel
theorem dX0_sendInTurns_5 : decode cX0_sendInTurns 5 = .ok (.ldc_w 272, 3) := by decide +kernel
theorem dX0_sendInTurns_8 : decode cX0_sendInTurns 8 = .ok (.if_icmp .ge 150, 3) := by decide +kernel
theorem dX0_sendInTurns_11 : decode cX0_sendInTurns 11 = .ok (.aload_n 1, 1) := by decide +kernel
theorem dX0_sendInTurns_12 : decode cX0_sendInTurns 12 = .ok (.invokevirtual 221, 3) := by decide +kernel
theorem dX0_sendInTurns_15 : decode cX0_sendInTurns 15 = .ok (.ifCond .ne 143, 3) := by decide +kernel
theorem dX0_sendInTurns_18 : decode cX0_sendInTurns 18 = .ok (.aload_n 1, 1) := by decide +kernel
theorem dX0_sendInTurns_19 : decode cX0_sendInTurns 19 = .ok (.invokevirtual 273, 3) := by decide +kernel
theorem dX0_sendInTurns_22 : decode cX0_sendInTurns 22 = .ok (.astore 4, 2) := by decide +kernel
theorem dX0_sendInTurns_24 : decode cX0_sendInTurns 24 = .ok (.aload 4, 2) := by decide +kernel
theorem dX0_sendInTurns_26 : decode cX0_sendInTurns 26 = .ok (.ifnull 11, 3) := by decide +kernel
theorem dX0_sendInTurns_29 : decode cX0_sendInTurns 29 = .ok (.aload 4, 2) := by decide +kernel
theorem dX0_sendInTurns_31 : decode cX0_sendInTurns 31 = .ok (.getfield 166, 3) := by decide +kernel
theorem dX0_sendInTurns_34 : decode cX0_sendInTurns 34 = .ok (.ifCond .ne 10, 3) := by decide +kernel
theorem dX0_sendInTurns_37 : decode cX0_sendInTurns 37 = .ok (.aload_n 1, 1) := by decide +kernel
theorem dX0_sendInTurns_38 : decode cX0_sendInTurns 38 = .ok (.invokevirtual 276, 3) := by decide +kernel
theorem dX0_sendInTurns_41 : decode cX0_sendInTurns 41 = .ok (.goto 111, 3) := by decide +kernel
theorem dX0_sendInTurns_44 : decode cX0_sendInTurns 44 = .ok (.aload_n 1, 1) := by decide +kernel
theorem dX0_sendInTurns_45 : decode cX0_sendInTurns 45 = .ok (.getfield 279, 3) := by decide +kernel
theorem dX0_sendInTurns_48 : decode cX0_sendInTurns 48 = .ok (.ifCond .eq 23, 3) := by decide +kernel
theorem dX0_sendInTurns_51 : decode cX0_sendInTurns 51 = .ok (.aload 4, 2) := by decide +kernel
theorem dX0_sendInTurns_53 : decode cX0_sendInTurns 53 = .ok (.dup, 1) := by decide +kernel
theorem dX0_sendInTurns_54 : decode cX0_sendInTurns 54 = .ok (.getfield 218, 3) := by decide +kernel
theorem dX0_sendInTurns_57 : decode cX0_sendInTurns 57 = .ok (.aload 4, 2) := by decide +kernel
theorem dX0_sendInTurns_59 : decode cX0_sendInTurns 59 = .ok (.getfield 282, 3) := by decide +kernel
theorem dX0_sendInTurns_62 : decode cX0_sendInTurns 62 = .ok (.iadd, 1) := by decide +kernel
theorem dX0_sendInTurns_63 : decode cX0_sendInTurns 63 = .ok (.putfield 218, 3) := by decide +kernel
theorem dX0_sendInTurns_66 : decode cX0_sendInTurns 66 = .ok (.aload_n 1, 1) := by decide +kernel
theorem dX0_sendInTurns_67 : decode cX0_sendInTurns 67 = .ok (.iconst 0, 1) := by decide +kernel
theorem dX0_sendInTurns_68 : decode cX0_sendInTurns 68 = .ok (.putfield 279, 3) := by decide +kernel
theorem dX0_sendInTurns_71 : decode cX0_sendInTurns 71 = .ok (.aload_n 0, 1) := by decide +kernel
theorem dX0_sendInTurns_72 : decode cX0_sendInTurns 72 = .ok (.getfield 12, 3) := by decide +kernel
theorem dX0_sendInTurns_75 : decode cX0_sendInTurns 75 = .ok (.aload 4, 2) := by decide +kernel
theorem dX0_sendInTurns_77 : decode cX0_sendInTurns 77 = .ok (.getfield 228, 3) := by decide +kernel
theorem dX0_sendInTurns_80 : decode cX0_sendInTurns 80 = .ok (.invokevirtual 169, 3) := by decide +kernel
theorem dX0_sendInTurns_83 : decode cX0_sendInTurns 83 = .ok (.istore 5, 2) := by decide +kernel
theorem dX0_sendInTurns_85 : decode cX0_sendInTurns 85 = .ok (.iload 5, 2) := by decide +kernel
theorem dX0_sendInTurns_87 : decode cX0_sendInTurns 87 = .ok (.aload 4, 2) := by decide +kernel
theorem dX0_sendInTurns_89 : decode cX0_sendInTurns 89 = .ok (.getfield 218, 3) := by decide +kernel
theorem dX0_sendInTurns_92 : decode cX0_sendInTurns 92 = .ok (.if_icmp .le 10, 3) := by decide +kernel
theorem dX0_sendInTurns_95 : decode cX0_sendInTurns 95 = .ok (.aload_n 1, 1) := by decide +kernel
theorem dX0_sendInTurns_96 : decode cX0_sendInTurns 96 = .ok (.invokevirtual 276, 3) := by decide +kernel
theorem dX0_sendInTurns_99 : decode cX0_sendInTurns 99 = .ok (.goto 53, 3) := by decide +kernel
theorem dX0_sendInTurns_102 : decode cX0_sendInTurns 102 = .ok (.iload 5, 2) := by decide +kernel
theorem dX0_sendInTurns_104 : decode cX0_sendInTurns 104 = .ok (.aload_n 1, 1) := by decide +kernel
theorem dX0_sendInTurns_105 : decode cX0_sendInTurns 105 = .ok (.getfield 250, 3) := by decide +kernel
theorem dX0_sendInTurns_108 : decode cX0_sendInTurns 108 = .ok (.if_icmp .le 6, 3) := by decide +kernel
theorem dX0_sendInTurns_111 : decode cX0_sendInTurns 111 = .ok (.goto 47, 3) := by decide +kernel
theorem dX0_sendInTurns_114 : decode cX0_sendInTurns 114 = .ok (.aload 4, 2) := by decide +kernel
theorem dX0_sendInTurns_116 : decode cX0_sendInTurns 116 = .ok (.dup, 1) := by decide +kernel
theorem dX0_sendInTurns_117 : decode cX0_sendInTurns 117 = .ok (.getfield 218, 3) := by decide +kernel
theorem dX0_sendInTurns_120 : decode cX0_sendInTurns 120 = .ok (.iload 5, 2) := by decide +kernel
theorem dX0_sendInTurns_122 : decode cX0_sendInTurns 122 = .ok (.isub, 1) := by decide +kernel
theorem dX0_sendInTurns_123 : decode cX0_sendInTurns 123 = .ok (.putfield 218, 3) := by decide +kernel
theorem dX0_sendInTurns_126 : decode cX0_sendInTurns 126 = .ok (.aload_n 1, 1) := by decide +kernel
theorem dX0_sendInTurns_127 : decode cX0_sendInTurns 127 = .ok (.dup, 1) := by decide +kernel
theorem dX0_sendInTurns_128 : decode cX0_sendInTurns 128 = .ok (.getfield 250, 3) := by decide +kernel
theorem dX0_sendInTurns_131 : decode cX0_sendInTurns 131 = .ok (.iload 5, 2) := by decide +kernel
theorem dX0_sendInTurns_133 : decode cX0_sendInTurns 133 = .ok (.isub, 1) := by decide +kernel
theorem dX0_sendInTurns_134 : decode cX0_sendInTurns 134 = .ok (.putfield 250, 3) := by decide +kernel
theorem dX0_sendInTurns_137 : decode cX0_sendInTurns 137 = .ok (.aload_n 0, 1) := by decide +kernel
theorem dX0_sendInTurns_138 : decode cX0_sendInTurns 138 = .ok (.aload_n 1, 1) := by decide +kernel
theorem dX0_sendInTurns_139 : decode cX0_sendInTurns 139 = .ok (.aload 4, 2) := by decide +kernel
theorem dX0_sendInTurns_141 : decode cX0_sendInTurns 141 = .ok (.aload 4, 2) := by decide +kernel
theorem dX0_sendInTurns_143 : decode cX0_sendInTurns 143 = .ok (.getfield 228, 3) := by decide +kernel
theorem dX0_sendInTurns_146 : decode cX0_sendInTurns 146 = .ok (.invokevirtual 197, 3) := by decide +kernel
theorem dX0_sendInTurns_149 : decode cX0_sendInTurns 149 = .ok (.iinc 2 1, 3) := by decide +kernel
theorem dX0_sendInTurns_152 : decode cX0_sendInTurns 152 = .ok (.iinc 3 1, 3) := by decide +kernel
theorem dX0_sendInTurns_155 : decode cX0_sendInTurns 155 = .ok (.goto (-151), 3) := by decide +kernel
theorem dX0_sendInTurns_158 : decode cX0_sendInTurns 158 = .ok (.iload_n 2, 1) := by decide +kernel
theorem dX0_sendInTurns_159 : decode cX0_sendInTurns 159 = .ok (.ireturn, 1) := by decide +kernel
end
section
theorem dX5_init_0 : decode cX5_init 0 = .ok (.aload_n 0, 1) := by decide +kernel
theorem dX5_init_1 : decode cX5_init 1 = .ok (.invokespecial 1, 3) := by decide +kernel
theorem dX5_init_4 : decode cX5_init 4 = .ok (.aload_n 0, 1) := by decide +kernel
theorem dX5_init_5 : decode cX5_init 5 = .ok (.new 7, 3) := by decide +kernel
theorem dX5_init_8 : decode cX5_init 8 = .ok (.dup, 1) := by decide +kernel
theorem dX5_init_9 : decode cX5_init 9 = .ok (.invokespecial 9, 3) := by decide +kernel
theorem dX5_init_12 : decode cX5_init 12 = .ok (.putfield 10, 3) := by decide +kernel
theorem dX5_init_15 : decode cX5_init 15 = .ok (.aload_n 0, 1) := by decide +kernel
theorem dX5_init_16 : decode cX5_init 16 = .ok (.new 7, 3) := by decide +kernel
theorem dX5_init_19 : decode cX5_init 19 = .ok (.dup, 1) := by decide +kernel
theorem dX5_init_20 : decode cX5_init 20 = .ok (.invokespecial 9, 3) := by decide +kernel
theorem dX5_init_23 : decode cX5_init 23 = .ok (.putfield 16, 3) := by decide +kernel
theorem dX5_init_26 : decode cX5_init 26 = .ok (.aload_n 0, 1) := by decide +kernel
theorem dX5_init_27 : decode cX5_init 27 = .ok (.iconst 2, 1) := by decide +kernel
theorem dX5_init_28 : decode cX5_init 28 = .ok (.anewarray 7, 3) := by decide +kernel
theorem dX5_init_31 : decode cX5_init 31 = .ok (.putfield 19, 3) := by decide +kernel
theorem dX5_init_34 : decode cX5_init 34 = .ok (.iconst 0, 1) := by decide +kernel
theorem dX5_init_35 : decode cX5_init 35 = .ok (.istore_n 1, 1) := by decide +kernel
theorem dX5_init_36 : decode cX5_init 36 = .ok (.iload_n 1, 1) := by decide +kernel
theorem dX5_init_37 : decode cX5_init 37 = .ok (.iconst 2, 1) := by decide +kernel
theorem dX5_init_38 : decode cX5_init 38 = .ok (.if_icmp .ge 22, 3) := by decide +kernel
theorem dX5_init_41 : decode cX5_init 41 = .ok (.aload_n 0, 1) := by decide +kernel
theorem dX5_init_42 : decode cX5_init 42 = .ok (.getfield 19, 3) := by decide +kernel
theorem dX5_init_45 : decode cX5_init 45 = .ok (.iload_n 1, 1) := by decide +kernel
theorem dX5_init_46 : decode cX5_init 46 = .ok (.new 7, 3) := by decide +kernel
theorem dX5_init_49 : decode cX5_init 49 = .ok (.dup, 1) := by decide +kernel
theorem dX5_init_50 : decode cX5_init 50 = .ok (.invokespecial 9, 3) := by decide +kernel
theorem dX5_init_53 : decode cX5_init 53 = .ok (.aastore, 1) := by decide +kernel
theorem dX5_init_54 : decode cX5_init 54 = .ok (.iinc 1 1, 3) := by decide +kernel
theorem dX5_init_57 : decode cX5_init 57 = .ok (.goto (-21), 3) := by decide +kernel
theorem dX5_init_60 : decode cX5_init 60 = .ok (.aload_n 0, 1) := by decide +kernel
theorem dX5_init_61 : decode cX5_init 61 = .ok (.iconst 2, 1) := by decide +kernel
theorem dX5_init_62 : decode cX5_init 62 = .ok (.newarray .boolean, 2) := by decide +kernel
theorem dX5_init_64 : decode cX5_init 64 = .ok (.putfield 23, 3) := by decide +kernel
theorem dX5_init_67 : decode cX5_init 67 = .ok (.aload_n 0, 1) := by decide +kernel
theorem dX5_init_68 : decode cX5_init 68 = .ok (.new 27, 3) := by decide +kernel
theorem dX5_init_71 : decode cX5_init 71 = .ok (.dup, 1) := by decide +kernel
theorem dX5_init_72 : decode cX5_init 72 = .ok (.invokespecial 29, 3) := by decide +kernel
theorem dX5_init_75 : decode cX5_init 75 = .ok (.putfield 30, 3) := by decide +kernel
theorem dX5_init_78 : decode cX5_init 78 = .ok (.aload_n 0, 1) := by decide +kernel
theorem dX5_init_79 : decode cX5_init 79 = .ok (.getfield 10, 3) := by decide +kernel
theorem dX5_init_82 : decode cX5_init 82 = .ok (.bipush 64, 2) := by decide +kernel
theorem dX5_init_84 : decode cX5_init 84 = .ok (.iconst 4, 1) := by decide +kernel
theorem dX5_init_85 : decode cX5_init 85 = .ok (.invokevirtual 34, 3) := by decide +kernel
theorem dX5_init_88 : decode cX5_init 88 = .ok (.return_, 1) := by decide +kernel
theorem dX5_reset_0 : decode cX5_reset 0 = .ok (.iload_n 1, 1) := by decide +kernel
theorem dX5_reset_1 : decode cX5_reset 1 = .ok (.bipush 16, 2) := by decide +kernel
theorem dX5_reset_3 : decode cX5_reset 3 = .ok (.sipush 128, 3) := by decide +kernel
theorem dX5_reset_6 : decode cX5_reset 6 = .ok (.invokestatic 38, 3) := by decide +kernel
theorem dX5_reset_9 : decode cX5_reset 9 = .ok (.ifCond .ne 13, 3) := by decide +kernel
theorem dX5_reset_12 : decode cX5_reset 12 = .ok (.iload_n 2, 1) := by decide +kernel
theorem dX5_reset_13 : decode cX5_reset 13 = .ok (.iconst 1, 1) := by decide +kernel
theorem dX5_reset_14 : decode cX5_reset 14 = .ok (.bipush 6, 2) := by decide +kernel
theorem dX5_reset_16 : decode cX5_reset 16 = .ok (.invokestatic 38, 3) := by decide +kernel
theorem dX5_reset_19 : decode cX5_reset 19 = .ok (.ifCond .eq 6, 3) := by decide +kernel
theorem dX5_reset_22 : decode cX5_reset 22 = .ok (.bipush (-2), 2) := by decide +kernel
theorem dX5_reset_24 : decode cX5_reset 24 = .ok (.ireturn, 1) := by decide +kernel
theorem dX5_reset_25 : decode cX5_reset 25 = .ok (.aload_n 0, 1) := by decide +kernel
theorem dX5_reset_26 : decode cX5_reset 26 = .ok (.getfield 10, 3) := by decide +kernel
theorem dX5_reset_29 : decode cX5_reset 29 = .ok (.getfield 42, 3) := by decide +kernel
theorem dX5_reset_32 : decode cX5_reset 32 = .ok (.getfield 46, 3) := by decide +kernel
theorem dX5_reset_35 : decode cX5_reset 35 = .ok (.istore_n 3, 1) := by decide +kernel
theorem dX5_reset_36 : decode cX5_reset 36 = .ok (.aload_n 0, 1) := by decide +kernel
theorem dX5_reset_37 : decode cX5_reset 37 = .ok (.getfield 10, 3) := by decide +kernel
theorem dX5_reset_40 : decode cX5_reset 40 = .ok (.iload_n 1, 1) := by decide +kernel
theorem dX5_reset_41 : decode cX5_reset 41 = .ok (.iload_n 2, 1) := by decide +kernel
theorem dX5_reset_42 : decode cX5_reset 42 = .ok (.invokevirtual 34, 3) := by decide +kernel
theorem dX5_reset_45 : decode cX5_reset 45 = .ok (.iload_n 3, 1) := by decide +kernel
theorem dX5_reset_46 : decode cX5_reset 46 = .ok (.ireturn, 1) := by decide +kernel
theorem dX5_setReserve_0 : decode cX5_setReserve 0 = .ok (.aload_n 0, 1) := by decide +kernel
theorem dX5_setReserve_1 : decode cX5_setReserve 1 = .ok (.getfield 10, 3) := by decide +kernel
theorem dX5_setReserve_4 : decode cX5_setReserve 4 = .ok (.iload_n 1, 1) := by decide +kernel
theorem dX5_setReserve_5 : decode cX5_setReserve 5 = .ok (.invokevirtual 52, 3) := by decide +kernel
theorem dX5_setReserve_8 : decode cX5_setReserve 8 = .ok (.astore_n 3, 1) := by decide +kernel
theorem dX5_setReserve_9 : decode cX5_setReserve 9 = .ok (.aload_n 3, 1) := by decide +kernel
theorem dX5_setReserve_10 : decode cX5_setReserve 10 = .ok (.ifnonnull 5, 3) := by decide +kernel
theorem dX5_setReserve_13 : decode cX5_setReserve 13 = .ok (.iconst (-1), 1) := by decide +kernel
theorem dX5_setReserve_14 : decode cX5_setReserve 14 = .ok (.ireturn, 1) := by decide +kernel
theorem dX5_setReserve_15 : decode cX5_setReserve 15 = .ok (.iload_n 2, 1) := by decide +kernel
theorem dX5_setReserve_16 : decode cX5_setReserve 16 = .ok (.iconst 0, 1) := by decide +kernel
theorem dX5_setReserve_17 : decode cX5_setReserve 17 = .ok (.bipush 64, 2) := by decide +kernel
theorem dX5_setReserve_19 : decode cX5_setReserve 19 = .ok (.invokestatic 38, 3) := by decide +kernel
theorem dX5_setReserve_22 : decode cX5_setReserve 22 = .ok (.ifCond .eq 6, 3) := by decide +kernel
theorem dX5_setReserve_25 : decode cX5_setReserve 25 = .ok (.bipush (-2), 2) := by decide +kernel
theorem dX5_setReserve_27 : decode cX5_setReserve 27 = .ok (.ireturn, 1) := by decide +kernel
theorem dX5_setReserve_28 : decode cX5_setReserve 28 = .ok (.aload_n 3, 1) := by decide +kernel
theorem dX5_setReserve_29 : decode cX5_setReserve 29 = .ok (.getfield 56, 3) := by decide +kernel
theorem dX5_setReserve_32 : decode cX5_setReserve 32 = .ok (.istore 4, 2) := by decide +kernel
theorem dX5_setReserve_34 : decode cX5_setReserve 34 = .ok (.iload_n 2, 1) := by decide +kernel
theorem dX5_setReserve_35 : decode cX5_setReserve 35 = .ok (.iload 4, 2) := by decide +kernel
theorem dX5_setReserve_37 : decode cX5_setReserve 37 = .ok (.isub, 1) := by decide +kernel
theorem dX5_setReserve_38 : decode cX5_setReserve 38 = .ok (.aload_n 0, 1) := by decide +kernel
theorem dX5_setReserve_39 : decode cX5_setReserve 39 = .ok (.getfield 10, 3) := by decide +kernel
theorem dX5_setReserve_42 : decode cX5_setReserve 42 = .ok (.invokevirtual 61, 3) := by decide +kernel
theorem dX5_setReserve_45 : decode cX5_setReserve 45 = .ok (.if_icmp .le 6, 3) := by decide +kernel
theorem dX5_setReserve_48 : decode cX5_setReserve 48 = .ok (.bipush (-3), 2) := by decide +kernel
theorem dX5_setReserve_50 : decode cX5_setReserve 50 = .ok (.ireturn, 1) := by decide +kernel
theorem dX5_setReserve_51 : decode cX5_setReserve 51 = .ok (.aload_n 3, 1) := by decide +kernel
theorem dX5_setReserve_52 : decode cX5_setReserve 52 = .ok (.iload_n 2, 1) := by decide +kernel
theorem dX5_setReserve_53 : decode cX5_setReserve 53 = .ok (.putfield 56, 3) := by decide +kernel
theorem dX5_setReserve_56 : decode cX5_setReserve 56 = .ok (.aload_n 3, 1) := by decide +kernel
theorem dX5_setReserve_57 : decode cX5_setReserve 57 = .ok (.invokevirtual 65, 3) := by decide +kernel
theorem dX5_setReserve_60 : decode cX5_setReserve 60 = .ok (.iload 4, 2) := by decide +kernel
theorem dX5_setReserve_62 : decode cX5_setReserve 62 = .ok (.ireturn, 1) := by decide +kernel
theorem dX5_setHeadroom_0 : decode cX5_setHeadroom 0 = .ok (.aload_n 0, 1) := by decide +kernel
theorem dX5_setHeadroom_1 : decode cX5_setHeadroom 1 = .ok (.getfield 10, 3) := by decide +kernel
theorem dX5_setHeadroom_4 : decode cX5_setHeadroom 4 = .ok (.iload_n 1, 1) := by decide +kernel
theorem dX5_setHeadroom_5 : decode cX5_setHeadroom 5 = .ok (.invokevirtual 52, 3) := by decide +kernel
theorem dX5_setHeadroom_8 : decode cX5_setHeadroom 8 = .ok (.astore_n 3, 1) := by decide +kernel
theorem dX5_setHeadroom_9 : decode cX5_setHeadroom 9 = .ok (.aload_n 3, 1) := by decide +kernel
theorem dX5_setHeadroom_10 : decode cX5_setHeadroom 10 = .ok (.ifnonnull 5, 3) := by decide +kernel
theorem dX5_setHeadroom_13 : decode cX5_setHeadroom 13 = .ok (.iconst (-1), 1) := by decide +kernel
theorem dX5_setHeadroom_14 : decode cX5_setHeadroom 14 = .ok (.ireturn, 1) := by decide +kernel
theorem dX5_setHeadroom_15 : decode cX5_setHeadroom 15 = .ok (.iload_n 2, 1) := by decide +kernel
theorem dX5_setHeadroom_16 : decode cX5_setHeadroom 16 = .ok (.iconst 0, 1) := by decide +kernel
theorem dX5_setHeadroom_17 : decode cX5_setHeadroom 17 = .ok (.bipush 64, 2) := by decide +kernel
theorem dX5_setHeadroom_19 : decode cX5_setHeadroom 19 = .ok (.invokestatic 38, 3) := by decide +kernel
theorem dX5_setHeadroom_22 : decode cX5_setHeadroom 22 = .ok (.ifCond .eq 6, 3) := by decide +kernel
theorem dX5_setHeadroom_25 : decode cX5_setHeadroom 25 = .ok (.bipush (-2), 2) := by decide +kernel
theorem dX5_setHeadroom_27 : decode cX5_setHeadroom 27 = .ok (.ireturn, 1) := by decide +kernel
theorem dX5_setHeadroom_28 : decode cX5_setHeadroom 28 = .ok (.aload_n 3, 1) := by decide +kernel
theorem dX5_setHeadroom_29 : decode cX5_setHeadroom 29 = .ok (.invokevirtual 68, 3) := by decide +kernel
theorem dX5_setHeadroom_32 : decode cX5_setHeadroom 32 = .ok (.iload_n 2, 1) := by decide +kernel
theorem dX5_setHeadroom_33 : decode cX5_setHeadroom 33 = .ok (.if_icmp .le 6, 3) := by decide +kernel
theorem dX5_setHeadroom_36 : decode cX5_setHeadroom 36 = .ok (.bipush (-4), 2) := by decide +kernel
theorem dX5_setHeadroom_38 : decode cX5_setHeadroom 38 = .ok (.ireturn, 1) := by decide +kernel
theorem dX5_setHeadroom_39 : decode cX5_setHeadroom 39 = .ok (.aload_n 3, 1) := by decide +kernel
theorem dX5_setHeadroom_40 : decode cX5_setHeadroom 40 = .ok (.getfield 71, 3) := by decide +kernel
theorem dX5_setHeadroom_43 : decode cX5_setHeadroom 43 = .ok (.istore 4, 2) := by decide +kernel
theorem dX5_setHeadroom_45 : decode cX5_setHeadroom 45 = .ok (.iload_n 2, 1) := by decide +kernel
theorem dX5_setHeadroom_46 : decode cX5_setHeadroom 46 = .ok (.iload 4, 2) := by decide +kernel
theorem dX5_setHeadroom_48 : decode cX5_setHeadroom 48 = .ok (.isub, 1) := by decide +kernel
theorem dX5_setHeadroom_49 : decode cX5_setHeadroom 49 = .ok (.aload_n 0, 1) := by decide +kernel
theorem dX5_setHeadroom_50 : decode cX5_setHeadroom 50 = .ok (.getfield 10, 3) := by decide +kernel
theorem dX5_setHeadroom_53 : decode cX5_setHeadroom 53 = .ok (.invokevirtual 61, 3) := by decide +kernel
theorem dX5_setHeadroom_56 : decode cX5_setHeadroom 56 = .ok (.if_icmp .le 6, 3) := by decide +kernel
theorem dX5_setHeadroom_59 : decode cX5_setHeadroom 59 = .ok (.bipush (-3), 2) := by decide +kernel
theorem dX5_setHeadroom_61 : decode cX5_setHeadroom 61 = .ok (.ireturn, 1) := by decide +kernel
theorem dX5_setHeadroom_62 : decode cX5_setHeadroom 62 = .ok (.aload_n 3, 1) := by decide +kernel
theorem dX5_setHeadroom_63 : decode cX5_setHeadroom 63 = .ok (.iload_n 2, 1) := by decide +kernel
theorem dX5_setHeadroom_64 : decode cX5_setHeadroom 64 = .ok (.putfield 71, 3) := by decide +kernel
theorem dX5_setHeadroom_67 : decode cX5_setHeadroom 67 = .ok (.iload 4, 2) := by decide +kernel
theorem dX5_setHeadroom_69 : decode cX5_setHeadroom 69 = .ok (.ireturn, 1) := by decide +kernel
theorem dX5_setAlpha_0 : decode cX5_setAlpha 0 = .ok (.aload_n 0, 1) := by decide +kernel
theorem dX5_setAlpha_1 : decode cX5_setAlpha 1 = .ok (.getfield 10, 3) := by decide +kernel
theorem dX5_setAlpha_4 : decode cX5_setAlpha 4 = .ok (.iload_n 1, 1) := by decide +kernel
theorem dX5_setAlpha_5 : decode cX5_setAlpha 5 = .ok (.iload_n 2, 1) := by decide +kernel
theorem dX5_setAlpha_6 : decode cX5_setAlpha 6 = .ok (.invokevirtual 74, 3) := by decide +kernel
theorem dX5_setAlpha_9 : decode cX5_setAlpha 9 = .ok (.astore 4, 2) := by decide +kernel
theorem dX5_setAlpha_11 : decode cX5_setAlpha 11 = .ok (.aload 4, 2) := by decide +kernel
theorem dX5_setAlpha_13 : decode cX5_setAlpha 13 = .ok (.ifnonnull 5, 3) := by decide +kernel
theorem dX5_setAlpha_16 : decode cX5_setAlpha 16 = .ok (.iconst (-1), 1) := by decide +kernel
theorem dX5_setAlpha_17 : decode cX5_setAlpha 17 = .ok (.ireturn, 1) := by decide +kernel
theorem dX5_setAlpha_18 : decode cX5_setAlpha 18 = .ok (.iload_n 3, 1) := by decide +kernel
theorem dX5_setAlpha_19 : decode cX5_setAlpha 19 = .ok (.iconst 0, 1) := by decide +kernel
theorem dX5_setAlpha_20 : decode cX5_setAlpha 20 = .ok (.bipush 64, 2) := by decide +kernel
theorem dX5_setAlpha_22 : decode cX5_setAlpha 22 = .ok (.invokestatic 38, 3) := by decide +kernel
theorem dX5_setAlpha_25 : decode cX5_setAlpha 25 = .ok (.ifCond .eq 6, 3) := by decide +kernel
theorem dX5_setAlpha_28 : decode cX5_setAlpha 28 = .ok (.bipush (-2), 2) := by decide +kernel
theorem dX5_setAlpha_30 : decode cX5_setAlpha 30 = .ok (.ireturn, 1) := by decide +kernel
theorem dX5_setAlpha_31 : decode cX5_setAlpha 31 = .ok (.aload 4, 2) := by decide +kernel
theorem dX5_setAlpha_33 : decode cX5_setAlpha 33 = .ok (.getfield 78, 3) := by decide +kernel
theorem dX5_setAlpha_36 : decode cX5_setAlpha 36 = .ok (.istore 5, 2) := by decide +kernel
theorem dX5_setAlpha_38 : decode cX5_setAlpha 38 = .ok (.aload 4, 2) := by decide +kernel
theorem dX5_setAlpha_40 : decode cX5_setAlpha 40 = .ok (.iload_n 3, 1) := by decide +kernel
theorem dX5_setAlpha_41 : decode cX5_setAlpha 41 = .ok (.putfield 78, 3) := by decide +kernel
theorem dX5_setAlpha_44 : decode cX5_setAlpha 44 = .ok (.iload 5, 2) := by decide +kernel
theorem dX5_setAlpha_46 : decode cX5_setAlpha 46 = .ok (.ireturn, 1) := by decide +kernel
theorem dX5_setBurst_0 : decode cX5_setBurst 0 = .ok (.aload_n 0, 1) := by decide +kernel
theorem dX5_setBurst_1 : decode cX5_setBurst 1 = .ok (.getfield 10, 3) := by decide +kernel
theorem dX5_setBurst_4 : decode cX5_setBurst 4 = .ok (.iload_n 1, 1) := by decide +kernel
theorem dX5_setBurst_5 : decode cX5_setBurst 5 = .ok (.iload_n 2, 1) := by decide +kernel
theorem dX5_setBurst_6 : decode cX5_setBurst 6 = .ok (.invokevirtual 74, 3) := by decide +kernel
theorem dX5_setBurst_9 : decode cX5_setBurst 9 = .ok (.astore 5, 2) := by decide +kernel
theorem dX5_setBurst_11 : decode cX5_setBurst 11 = .ok (.aload 5, 2) := by decide +kernel
theorem dX5_setBurst_13 : decode cX5_setBurst 13 = .ok (.ifnonnull 5, 3) := by decide +kernel
theorem dX5_setBurst_16 : decode cX5_setBurst 16 = .ok (.iconst (-1), 1) := by decide +kernel
theorem dX5_setBurst_17 : decode cX5_setBurst 17 = .ok (.ireturn, 1) := by decide +kernel
theorem dX5_setBurst_18 : decode cX5_setBurst 18 = .ok (.iload_n 3, 1) := by decide +kernel
theorem dX5_setBurst_19 : decode cX5_setBurst 19 = .ok (.iconst 0, 1) := by decide +kernel
theorem dX5_setBurst_20 : decode cX5_setBurst 20 = .ok (.bipush 32, 2) := by decide +kernel
theorem dX5_setBurst_22 : decode cX5_setBurst 22 = .ok (.invokestatic 38, 3) := by decide +kernel
theorem dX5_setBurst_25 : decode cX5_setBurst 25 = .ok (.ifCond .ne 14, 3) := by decide +kernel
theorem dX5_setBurst_28 : decode cX5_setBurst 28 = .ok (.iload 4, 2) := by decide +kernel
theorem dX5_setBurst_30 : decode cX5_setBurst 30 = .ok (.iconst 0, 1) := by decide +kernel
theorem dX5_setBurst_31 : decode cX5_setBurst 31 = .ok (.bipush 8, 2) := by decide +kernel
theorem dX5_setBurst_33 : decode cX5_setBurst 33 = .ok (.invokestatic 38, 3) := by decide +kernel
theorem dX5_setBurst_36 : decode cX5_setBurst 36 = .ok (.ifCond .eq 6, 3) := by decide +kernel
theorem dX5_setBurst_39 : decode cX5_setBurst 39 = .ok (.bipush (-2), 2) := by decide +kernel
theorem dX5_setBurst_41 : decode cX5_setBurst 41 = .ok (.ireturn, 1) := by decide +kernel
theorem dX5_setBurst_42 : decode cX5_setBurst 42 = .ok (.aload 5, 2) := by decide +kernel
theorem dX5_setBurst_44 : decode cX5_setBurst 44 = .ok (.getfield 83, 3) := by decide +kernel
theorem dX5_setBurst_47 : decode cX5_setBurst 47 = .ok (.istore 6, 2) := by decide +kernel
theorem dX5_setBurst_49 : decode cX5_setBurst 49 = .ok (.aload 5, 2) := by decide +kernel
theorem dX5_setBurst_51 : decode cX5_setBurst 51 = .ok (.iload_n 3, 1) := by decide +kernel
theorem dX5_setBurst_52 : decode cX5_setBurst 52 = .ok (.putfield 86, 3) := by decide +kernel
theorem dX5_setBurst_55 : decode cX5_setBurst 55 = .ok (.aload 5, 2) := by decide +kernel
theorem dX5_setBurst_57 : decode cX5_setBurst 57 = .ok (.iload 4, 2) := by decide +kernel
theorem dX5_setBurst_59 : decode cX5_setBurst 59 = .ok (.putfield 89, 3) := by decide +kernel
theorem dX5_setBurst_62 : decode cX5_setBurst 62 = .ok (.aload 5, 2) := by decide +kernel
theorem dX5_setBurst_64 : decode cX5_setBurst 64 = .ok (.iload_n 3, 1) := by decide +kernel
theorem dX5_setBurst_65 : decode cX5_setBurst 65 = .ok (.putfield 83, 3) := by decide +kernel
theorem dX5_setBurst_68 : decode cX5_setBurst 68 = .ok (.iload 6, 2) := by decide +kernel
theorem dX5_setBurst_70 : decode cX5_setBurst 70 = .ok (.ireturn, 1) := by decide +kernel
theorem dX5_setLossless_0 : decode cX5_setLossless 0 = .ok (.aload_n 0, 1) := by decide +kernel
theorem dX5_setLossless_1 : decode cX5_setLossless 1 = .ok (.getfield 10, 3) := by decide +kernel
theorem dX5_setLossless_4 : decode cX5_setLossless 4 = .ok (.iload_n 1, 1) := by decide +kernel
theorem dX5_setLossless_5 : decode cX5_setLossless 5 = .ok (.iload_n 2, 1) := by decide +kernel
theorem dX5_setLossless_6 : decode cX5_setLossless 6 = .ok (.invokevirtual 74, 3) := by decide +kernel
theorem dX5_setLossless_9 : decode cX5_setLossless 9 = .ok (.astore 4, 2) := by decide +kernel
theorem dX5_setLossless_11 : decode cX5_setLossless 11 = .ok (.aload 4, 2) := by decide +kernel
theorem dX5_setLossless_13 : decode cX5_setLossless 13 = .ok (.ifnonnull 5, 3) := by decide +kernel
theorem dX5_setLossless_16 : decode cX5_setLossless 16 = .ok (.iconst (-1), 1) := by decide +kernel
theorem dX5_setLossless_17 : decode cX5_setLossless 17 = .ok (.ireturn, 1) := by decide +kernel
theorem dX5_setLossless_18 : decode cX5_setLossless 18 = .ok (.iload_n 3, 1) := by decide +kernel
theorem dX5_setLossless_19 : decode cX5_setLossless 19 = .ok (.ifCond .ne 14, 3) := by decide +kernel
theorem dX5_setLossless_22 : decode cX5_setLossless 22 = .ok (.aload 4, 2) := by decide +kernel
theorem dX5_setLossless_24 : decode cX5_setLossless 24 = .ok (.getfield 92, 3) := by decide +kernel
theorem dX5_setLossless_27 : decode cX5_setLossless 27 = .ok (.ifCond .le 6, 3) := by decide +kernel
theorem dX5_setLossless_30 : decode cX5_setLossless 30 = .ok (.bipush (-4), 2) := by decide +kernel
theorem dX5_setLossless_32 : decode cX5_setLossless 32 = .ok (.ireturn, 1) := by decide +kernel
theorem dX5_setLossless_33 : decode cX5_setLossless 33 = .ok (.aload 4, 2) := by decide +kernel
theorem dX5_setLossless_35 : decode cX5_setLossless 35 = .ok (.getfield 95, 3) := by decide +kernel
theorem dX5_setLossless_38 : decode cX5_setLossless 38 = .ok (.invokestatic 99, 3) := by decide +kernel
theorem dX5_setLossless_41 : decode cX5_setLossless 41 = .ok (.istore 5, 2) := by decide +kernel
theorem dX5_setLossless_43 : decode cX5_setLossless 43 = .ok (.aload 4, 2) := by decide +kernel
theorem dX5_setLossless_45 : decode cX5_setLossless 45 = .ok (.iload_n 3, 1) := by decide +kernel
theorem dX5_setLossless_46 : decode cX5_setLossless 46 = .ok (.putfield 95, 3) := by decide +kernel
theorem dX5_setLossless_49 : decode cX5_setLossless 49 = .ok (.iload_n 3, 1) := by decide +kernel
theorem dX5_setLossless_50 : decode cX5_setLossless 50 = .ok (.ifCond .ne 9, 3) := by decide +kernel
theorem dX5_setLossless_53 : decode cX5_setLossless 53 = .ok (.aload 4, 2) := by decide +kernel
theorem dX5_setLossless_55 : decode cX5_setLossless 55 = .ok (.iconst 0, 1) := by decide +kernel
theorem dX5_setLossless_56 : decode cX5_setLossless 56 = .ok (.putfield 103, 3) := by decide +kernel
theorem dX5_setLossless_59 : decode cX5_setLossless 59 = .ok (.iload 5, 2) := by decide +kernel
theorem dX5_setLossless_61 : decode cX5_setLossless 61 = .ok (.ireturn, 1) := by decide +kernel
theorem dX5_setScheduler_0 : decode cX5_setScheduler 0 = .ok (.aload_n 0, 1) := by decide +kernel
theorem dX5_setScheduler_1 : decode cX5_setScheduler 1 = .ok (.getfield 10, 3) := by decide +kernel
theorem dX5_setScheduler_4 : decode cX5_setScheduler 4 = .ok (.iload_n 1, 1) := by decide +kernel
theorem dX5_setScheduler_5 : decode cX5_setScheduler 5 = .ok (.invokevirtual 52, 3) := by decide +kernel
theorem dX5_setScheduler_8 : decode cX5_setScheduler 8 = .ok (.astore 4, 2) := by decide +kernel
theorem dX5_setScheduler_10 : decode cX5_setScheduler 10 = .ok (.aload 4, 2) := by decide +kernel
theorem dX5_setScheduler_12 : decode cX5_setScheduler 12 = .ok (.ifnonnull 5, 3) := by decide +kernel
theorem dX5_setScheduler_15 : decode cX5_setScheduler 15 = .ok (.iconst (-1), 1) := by decide +kernel
theorem dX5_setScheduler_16 : decode cX5_setScheduler 16 = .ok (.ireturn, 1) := by decide +kernel
theorem dX5_setScheduler_17 : decode cX5_setScheduler 17 = .ok (.iload_n 3, 1) := by decide +kernel
theorem dX5_setScheduler_18 : decode cX5_setScheduler 18 = .ok (.iconst 0, 1) := by decide +kernel
theorem dX5_setScheduler_19 : decode cX5_setScheduler 19 = .ok (.bipush 16, 2) := by decide +kernel
theorem dX5_setScheduler_21 : decode cX5_setScheduler 21 = .ok (.invokestatic 38, 3) := by decide +kernel
theorem dX5_setScheduler_24 : decode cX5_setScheduler 24 = .ok (.ifCond .eq 6, 3) := by decide +kernel
theorem dX5_setScheduler_27 : decode cX5_setScheduler 27 = .ok (.bipush (-2), 2) := by decide +kernel
theorem dX5_setScheduler_29 : decode cX5_setScheduler 29 = .ok (.ireturn, 1) := by decide +kernel
theorem dX5_setScheduler_30 : decode cX5_setScheduler 30 = .ok (.aload 4, 2) := by decide +kernel
theorem dX5_setScheduler_32 : decode cX5_setScheduler 32 = .ok (.getfield 106, 3) := by decide +kernel
theorem dX5_setScheduler_35 : decode cX5_setScheduler 35 = .ok (.istore 5, 2) := by decide +kernel
theorem dX5_setScheduler_37 : decode cX5_setScheduler 37 = .ok (.aload 4, 2) := by decide +kernel
theorem dX5_setScheduler_39 : decode cX5_setScheduler 39 = .ok (.iload_n 2, 1) := by decide +kernel
theorem dX5_setScheduler_40 : decode cX5_setScheduler 40 = .ok (.putfield 109, 3) := by decide +kernel
theorem dX5_setScheduler_43 : decode cX5_setScheduler 43 = .ok (.aload 4, 2) := by decide +kernel
theorem dX5_setScheduler_45 : decode cX5_setScheduler 45 = .ok (.iload_n 3, 1) := by decide +kernel
theorem dX5_setScheduler_46 : decode cX5_setScheduler 46 = .ok (.putfield 106, 3) := by decide +kernel
theorem dX5_setScheduler_49 : decode cX5_setScheduler 49 = .ok (.iload 5, 2) := by decide +kernel
theorem dX5_setScheduler_51 : decode cX5_setScheduler 51 = .ok (.ireturn, 1) := by decide +kernel
theorem dX5_setQuantum_0 : decode cX5_setQuantum 0 = .ok (.aload_n 0, 1) := by decide +kernel
theorem dX5_setQuantum_1 : decode cX5_setQuantum 1 = .ok (.getfield 10, 3) := by decide +kernel
theorem dX5_setQuantum_4 : decode cX5_setQuantum 4 = .ok (.iload_n 1, 1) := by decide +kernel
theorem dX5_setQuantum_5 : decode cX5_setQuantum 5 = .ok (.iload_n 2, 1) := by decide +kernel
theorem dX5_setQuantum_6 : decode cX5_setQuantum 6 = .ok (.invokevirtual 74, 3) := by decide +kernel
theorem dX5_setQuantum_9 : decode cX5_setQuantum 9 = .ok (.astore 4, 2) := by decide +kernel
theorem dX5_setQuantum_11 : decode cX5_setQuantum 11 = .ok (.aload 4, 2) := by decide +kernel
theorem dX5_setQuantum_13 : decode cX5_setQuantum 13 = .ok (.ifnonnull 5, 3) := by decide +kernel
theorem dX5_setQuantum_16 : decode cX5_setQuantum 16 = .ok (.iconst (-1), 1) := by decide +kernel
theorem dX5_setQuantum_17 : decode cX5_setQuantum 17 = .ok (.ireturn, 1) := by decide +kernel
theorem dX5_setQuantum_18 : decode cX5_setQuantum 18 = .ok (.iload_n 3, 1) := by decide +kernel
theorem dX5_setQuantum_19 : decode cX5_setQuantum 19 = .ok (.iconst 1, 1) := by decide +kernel
theorem dX5_setQuantum_20 : decode cX5_setQuantum 20 = .ok (.bipush 16, 2) := by decide +kernel
theorem dX5_setQuantum_22 : decode cX5_setQuantum 22 = .ok (.invokestatic 38, 3) := by decide +kernel
theorem dX5_setQuantum_25 : decode cX5_setQuantum 25 = .ok (.ifCond .eq 6, 3) := by decide +kernel
theorem dX5_setQuantum_28 : decode cX5_setQuantum 28 = .ok (.bipush (-2), 2) := by decide +kernel
theorem dX5_setQuantum_30 : decode cX5_setQuantum 30 = .ok (.ireturn, 1) := by decide +kernel
theorem dX5_setQuantum_31 : decode cX5_setQuantum 31 = .ok (.aload 4, 2) := by decide +kernel
theorem dX5_setQuantum_33 : decode cX5_setQuantum 33 = .ok (.getfield 112, 3) := by decide +kernel
theorem dX5_setQuantum_36 : decode cX5_setQuantum 36 = .ok (.istore 5, 2) := by decide +kernel
theorem dX5_setQuantum_38 : decode cX5_setQuantum 38 = .ok (.aload 4, 2) := by decide +kernel
theorem dX5_setQuantum_40 : decode cX5_setQuantum 40 = .ok (.iload_n 3, 1) := by decide +kernel
theorem dX5_setQuantum_41 : decode cX5_setQuantum 41 = .ok (.putfield 112, 3) := by decide +kernel
theorem dX5_setQuantum_44 : decode cX5_setQuantum 44 = .ok (.iload 5, 2) := by decide +kernel
theorem dX5_setQuantum_46 : decode cX5_setQuantum 46 = .ok (.ireturn, 1) := by decide +kernel
theorem dX5_setPushOut_0 : decode cX5_setPushOut 0 = .ok (.aload_n 0, 1) := by decide +kernel
theorem dX5_setPushOut_1 : decode cX5_setPushOut 1 = .ok (.getfield 10, 3) := by decide +kernel
theorem dX5_setPushOut_4 : decode cX5_setPushOut 4 = .ok (.getfield 115, 3) := by decide +kernel
theorem dX5_setPushOut_7 : decode cX5_setPushOut 7 = .ok (.invokestatic 99, 3) := by decide +kernel
theorem dX5_setPushOut_10 : decode cX5_setPushOut 10 = .ok (.istore_n 2, 1) := by decide +kernel
theorem dX5_setPushOut_11 : decode cX5_setPushOut 11 = .ok (.aload_n 0, 1) := by decide +kernel
theorem dX5_setPushOut_12 : decode cX5_setPushOut 12 = .ok (.getfield 10, 3) := by decide +kernel
theorem dX5_setPushOut_15 : decode cX5_setPushOut 15 = .ok (.iload_n 1, 1) := by decide +kernel
theorem dX5_setPushOut_16 : decode cX5_setPushOut 16 = .ok (.putfield 115, 3) := by decide +kernel
theorem dX5_setPushOut_19 : decode cX5_setPushOut 19 = .ok (.iload_n 2, 1) := by decide +kernel
theorem dX5_setPushOut_20 : decode cX5_setPushOut 20 = .ok (.ireturn, 1) := by decide +kernel
theorem dX5_grant_0 : decode cX5_grant 0 = .ok (.aload_n 0, 1) := by decide +kernel
theorem dX5_grant_1 : decode cX5_grant 1 = .ok (.getfield 10, 3) := by decide +kernel
theorem dX5_grant_4 : decode cX5_grant 4 = .ok (.iload_n 1, 1) := by decide +kernel
theorem dX5_grant_5 : decode cX5_grant 5 = .ok (.invokevirtual 52, 3) := by decide +kernel
theorem dX5_grant_8 : decode cX5_grant 8 = .ok (.astore_n 3, 1) := by decide +kernel
theorem dX5_grant_9 : decode cX5_grant 9 = .ok (.aload_n 3, 1) := by decide +kernel
theorem dX5_grant_10 : decode cX5_grant 10 = .ok (.ifnonnull 5, 3) := by decide +kernel
theorem dX5_grant_13 : decode cX5_grant 13 = .ok (.iconst (-1), 1) := by decide +kernel
theorem dX5_grant_14 : decode cX5_grant 14 = .ok (.ireturn, 1) := by decide +kernel
theorem dX5_grant_15 : decode cX5_grant 15 = .ok (.iload_n 2, 1) := by decide +kernel
theorem dX5_grant_16 : decode cX5_grant 16 = .ok (.iconst 1, 1) := by decide +kernel
theorem dX5_grant_17 : decode cX5_grant 17 = .ok (.bipush 32, 2) := by decide +kernel
theorem dX5_grant_19 : decode cX5_grant 19 = .ok (.invokestatic 38, 3) := by decide +kernel
theorem dX5_grant_22 : decode cX5_grant 22 = .ok (.ifCond .eq 6, 3) := by decide +kernel
theorem dX5_grant_25 : decode cX5_grant 25 = .ok (.bipush (-2), 2) := by decide +kernel
theorem dX5_grant_27 : decode cX5_grant 27 = .ok (.ireturn, 1) := by decide +kernel
theorem dX5_grant_28 : decode cX5_grant 28 = .ok (.aload_n 0, 1) := by decide +kernel
theorem dX5_grant_29 : decode cX5_grant 29 = .ok (.getfield 10, 3) := by decide +kernel
theorem dX5_grant_32 : decode cX5_grant 32 = .ok (.aload_n 3, 1) := by decide +kernel
theorem dX5_grant_33 : decode cX5_grant 33 = .ok (.iload_n 1, 1) := by decide +kernel
theorem dX5_grant_34 : decode cX5_grant 34 = .ok (.iload_n 2, 1) := by decide +kernel
theorem dX5_grant_35 : decode cX5_grant 35 = .ok (.invokevirtual 118, 3) := by decide +kernel
theorem dX5_grant_38 : decode cX5_grant 38 = .ok (.ireturn, 1) := by decide +kernel
theorem dX5_withdraw_0 : decode cX5_withdraw 0 = .ok (.aload_n 0, 1) := by decide +kernel
theorem dX5_withdraw_1 : decode cX5_withdraw 1 = .ok (.getfield 10, 3) := by decide +kernel
theorem dX5_withdraw_4 : decode cX5_withdraw 4 = .ok (.iload_n 1, 1) := by decide +kernel
theorem dX5_withdraw_5 : decode cX5_withdraw 5 = .ok (.invokevirtual 52, 3) := by decide +kernel
theorem dX5_withdraw_8 : decode cX5_withdraw 8 = .ok (.astore_n 2, 1) := by decide +kernel
theorem dX5_withdraw_9 : decode cX5_withdraw 9 = .ok (.aload_n 2, 1) := by decide +kernel
theorem dX5_withdraw_10 : decode cX5_withdraw 10 = .ok (.ifnonnull 5, 3) := by decide +kernel
theorem dX5_withdraw_13 : decode cX5_withdraw 13 = .ok (.iconst (-1), 1) := by decide +kernel
theorem dX5_withdraw_14 : decode cX5_withdraw 14 = .ok (.ireturn, 1) := by decide +kernel
theorem dX5_withdraw_15 : decode cX5_withdraw 15 = .ok (.aload_n 2, 1) := by decide +kernel
theorem dX5_withdraw_16 : decode cX5_withdraw 16 = .ok (.getfield 122, 3) := by decide +kernel
theorem dX5_withdraw_19 : decode cX5_withdraw 19 = .ok (.ifCond .ne 6, 3) := by decide +kernel
theorem dX5_withdraw_22 : decode cX5_withdraw 22 = .ok (.bipush (-5), 2) := by decide +kernel
theorem dX5_withdraw_24 : decode cX5_withdraw 24 = .ok (.ireturn, 1) := by decide +kernel
theorem dX5_withdraw_25 : decode cX5_withdraw 25 = .ok (.aload_n 2, 1) := by decide +kernel
theorem dX5_withdraw_26 : decode cX5_withdraw 26 = .ok (.getfield 122, 3) := by decide +kernel
theorem dX5_withdraw_29 : decode cX5_withdraw 29 = .ok (.istore_n 3, 1) := by decide +kernel
theorem dX5_withdraw_30 : decode cX5_withdraw 30 = .ok (.aload_n 0, 1) := by decide +kernel
theorem dX5_withdraw_31 : decode cX5_withdraw 31 = .ok (.getfield 10, 3) := by decide +kernel
theorem dX5_withdraw_34 : decode cX5_withdraw 34 = .ok (.aload_n 2, 1) := by decide +kernel
theorem dX5_withdraw_35 : decode cX5_withdraw 35 = .ok (.iload_n 1, 1) := by decide +kernel
theorem dX5_withdraw_36 : decode cX5_withdraw 36 = .ok (.invokevirtual 125, 3) := by decide +kernel
theorem dX5_withdraw_39 : decode cX5_withdraw 39 = .ok (.iload_n 3, 1) := by decide +kernel
theorem dX5_withdraw_40 : decode cX5_withdraw 40 = .ok (.ireturn, 1) := by decide +kernel
theorem dX5_arrive_0 : decode cX5_arrive 0 = .ok (.aload_n 0, 1) := by decide +kernel
theorem dX5_arrive_1 : decode cX5_arrive 1 = .ok (.getfield 10, 3) := by decide +kernel
theorem dX5_arrive_4 : decode cX5_arrive 4 = .ok (.iload_n 1, 1) := by decide +kernel
theorem dX5_arrive_5 : decode cX5_arrive 5 = .ok (.invokevirtual 52, 3) := by decide +kernel
theorem dX5_arrive_8 : decode cX5_arrive 8 = .ok (.astore 4, 2) := by decide +kernel
theorem dX5_arrive_10 : decode cX5_arrive 10 = .ok (.aload_n 0, 1) := by decide +kernel
theorem dX5_arrive_11 : decode cX5_arrive 11 = .ok (.getfield 10, 3) := by decide +kernel
theorem dX5_arrive_14 : decode cX5_arrive 14 = .ok (.iload_n 1, 1) := by decide +kernel
theorem dX5_arrive_15 : decode cX5_arrive 15 = .ok (.iload_n 2, 1) := by decide +kernel
theorem dX5_arrive_16 : decode cX5_arrive 16 = .ok (.invokevirtual 74, 3) := by decide +kernel
theorem dX5_arrive_19 : decode cX5_arrive 19 = .ok (.astore 5, 2) := by decide +kernel
theorem dX5_arrive_21 : decode cX5_arrive 21 = .ok (.aload 4, 2) := by decide +kernel
theorem dX5_arrive_23 : decode cX5_arrive 23 = .ok (.ifnull 8, 3) := by decide +kernel
theorem dX5_arrive_26 : decode cX5_arrive 26 = .ok (.aload 5, 2) := by decide +kernel
theorem dX5_arrive_28 : decode cX5_arrive 28 = .ok (.ifnonnull 5, 3) := by decide +kernel
theorem dX5_arrive_31 : decode cX5_arrive 31 = .ok (.iconst (-1), 1) := by decide +kernel
theorem dX5_arrive_32 : decode cX5_arrive 32 = .ok (.ireturn, 1) := by decide +kernel
theorem dX5_arrive_33 : decode cX5_arrive 33 = .ok (.iload_n 3, 1) := by decide +kernel
theorem dX5_arrive_34 : decode cX5_arrive 34 = .ok (.iconst 1, 1) := by decide +kernel
theorem dX5_arrive_35 : decode cX5_arrive 35 = .ok (.bipush 12, 2) := by decide +kernel
theorem dX5_arrive_37 : decode cX5_arrive 37 = .ok (.invokestatic 38, 3) := by decide +kernel
theorem dX5_arrive_40 : decode cX5_arrive 40 = .ok (.ifCond .eq 6, 3) := by decide +kernel
theorem dX5_arrive_43 : decode cX5_arrive 43 = .ok (.bipush (-2), 2) := by decide +kernel
theorem dX5_arrive_45 : decode cX5_arrive 45 = .ok (.ireturn, 1) := by decide +kernel
theorem dX5_arrive_46 : decode cX5_arrive 46 = .ok (.aload_n 0, 1) := by decide +kernel
theorem dX5_arrive_47 : decode cX5_arrive 47 = .ok (.getfield 10, 3) := by decide +kernel
theorem dX5_arrive_50 : decode cX5_arrive 50 = .ok (.aload 4, 2) := by decide +kernel
theorem dX5_arrive_52 : decode cX5_arrive 52 = .ok (.aload 5, 2) := by decide +kernel
theorem dX5_arrive_54 : decode cX5_arrive 54 = .ok (.iload_n 3, 1) := by decide +kernel
theorem dX5_arrive_55 : decode cX5_arrive 55 = .ok (.invokevirtual 129, 3) := by decide +kernel
theorem dX5_arrive_58 : decode cX5_arrive 58 = .ok (.ireturn, 1) := by decide +kernel
theorem dX5_ticks_0 : decode cX5_ticks 0 = .ok (.iload_n 1, 1) := by decide +kernel
theorem dX5_ticks_1 : decode cX5_ticks 1 = .ok (.iconst 1, 1) := by decide +kernel
theorem dX5_ticks_2 : decode cX5_ticks 2 = .ok (.bipush 20, 2) := by decide +kernel
theorem dX5_ticks_4 : decode cX5_ticks 4 = .ok (.invokestatic 38, 3) := by decide +kernel
theorem dX5_ticks_7 : decode cX5_ticks 7 = .ok (.ifCond .eq 6, 3) := by decide +kernel
theorem dX5_ticks_10 : decode cX5_ticks 10 = .ok (.bipush (-2), 2) := by decide +kernel
theorem dX5_ticks_12 : decode cX5_ticks 12 = .ok (.ireturn, 1) := by decide +kernel
theorem dX5_ticks_13 : decode cX5_ticks 13 = .ok (.iconst 0, 1) := by decide +kernel
theorem dX5_ticks_14 : decode cX5_ticks 14 = .ok (.istore_n 2, 1) := by decide +kernel
theorem dX5_ticks_15 : decode cX5_ticks 15 = .ok (.iconst 0, 1) := by decide +kernel
theorem dX5_ticks_16 : decode cX5_ticks 16 = .ok (.istore_n 3, 1) := by decide +kernel
theorem dX5_ticks_17 : decode cX5_ticks 17 = .ok (.iload_n 3, 1) := by decide +kernel
theorem dX5_ticks_18 : decode cX5_ticks 18 = .ok (.iload_n 1, 1) := by decide +kernel
theorem dX5_ticks_19 : decode cX5_ticks 19 = .ok (.if_icmp .ge 19, 3) := by decide +kernel
theorem dX5_ticks_22 : decode cX5_ticks 22 = .ok (.iload_n 2, 1) := by decide +kernel
theorem dX5_ticks_23 : decode cX5_ticks 23 = .ok (.aload_n 0, 1) := by decide +kernel
theorem dX5_ticks_24 : decode cX5_ticks 24 = .ok (.getfield 10, 3) := by decide +kernel
theorem dX5_ticks_27 : decode cX5_ticks 27 = .ok (.invokevirtual 133, 3) := by decide +kernel
theorem dX5_ticks_30 : decode cX5_ticks 30 = .ok (.iadd, 1) := by decide +kernel
theorem dX5_ticks_31 : decode cX5_ticks 31 = .ok (.istore_n 2, 1) := by decide +kernel
theorem dX5_ticks_32 : decode cX5_ticks 32 = .ok (.iinc 3 1, 3) := by decide +kernel
theorem dX5_ticks_35 : decode cX5_ticks 35 = .ok (.goto (-18), 3) := by decide +kernel
theorem dX5_ticks_38 : decode cX5_ticks 38 = .ok (.iload_n 2, 1) := by decide +kernel
theorem dX5_ticks_39 : decode cX5_ticks 39 = .ok (.ireturn, 1) := by decide +kernel
theorem dX5_flush_0 : decode cX5_flush 0 = .ok (.aload_n 0, 1) := by decide +kernel
theorem dX5_flush_1 : decode cX5_flush 1 = .ok (.getfield 10, 3) := by decide +kernel
theorem dX5_flush_4 : decode cX5_flush 4 = .ok (.iload_n 1, 1) := by decide +kernel
theorem dX5_flush_5 : decode cX5_flush 5 = .ok (.invokevirtual 52, 3) := by decide +kernel
theorem dX5_flush_8 : decode cX5_flush 8 = .ok (.astore_n 2, 1) := by decide +kernel
theorem dX5_flush_9 : decode cX5_flush 9 = .ok (.aload_n 2, 1) := by decide +kernel
theorem dX5_flush_10 : decode cX5_flush 10 = .ok (.ifnonnull 5, 3) := by decide +kernel
theorem dX5_flush_13 : decode cX5_flush 13 = .ok (.iconst (-1), 1) := by decide +kernel
theorem dX5_flush_14 : decode cX5_flush 14 = .ok (.ireturn, 1) := by decide +kernel
theorem dX5_flush_15 : decode cX5_flush 15 = .ok (.aload_n 0, 1) := by decide +kernel
theorem dX5_flush_16 : decode cX5_flush 16 = .ok (.getfield 10, 3) := by decide +kernel
theorem dX5_flush_19 : decode cX5_flush 19 = .ok (.aload_n 2, 1) := by decide +kernel
theorem dX5_flush_20 : decode cX5_flush 20 = .ok (.invokevirtual 136, 3) := by decide +kernel
theorem dX5_flush_23 : decode cX5_flush 23 = .ok (.ireturn, 1) := by decide +kernel
theorem dX5_traffic_0 : decode cX5_traffic 0 = .ok (.iload_n 1, 1) := by decide +kernel
theorem dX5_traffic_1 : decode cX5_traffic 1 = .ok (.ifCond .lt 22, 3) := by decide +kernel
theorem dX5_traffic_4 : decode cX5_traffic 4 = .ok (.iload_n 2, 1) := by decide +kernel
theorem dX5_traffic_5 : decode cX5_traffic 5 = .ok (.iconst 1, 1) := by decide +kernel
theorem dX5_traffic_6 : decode cX5_traffic 6 = .ok (.bipush 16, 2) := by decide +kernel
theorem dX5_traffic_8 : decode cX5_traffic 8 = .ok (.invokestatic 38, 3) := by decide +kernel
theorem dX5_traffic_11 : decode cX5_traffic 11 = .ok (.ifCond .ne 12, 3) := by decide +kernel
theorem dX5_traffic_14 : decode cX5_traffic 14 = .ok (.iload_n 3, 1) := by decide +kernel
theorem dX5_traffic_15 : decode cX5_traffic 15 = .ok (.iconst 1, 1) := by decide +kernel
theorem dX5_traffic_16 : decode cX5_traffic 16 = .ok (.iconst 3, 1) := by decide +kernel
theorem dX5_traffic_17 : decode cX5_traffic 17 = .ok (.invokestatic 38, 3) := by decide +kernel
theorem dX5_traffic_20 : decode cX5_traffic 20 = .ok (.ifCond .eq 6, 3) := by decide +kernel
theorem dX5_traffic_23 : decode cX5_traffic 23 = .ok (.bipush (-2), 2) := by decide +kernel
theorem dX5_traffic_25 : decode cX5_traffic 25 = .ok (.ireturn, 1) := by decide +kernel
theorem dX5_traffic_26 : decode cX5_traffic 26 = .ok (.iconst 1, 1) := by decide +kernel
theorem dX5_traffic_27 : decode cX5_traffic 27 = .ok (.aload_n 0, 1) := by decide +kernel
theorem dX5_traffic_28 : decode cX5_traffic 28 = .ok (.getfield 10, 3) := by decide +kernel
theorem dX5_traffic_31 : decode cX5_traffic 31 = .ok (.getfield 140, 3) := by decide +kernel
theorem dX5_traffic_34 : decode cX5_traffic 34 = .ok (.invokestatic 143, 3) := by decide +kernel
theorem dX5_traffic_37 : decode cX5_traffic 37 = .ok (.istore 4, 2) := by decide +kernel
theorem dX5_traffic_39 : decode cX5_traffic 39 = .ok (.iload_n 1, 1) := by decide +kernel
theorem dX5_traffic_40 : decode cX5_traffic 40 = .ok (.i2l, 1) := by decide +kernel
theorem dX5_traffic_41 : decode cX5_traffic 41 = .ok (.lstore 5, 2) := by decide +kernel
theorem dX5_traffic_43 : decode cX5_traffic 43 = .ok (.iconst 0, 1) := by decide +kernel
theorem dX5_traffic_44 : decode cX5_traffic 44 = .ok (.istore 7, 2) := by decide +kernel
theorem dX5_traffic_46 : decode cX5_traffic 46 = .ok (.iconst 0, 1) := by decide +kernel
theorem dX5_traffic_47 : decode cX5_traffic 47 = .ok (.istore 8, 2) := by decide +kernel
theorem dX5_traffic_49 : decode cX5_traffic 49 = .ok (.iload 8, 2) := by decide +kernel
theorem dX5_traffic_51 : decode cX5_traffic 51 = .ok (.iload_n 2, 1) := by decide +kernel
theorem dX5_traffic_52 : decode cX5_traffic 52 = .ok (.if_icmp .ge 116, 3) := by decide +kernel
theorem dX5_traffic_55 : decode cX5_traffic 55 = .ok (.iconst 0, 1) := by decide +kernel
theorem dX5_traffic_56 : decode cX5_traffic 56 = .ok (.istore 9, 2) := by decide +kernel
theorem dX5_traffic_58 : decode cX5_traffic 58 = .ok (.iload 9, 2) := by decide +kernel
theorem dX5_traffic_60 : decode cX5_traffic 60 = .ok (.iload_n 3, 1) := by decide +kernel
theorem dX5_traffic_61 : decode cX5_traffic 61 = .ok (.if_icmp .ge 93, 3) := by decide +kernel
theorem dX5_traffic_64 : decode cX5_traffic 64 = .ok (.lload 5, 2) := by decide +kernel
theorem dX5_traffic_66 : decode cX5_traffic 66 = .ok (.ldc2_w 149, 3) := by decide +kernel
theorem dX5_traffic_69 : decode cX5_traffic 69 = .ok (.lmul, 1) := by decide +kernel
theorem dX5_traffic_70 : decode cX5_traffic 70 = .ok (.ldc2_w 151, 3) := by decide +kernel
theorem dX5_traffic_73 : decode cX5_traffic 73 = .ok (.ladd, 1) := by decide +kernel
theorem dX5_traffic_74 : decode cX5_traffic 74 = .ok (.ldc2_w 153, 3) := by decide +kernel
theorem dX5_traffic_77 : decode cX5_traffic 77 = .ok (.lrem, 1) := by decide +kernel
theorem dX5_traffic_78 : decode cX5_traffic 78 = .ok (.lstore 5, 2) := by decide +kernel
theorem dX5_traffic_80 : decode cX5_traffic 80 = .ok (.lload 5, 2) := by decide +kernel
theorem dX5_traffic_82 : decode cX5_traffic 82 = .ok (.ldc2_w 155, 3) := by decide +kernel
theorem dX5_traffic_85 : decode cX5_traffic 85 = .ok (.ldiv, 1) := by decide +kernel
theorem dX5_traffic_86 : decode cX5_traffic 86 = .ok (.l2i, 1) := by decide +kernel
theorem dX5_traffic_87 : decode cX5_traffic 87 = .ok (.istore 10, 2) := by decide +kernel
theorem dX5_traffic_89 : decode cX5_traffic 89 = .ok (.aload_n 0, 1) := by decide +kernel
theorem dX5_traffic_90 : decode cX5_traffic 90 = .ok (.getfield 10, 3) := by decide +kernel
theorem dX5_traffic_93 : decode cX5_traffic 93 = .ok (.iload 10, 2) := by decide +kernel
theorem dX5_traffic_95 : decode cX5_traffic 95 = .ok (.iload 4, 2) := by decide +kernel
theorem dX5_traffic_97 : decode cX5_traffic 97 = .ok (.irem, 1) := by decide +kernel
theorem dX5_traffic_98 : decode cX5_traffic 98 = .ok (.invokevirtual 52, 3) := by decide +kernel
theorem dX5_traffic_101 : decode cX5_traffic 101 = .ok (.astore 11, 2) := by decide +kernel
theorem dX5_traffic_103 : decode cX5_traffic 103 = .ok (.aload_n 0, 1) := by decide +kernel
theorem dX5_traffic_104 : decode cX5_traffic 104 = .ok (.getfield 10, 3) := by decide +kernel
theorem dX5_traffic_107 : decode cX5_traffic 107 = .ok (.iload 10, 2) := by decide +kernel
theorem dX5_traffic_109 : decode cX5_traffic 109 = .ok (.iload 4, 2) := by decide +kernel
theorem dX5_traffic_111 : decode cX5_traffic 111 = .ok (.irem, 1) := by decide +kernel
theorem dX5_traffic_112 : decode cX5_traffic 112 = .ok (.iload 10, 2) := by decide +kernel
theorem dX5_traffic_114 : decode cX5_traffic 114 = .ok (.bipush 8, 2) := by decide +kernel
theorem dX5_traffic_116 : decode cX5_traffic 116 = .ok (.idiv, 1) := by decide +kernel
theorem dX5_traffic_117 : decode cX5_traffic 117 = .ok (.iconst 3, 1) := by decide +kernel
theorem dX5_traffic_118 : decode cX5_traffic 118 = .ok (.irem, 1) := by decide +kernel
theorem dX5_traffic_119 : decode cX5_traffic 119 = .ok (.invokevirtual 74, 3) := by decide +kernel
theorem dX5_traffic_122 : decode cX5_traffic 122 = .ok (.astore 12, 2) := by decide +kernel
theorem dX5_traffic_124 : decode cX5_traffic 124 = .ok (.iload 7, 2) := by decide +kernel
theorem dX5_traffic_126 : decode cX5_traffic 126 = .ok (.aload_n 0, 1) := by decide +kernel
theorem dX5_traffic_127 : decode cX5_traffic 127 = .ok (.aload 11, 2) := by decide +kernel
theorem dX5_traffic_129 : decode cX5_traffic 129 = .ok (.aload 12, 2) := by decide +kernel
theorem dX5_traffic_131 : decode cX5_traffic 131 = .ok (.iload 10, 2) := by decide +kernel
theorem dX5_traffic_133 : decode cX5_traffic 133 = .ok (.bipush 32, 2) := by decide +kernel
theorem dX5_traffic_135 : decode cX5_traffic 135 = .ok (.idiv, 1) := by decide +kernel
theorem dX5_traffic_136 : decode cX5_traffic 136 = .ok (.bipush 12, 2) := by decide +kernel
theorem dX5_traffic_138 : decode cX5_traffic 138 = .ok (.irem, 1) := by decide +kernel
theorem dX5_traffic_139 : decode cX5_traffic 139 = .ok (.iconst 1, 1) := by decide +kernel
theorem dX5_traffic_140 : decode cX5_traffic 140 = .ok (.iadd, 1) := by decide +kernel
theorem dX5_traffic_141 : decode cX5_traffic 141 = .ok (.iconst 1, 1) := by decide +kernel
theorem dX5_traffic_142 : decode cX5_traffic 142 = .ok (.invokevirtual 157, 3) := by decide +kernel
theorem dX5_traffic_145 : decode cX5_traffic 145 = .ok (.iadd, 1) := by decide +kernel
theorem dX5_traffic_146 : decode cX5_traffic 146 = .ok (.istore 7, 2) := by decide +kernel
theorem dX5_traffic_148 : decode cX5_traffic 148 = .ok (.iinc 9 1, 3) := by decide +kernel
theorem dX5_traffic_151 : decode cX5_traffic 151 = .ok (.goto (-93), 3) := by decide +kernel
theorem dX5_traffic_154 : decode cX5_traffic 154 = .ok (.aload_n 0, 1) := by decide +kernel
theorem dX5_traffic_155 : decode cX5_traffic 155 = .ok (.getfield 10, 3) := by decide +kernel
theorem dX5_traffic_158 : decode cX5_traffic 158 = .ok (.invokevirtual 133, 3) := by decide +kernel
theorem dX5_traffic_161 : decode cX5_traffic 161 = .ok (.pop, 1) := by decide +kernel
theorem dX5_traffic_162 : decode cX5_traffic 162 = .ok (.iinc 8 1, 3) := by decide +kernel
theorem dX5_traffic_165 : decode cX5_traffic 165 = .ok (.goto (-116), 3) := by decide +kernel
theorem dX5_traffic_168 : decode cX5_traffic 168 = .ok (.iload 7, 2) := by decide +kernel
theorem dX5_traffic_170 : decode cX5_traffic 170 = .ok (.ireturn, 1) := by decide +kernel
theorem dX5_freeShared_0 : decode cX5_freeShared 0 = .ok (.aload_n 0, 1) := by decide +kernel
theorem dX5_freeShared_1 : decode cX5_freeShared 1 = .ok (.getfield 10, 3) := by decide +kernel
theorem dX5_freeShared_4 : decode cX5_freeShared 4 = .ok (.invokevirtual 61, 3) := by decide +kernel
theorem dX5_freeShared_7 : decode cX5_freeShared 7 = .ok (.ireturn, 1) := by decide +kernel
theorem dX5_sharedPool_0 : decode cX5_sharedPool 0 = .ok (.aload_n 0, 1) := by decide +kernel
theorem dX5_sharedPool_1 : decode cX5_sharedPool 1 = .ok (.getfield 10, 3) := by decide +kernel
theorem dX5_sharedPool_4 : decode cX5_sharedPool 4 = .ok (.invokevirtual 161, 3) := by decide +kernel
theorem dX5_sharedPool_7 : decode cX5_sharedPool 7 = .ok (.ireturn, 1) := by decide +kernel
theorem dX5_freeGuarantee_0 : decode cX5_freeGuarantee 0 = .ok (.aload_n 0, 1) := by decide +kernel
theorem dX5_freeGuarantee_1 : decode cX5_freeGuarantee 1 = .ok (.getfield 10, 3) := by decide +kernel
theorem dX5_freeGuarantee_4 : decode cX5_freeGuarantee 4 = .ok (.iload_n 1, 1) := by decide +kernel
theorem dX5_freeGuarantee_5 : decode cX5_freeGuarantee 5 = .ok (.invokevirtual 52, 3) := by decide +kernel
theorem dX5_freeGuarantee_8 : decode cX5_freeGuarantee 8 = .ok (.astore_n 2, 1) := by decide +kernel
theorem dX5_freeGuarantee_9 : decode cX5_freeGuarantee 9 = .ok (.aload_n 2, 1) := by decide +kernel
theorem dX5_freeGuarantee_10 : decode cX5_freeGuarantee 10 = .ok (.ifnonnull 7, 3) := by decide +kernel
theorem dX5_freeGuarantee_13 : decode cX5_freeGuarantee 13 = .ok (.iconst (-1), 1) := by decide +kernel
theorem dX5_freeGuarantee_14 : decode cX5_freeGuarantee 14 = .ok (.goto 7, 3) := by decide +kernel
theorem dX5_freeGuarantee_17 : decode cX5_freeGuarantee 17 = .ok (.aload_n 2, 1) := by decide +kernel
theorem dX5_freeGuarantee_18 : decode cX5_freeGuarantee 18 = .ok (.invokevirtual 164, 3) := by decide +kernel
theorem dX5_freeGuarantee_21 : decode cX5_freeGuarantee 21 = .ok (.ireturn, 1) := by decide +kernel
theorem dX5_grantOf_0 : decode cX5_grantOf 0 = .ok (.aload_n 0, 1) := by decide +kernel
theorem dX5_grantOf_1 : decode cX5_grantOf 1 = .ok (.getfield 10, 3) := by decide +kernel
theorem dX5_grantOf_4 : decode cX5_grantOf 4 = .ok (.iload_n 1, 1) := by decide +kernel
theorem dX5_grantOf_5 : decode cX5_grantOf 5 = .ok (.invokevirtual 52, 3) := by decide +kernel
theorem dX5_grantOf_8 : decode cX5_grantOf 8 = .ok (.astore_n 2, 1) := by decide +kernel
theorem dX5_grantOf_9 : decode cX5_grantOf 9 = .ok (.aload_n 2, 1) := by decide +kernel
theorem dX5_grantOf_10 : decode cX5_grantOf 10 = .ok (.ifnonnull 7, 3) := by decide +kernel
theorem dX5_grantOf_13 : decode cX5_grantOf 13 = .ok (.iconst (-1), 1) := by decide +kernel
theorem dX5_grantOf_14 : decode cX5_grantOf 14 = .ok (.goto 7, 3) := by decide +kernel
theorem dX5_grantOf_17 : decode cX5_grantOf 17 = .ok (.aload_n 2, 1) := by decide +kernel
theorem dX5_grantOf_18 : decode cX5_grantOf 18 = .ok (.getfield 122, 3) := by decide +kernel
theorem dX5_grantOf_21 : decode cX5_grantOf 21 = .ok (.ireturn, 1) := by decide +kernel
theorem dX5_threshold_0 : decode cX5_threshold 0 = .ok (.aload_n 0, 1) := by decide +kernel
theorem dX5_threshold_1 : decode cX5_threshold 1 = .ok (.getfield 10, 3) := by decide +kernel
theorem dX5_threshold_4 : decode cX5_threshold 4 = .ok (.iload_n 1, 1) := by decide +kernel
theorem dX5_threshold_5 : decode cX5_threshold 5 = .ok (.iload_n 2, 1) := by decide +kernel
theorem dX5_threshold_6 : decode cX5_threshold 6 = .ok (.invokevirtual 74, 3) := by decide +kernel
theorem dX5_threshold_9 : decode cX5_threshold 9 = .ok (.astore_n 3, 1) := by decide +kernel
theorem dX5_threshold_10 : decode cX5_threshold 10 = .ok (.aload_n 3, 1) := by decide +kernel
theorem dX5_threshold_11 : decode cX5_threshold 11 = .ok (.ifnonnull 7, 3) := by decide +kernel
theorem dX5_threshold_14 : decode cX5_threshold 14 = .ok (.iconst (-1), 1) := by decide +kernel
theorem dX5_threshold_15 : decode cX5_threshold 15 = .ok (.goto 14, 3) := by decide +kernel
theorem dX5_threshold_18 : decode cX5_threshold 18 = .ok (.aload_n 3, 1) := by decide +kernel
theorem dX5_threshold_19 : decode cX5_threshold 19 = .ok (.aload_n 0, 1) := by decide +kernel
theorem dX5_threshold_20 : decode cX5_threshold 20 = .ok (.getfield 10, 3) := by decide +kernel
theorem dX5_threshold_23 : decode cX5_threshold 23 = .ok (.invokevirtual 61, 3) := by decide +kernel
theorem dX5_threshold_26 : decode cX5_threshold 26 = .ok (.invokevirtual 167, 3) := by decide +kernel
theorem dX5_threshold_29 : decode cX5_threshold 29 = .ok (.ireturn, 1) := by decide +kernel
theorem dX5_guaranteedCells_0 : decode cX5_guaranteedCells 0 = .ok (.aload_n 0, 1) := by decide +kernel
theorem dX5_guaranteedCells_1 : decode cX5_guaranteedCells 1 = .ok (.getfield 10, 3) := by decide +kernel
theorem dX5_guaranteedCells_4 : decode cX5_guaranteedCells 4 = .ok (.iload_n 1, 1) := by decide +kernel
theorem dX5_guaranteedCells_5 : decode cX5_guaranteedCells 5 = .ok (.iload_n 2, 1) := by decide +kernel
theorem dX5_guaranteedCells_6 : decode cX5_guaranteedCells 6 = .ok (.invokevirtual 74, 3) := by decide +kernel
theorem dX5_guaranteedCells_9 : decode cX5_guaranteedCells 9 = .ok (.astore_n 3, 1) := by decide +kernel
theorem dX5_guaranteedCells_10 : decode cX5_guaranteedCells 10 = .ok (.aload_n 3, 1) := by decide +kernel
theorem dX5_guaranteedCells_11 : decode cX5_guaranteedCells 11 = .ok (.ifnonnull 7, 3) := by decide +kernel
theorem dX5_guaranteedCells_14 : decode cX5_guaranteedCells 14 = .ok (.iconst (-1), 1) := by decide +kernel
theorem dX5_guaranteedCells_15 : decode cX5_guaranteedCells 15 = .ok (.goto 7, 3) := by decide +kernel
theorem dX5_guaranteedCells_18 : decode cX5_guaranteedCells 18 = .ok (.aload_n 3, 1) := by decide +kernel
theorem dX5_guaranteedCells_19 : decode cX5_guaranteedCells 19 = .ok (.getfield 171, 3) := by decide +kernel
theorem dX5_guaranteedCells_22 : decode cX5_guaranteedCells 22 = .ok (.ireturn, 1) := by decide +kernel
theorem dX5_sharedCells_0 : decode cX5_sharedCells 0 = .ok (.aload_n 0, 1) := by decide +kernel
theorem dX5_sharedCells_1 : decode cX5_sharedCells 1 = .ok (.getfield 10, 3) := by decide +kernel
theorem dX5_sharedCells_4 : decode cX5_sharedCells 4 = .ok (.iload_n 1, 1) := by decide +kernel
theorem dX5_sharedCells_5 : decode cX5_sharedCells 5 = .ok (.iload_n 2, 1) := by decide +kernel
theorem dX5_sharedCells_6 : decode cX5_sharedCells 6 = .ok (.invokevirtual 74, 3) := by decide +kernel
theorem dX5_sharedCells_9 : decode cX5_sharedCells 9 = .ok (.astore_n 3, 1) := by decide +kernel
theorem dX5_sharedCells_10 : decode cX5_sharedCells 10 = .ok (.aload_n 3, 1) := by decide +kernel
theorem dX5_sharedCells_11 : decode cX5_sharedCells 11 = .ok (.ifnonnull 7, 3) := by decide +kernel
theorem dX5_sharedCells_14 : decode cX5_sharedCells 14 = .ok (.iconst (-1), 1) := by decide +kernel
theorem dX5_sharedCells_15 : decode cX5_sharedCells 15 = .ok (.goto 7, 3) := by decide +kernel
theorem dX5_sharedCells_18 : decode cX5_sharedCells 18 = .ok (.aload_n 3, 1) := by decide +kernel
theorem dX5_sharedCells_19 : decode cX5_sharedCells 19 = .ok (.getfield 174, 3) := by decide +kernel
theorem dX5_sharedCells_22 : decode cX5_sharedCells 22 = .ok (.ireturn, 1) := by decide +kernel
theorem dX5_headroomCells_0 : decode cX5_headroomCells 0 = .ok (.aload_n 0, 1) := by decide +kernel
theorem dX5_headroomCells_1 : decode cX5_headroomCells 1 = .ok (.getfield 10, 3) := by decide +kernel
theorem dX5_headroomCells_4 : decode cX5_headroomCells 4 = .ok (.iload_n 1, 1) := by decide +kernel
theorem dX5_headroomCells_5 : decode cX5_headroomCells 5 = .ok (.iload_n 2, 1) := by decide +kernel
theorem dX5_headroomCells_6 : decode cX5_headroomCells 6 = .ok (.invokevirtual 74, 3) := by decide +kernel
theorem dX5_headroomCells_9 : decode cX5_headroomCells 9 = .ok (.astore_n 3, 1) := by decide +kernel
theorem dX5_headroomCells_10 : decode cX5_headroomCells 10 = .ok (.aload_n 3, 1) := by decide +kernel
theorem dX5_headroomCells_11 : decode cX5_headroomCells 11 = .ok (.ifnonnull 7, 3) := by decide +kernel
theorem dX5_headroomCells_14 : decode cX5_headroomCells 14 = .ok (.iconst (-1), 1) := by decide +kernel
theorem dX5_headroomCells_15 : decode cX5_headroomCells 15 = .ok (.goto 7, 3) := by decide +kernel
theorem dX5_headroomCells_18 : decode cX5_headroomCells 18 = .ok (.aload_n 3, 1) := by decide +kernel
theorem dX5_headroomCells_19 : decode cX5_headroomCells 19 = .ok (.getfield 92, 3) := by decide +kernel
theorem dX5_headroomCells_22 : decode cX5_headroomCells 22 = .ok (.ireturn, 1) := by decide +kernel
theorem dX5_burstTank_0 : decode cX5_burstTank 0 = .ok (.aload_n 0, 1) := by decide +kernel
theorem dX5_burstTank_1 : decode cX5_burstTank 1 = .ok (.getfield 10, 3) := by decide +kernel
theorem dX5_burstTank_4 : decode cX5_burstTank 4 = .ok (.iload_n 1, 1) := by decide +kernel
theorem dX5_burstTank_5 : decode cX5_burstTank 5 = .ok (.iload_n 2, 1) := by decide +kernel
theorem dX5_burstTank_6 : decode cX5_burstTank 6 = .ok (.invokevirtual 74, 3) := by decide +kernel
theorem dX5_burstTank_9 : decode cX5_burstTank 9 = .ok (.astore_n 3, 1) := by decide +kernel
theorem dX5_burstTank_10 : decode cX5_burstTank 10 = .ok (.aload_n 3, 1) := by decide +kernel
theorem dX5_burstTank_11 : decode cX5_burstTank 11 = .ok (.ifnonnull 7, 3) := by decide +kernel
theorem dX5_burstTank_14 : decode cX5_burstTank 14 = .ok (.iconst (-1), 1) := by decide +kernel
theorem dX5_burstTank_15 : decode cX5_burstTank 15 = .ok (.goto 7, 3) := by decide +kernel
theorem dX5_burstTank_18 : decode cX5_burstTank 18 = .ok (.aload_n 3, 1) := by decide +kernel
theorem dX5_burstTank_19 : decode cX5_burstTank 19 = .ok (.getfield 83, 3) := by decide +kernel
theorem dX5_burstTank_22 : decode cX5_burstTank 22 = .ok (.ireturn, 1) := by decide +kernel
theorem dX5_isPaused_0 : decode cX5_isPaused 0 = .ok (.aload_n 0, 1) := by decide +kernel
theorem dX5_isPaused_1 : decode cX5_isPaused 1 = .ok (.getfield 10, 3) := by decide +kernel
theorem dX5_isPaused_4 : decode cX5_isPaused 4 = .ok (.iload_n 1, 1) := by decide +kernel
theorem dX5_isPaused_5 : decode cX5_isPaused 5 = .ok (.iload_n 2, 1) := by decide +kernel
theorem dX5_isPaused_6 : decode cX5_isPaused 6 = .ok (.invokevirtual 74, 3) := by decide +kernel
theorem dX5_isPaused_9 : decode cX5_isPaused 9 = .ok (.astore_n 3, 1) := by decide +kernel
theorem dX5_isPaused_10 : decode cX5_isPaused 10 = .ok (.aload_n 3, 1) := by decide +kernel
theorem dX5_isPaused_11 : decode cX5_isPaused 11 = .ok (.ifnonnull 7, 3) := by decide +kernel
theorem dX5_isPaused_14 : decode cX5_isPaused 14 = .ok (.iconst (-1), 1) := by decide +kernel
theorem dX5_isPaused_15 : decode cX5_isPaused 15 = .ok (.goto 10, 3) := by decide +kernel
theorem dX5_isPaused_18 : decode cX5_isPaused 18 = .ok (.aload_n 3, 1) := by decide +kernel
theorem dX5_isPaused_19 : decode cX5_isPaused 19 = .ok (.getfield 103, 3) := by decide +kernel
theorem dX5_isPaused_22 : decode cX5_isPaused 22 = .ok (.invokestatic 99, 3) := by decide +kernel
theorem dX5_isPaused_25 : decode cX5_isPaused 25 = .ok (.ireturn, 1) := by decide +kernel
theorem dX5_pauses_0 : decode cX5_pauses 0 = .ok (.aload_n 0, 1) := by decide +kernel
theorem dX5_pauses_1 : decode cX5_pauses 1 = .ok (.getfield 10, 3) := by decide +kernel
theorem dX5_pauses_4 : decode cX5_pauses 4 = .ok (.iload_n 1, 1) := by decide +kernel
theorem dX5_pauses_5 : decode cX5_pauses 5 = .ok (.iload_n 2, 1) := by decide +kernel
theorem dX5_pauses_6 : decode cX5_pauses 6 = .ok (.invokevirtual 74, 3) := by decide +kernel
theorem dX5_pauses_9 : decode cX5_pauses 9 = .ok (.astore_n 3, 1) := by decide +kernel
theorem dX5_pauses_10 : decode cX5_pauses 10 = .ok (.aload_n 3, 1) := by decide +kernel
theorem dX5_pauses_11 : decode cX5_pauses 11 = .ok (.ifnonnull 7, 3) := by decide +kernel
theorem dX5_pauses_14 : decode cX5_pauses 14 = .ok (.iconst (-1), 1) := by decide +kernel
theorem dX5_pauses_15 : decode cX5_pauses 15 = .ok (.goto 7, 3) := by decide +kernel
theorem dX5_pauses_18 : decode cX5_pauses 18 = .ok (.aload_n 3, 1) := by decide +kernel
theorem dX5_pauses_19 : decode cX5_pauses 19 = .ok (.getfield 177, 3) := by decide +kernel
theorem dX5_pauses_22 : decode cX5_pauses 22 = .ok (.ireturn, 1) := by decide +kernel
theorem dX5_credit_0 : decode cX5_credit 0 = .ok (.aload_n 0, 1) := by decide +kernel
theorem dX5_credit_1 : decode cX5_credit 1 = .ok (.getfield 10, 3) := by decide +kernel
theorem dX5_credit_4 : decode cX5_credit 4 = .ok (.iload_n 1, 1) := by decide +kernel
theorem dX5_credit_5 : decode cX5_credit 5 = .ok (.invokevirtual 52, 3) := by decide +kernel
theorem dX5_credit_8 : decode cX5_credit 8 = .ok (.astore_n 2, 1) := by decide +kernel
theorem dX5_credit_9 : decode cX5_credit 9 = .ok (.aload_n 2, 1) := by decide +kernel
theorem dX5_credit_10 : decode cX5_credit 10 = .ok (.ifnonnull 7, 3) := by decide +kernel
theorem dX5_credit_13 : decode cX5_credit 13 = .ok (.iconst (-1), 1) := by decide +kernel
theorem dX5_credit_14 : decode cX5_credit 14 = .ok (.goto 7, 3) := by decide +kernel
theorem dX5_credit_17 : decode cX5_credit 17 = .ok (.aload_n 2, 1) := by decide +kernel
theorem dX5_credit_18 : decode cX5_credit 18 = .ok (.getfield 180, 3) := by decide +kernel
theorem dX5_credit_21 : decode cX5_credit 21 = .ok (.ireturn, 1) := by decide +kernel
theorem dX5_deficit_0 : decode cX5_deficit 0 = .ok (.aload_n 0, 1) := by decide +kernel
theorem dX5_deficit_1 : decode cX5_deficit 1 = .ok (.getfield 10, 3) := by decide +kernel
theorem dX5_deficit_4 : decode cX5_deficit 4 = .ok (.iload_n 1, 1) := by decide +kernel
theorem dX5_deficit_5 : decode cX5_deficit 5 = .ok (.iload_n 2, 1) := by decide +kernel
theorem dX5_deficit_6 : decode cX5_deficit 6 = .ok (.invokevirtual 74, 3) := by decide +kernel
theorem dX5_deficit_9 : decode cX5_deficit 9 = .ok (.astore_n 3, 1) := by decide +kernel
theorem dX5_deficit_10 : decode cX5_deficit 10 = .ok (.aload_n 3, 1) := by decide +kernel
theorem dX5_deficit_11 : decode cX5_deficit 11 = .ok (.ifnonnull 7, 3) := by decide +kernel
theorem dX5_deficit_14 : decode cX5_deficit 14 = .ok (.iconst (-1), 1) := by decide +kernel
theorem dX5_deficit_15 : decode cX5_deficit 15 = .ok (.goto 7, 3) := by decide +kernel
theorem dX5_deficit_18 : decode cX5_deficit 18 = .ok (.aload_n 3, 1) := by decide +kernel
theorem dX5_deficit_19 : decode cX5_deficit 19 = .ok (.getfield 183, 3) := by decide +kernel
theorem dX5_deficit_22 : decode cX5_deficit 22 = .ok (.ireturn, 1) := by decide +kernel
theorem dX5_losses_0 : decode cX5_losses 0 = .ok (.aload_n 0, 1) := by decide +kernel
theorem dX5_losses_1 : decode cX5_losses 1 = .ok (.getfield 10, 3) := by decide +kernel
theorem dX5_losses_4 : decode cX5_losses 4 = .ok (.iload_n 1, 1) := by decide +kernel
theorem dX5_losses_5 : decode cX5_losses 5 = .ok (.invokevirtual 52, 3) := by decide +kernel
theorem dX5_losses_8 : decode cX5_losses 8 = .ok (.astore_n 3, 1) := by decide +kernel
theorem dX5_losses_9 : decode cX5_losses 9 = .ok (.aload_n 3, 1) := by decide +kernel
theorem dX5_losses_10 : decode cX5_losses 10 = .ok (.ifnonnull 5, 3) := by decide +kernel
theorem dX5_losses_13 : decode cX5_losses 13 = .ok (.iconst (-1), 1) := by decide +kernel
theorem dX5_losses_14 : decode cX5_losses 14 = .ok (.ireturn, 1) := by decide +kernel
theorem dX5_losses_15 : decode cX5_losses 15 = .ok (.iload_n 2, 1) := by decide +kernel
theorem dX5_losses_16 : decode cX5_losses 16 = .ok (.tableswitch 55 2 9 #[48, 48, 55, 48, 55, 55, 48, 48], 48) := by decide +kernel
theorem dX5_losses_64 : decode cX5_losses 64 = .ok (.aload_n 3, 1) := by decide +kernel
theorem dX5_losses_65 : decode cX5_losses 65 = .ok (.getfield 186, 3) := by decide +kernel
theorem dX5_losses_68 : decode cX5_losses 68 = .ok (.iload_n 2, 1) := by decide +kernel
theorem dX5_losses_69 : decode cX5_losses 69 = .ok (.iaload, 1) := by decide +kernel
theorem dX5_losses_70 : decode cX5_losses 70 = .ok (.ireturn, 1) := by decide +kernel
theorem dX5_losses_71 : decode cX5_losses 71 = .ok (.bipush (-2), 2) := by decide +kernel
theorem dX5_losses_73 : decode cX5_losses 73 = .ok (.ireturn, 1) := by decide +kernel
theorem dX5_lostCells_0 : decode cX5_lostCells 0 = .ok (.aload_n 0, 1) := by decide +kernel
theorem dX5_lostCells_1 : decode cX5_lostCells 1 = .ok (.getfield 10, 3) := by decide +kernel
theorem dX5_lostCells_4 : decode cX5_lostCells 4 = .ok (.iload_n 1, 1) := by decide +kernel
theorem dX5_lostCells_5 : decode cX5_lostCells 5 = .ok (.invokevirtual 52, 3) := by decide +kernel
theorem dX5_lostCells_8 : decode cX5_lostCells 8 = .ok (.astore_n 2, 1) := by decide +kernel
theorem dX5_lostCells_9 : decode cX5_lostCells 9 = .ok (.aload_n 2, 1) := by decide +kernel
theorem dX5_lostCells_10 : decode cX5_lostCells 10 = .ok (.ifnonnull 7, 3) := by decide +kernel
theorem dX5_lostCells_13 : decode cX5_lostCells 13 = .ok (.iconst (-1), 1) := by decide +kernel
theorem dX5_lostCells_14 : decode cX5_lostCells 14 = .ok (.goto 7, 3) := by decide +kernel
theorem dX5_lostCells_17 : decode cX5_lostCells 17 = .ok (.aload_n 2, 1) := by decide +kernel
theorem dX5_lostCells_18 : decode cX5_lostCells 18 = .ok (.getfield 190, 3) := by decide +kernel
theorem dX5_lostCells_21 : decode cX5_lostCells 21 = .ok (.ireturn, 1) := by decide +kernel
theorem dX5_lossCause_0 : decode cX5_lossCause 0 = .ok (.iload_n 1, 1) := by decide +kernel
theorem dX5_lossCause_1 : decode cX5_lossCause 1 = .ok (.iconst 0, 1) := by decide +kernel
theorem dX5_lossCause_2 : decode cX5_lossCause 2 = .ok (.iconst 3, 1) := by decide +kernel
theorem dX5_lossCause_3 : decode cX5_lossCause 3 = .ok (.invokestatic 38, 3) := by decide +kernel
theorem dX5_lossCause_6 : decode cX5_lossCause 6 = .ok (.ifCond .eq 5, 3) := by decide +kernel
theorem dX5_lossCause_9 : decode cX5_lossCause 9 = .ok (.iconst (-1), 1) := by decide +kernel
theorem dX5_lossCause_10 : decode cX5_lossCause 10 = .ok (.ireturn, 1) := by decide +kernel
theorem dX5_lossCause_11 : decode cX5_lossCause 11 = .ok (.aload_n 0, 1) := by decide +kernel
theorem dX5_lossCause_12 : decode cX5_lossCause 12 = .ok (.getfield 10, 3) := by decide +kernel
theorem dX5_lossCause_15 : decode cX5_lossCause 15 = .ok (.getfield 193, 3) := by decide +kernel
theorem dX5_lossCause_18 : decode cX5_lossCause 18 = .ok (.ifCond .eq 17, 3) := by decide +kernel
theorem dX5_lossCause_21 : decode cX5_lossCause 21 = .ok (.aload_n 0, 1) := by decide +kernel
theorem dX5_lossCause_22 : decode cX5_lossCause 22 = .ok (.getfield 10, 3) := by decide +kernel
theorem dX5_lossCause_25 : decode cX5_lossCause 25 = .ok (.getfield 196, 3) := by decide +kernel
theorem dX5_lossCause_28 : decode cX5_lossCause 28 = .ok (.iconst 3, 1) := by decide +kernel
theorem dX5_lossCause_29 : decode cX5_lossCause 29 = .ok (.iload_n 1, 1) := by decide +kernel
theorem dX5_lossCause_30 : decode cX5_lossCause 30 = .ok (.isub, 1) := by decide +kernel
theorem dX5_lossCause_31 : decode cX5_lossCause 31 = .ok (.iaload, 1) := by decide +kernel
theorem dX5_lossCause_32 : decode cX5_lossCause 32 = .ok (.goto 5, 3) := by decide +kernel
theorem dX5_lossCause_35 : decode cX5_lossCause 35 = .ok (.bipush (-5), 2) := by decide +kernel
theorem dX5_lossCause_37 : decode cX5_lossCause 37 = .ok (.ireturn, 1) := by decide +kernel
theorem dX5_departed_0 : decode cX5_departed 0 = .ok (.aload_n 0, 1) := by decide +kernel
theorem dX5_departed_1 : decode cX5_departed 1 = .ok (.getfield 10, 3) := by decide +kernel
theorem dX5_departed_4 : decode cX5_departed 4 = .ok (.iload_n 1, 1) := by decide +kernel
theorem dX5_departed_5 : decode cX5_departed 5 = .ok (.invokevirtual 52, 3) := by decide +kernel
theorem dX5_departed_8 : decode cX5_departed 8 = .ok (.astore_n 2, 1) := by decide +kernel
theorem dX5_departed_9 : decode cX5_departed 9 = .ok (.aload_n 2, 1) := by decide +kernel
theorem dX5_departed_10 : decode cX5_departed 10 = .ok (.ifnonnull 7, 3) := by decide +kernel
theorem dX5_departed_13 : decode cX5_departed 13 = .ok (.iconst (-1), 1) := by decide +kernel
theorem dX5_departed_14 : decode cX5_departed 14 = .ok (.goto 7, 3) := by decide +kernel
theorem dX5_departed_17 : decode cX5_departed 17 = .ok (.aload_n 2, 1) := by decide +kernel
theorem dX5_departed_18 : decode cX5_departed 18 = .ok (.getfield 199, 3) := by decide +kernel
theorem dX5_departed_21 : decode cX5_departed 21 = .ok (.ireturn, 1) := by decide +kernel
theorem dX5_admitted_0 : decode cX5_admitted 0 = .ok (.aload_n 0, 1) := by decide +kernel
theorem dX5_admitted_1 : decode cX5_admitted 1 = .ok (.getfield 10, 3) := by decide +kernel
theorem dX5_admitted_4 : decode cX5_admitted 4 = .ok (.getfield 202, 3) := by decide +kernel
theorem dX5_admitted_7 : decode cX5_admitted 7 = .ok (.ireturn, 1) := by decide +kernel
theorem dX5_time_0 : decode cX5_time 0 = .ok (.aload_n 0, 1) := by decide +kernel
theorem dX5_time_1 : decode cX5_time 1 = .ok (.getfield 10, 3) := by decide +kernel
theorem dX5_time_4 : decode cX5_time 4 = .ok (.getfield 205, 3) := by decide +kernel
theorem dX5_time_7 : decode cX5_time 7 = .ok (.ireturn, 1) := by decide +kernel
theorem dX5_queueLength_0 : decode cX5_queueLength 0 = .ok (.aload_n 0, 1) := by decide +kernel
theorem dX5_queueLength_1 : decode cX5_queueLength 1 = .ok (.getfield 10, 3) := by decide +kernel
theorem dX5_queueLength_4 : decode cX5_queueLength 4 = .ok (.iload_n 1, 1) := by decide +kernel
theorem dX5_queueLength_5 : decode cX5_queueLength 5 = .ok (.iload_n 2, 1) := by decide +kernel
theorem dX5_queueLength_6 : decode cX5_queueLength 6 = .ok (.invokevirtual 74, 3) := by decide +kernel
theorem dX5_queueLength_9 : decode cX5_queueLength 9 = .ok (.astore_n 3, 1) := by decide +kernel
theorem dX5_queueLength_10 : decode cX5_queueLength 10 = .ok (.aload_n 3, 1) := by decide +kernel
theorem dX5_queueLength_11 : decode cX5_queueLength 11 = .ok (.ifnonnull 7, 3) := by decide +kernel
theorem dX5_queueLength_14 : decode cX5_queueLength 14 = .ok (.iconst (-1), 1) := by decide +kernel
theorem dX5_queueLength_15 : decode cX5_queueLength 15 = .ok (.goto 7, 3) := by decide +kernel
theorem dX5_queueLength_18 : decode cX5_queueLength 18 = .ok (.aload_n 3, 1) := by decide +kernel
theorem dX5_queueLength_19 : decode cX5_queueLength 19 = .ok (.getfield 208, 3) := by decide +kernel
theorem dX5_queueLength_22 : decode cX5_queueLength 22 = .ok (.ireturn, 1) := by decide +kernel
theorem dX5_packetAt_0 : decode cX5_packetAt 0 = .ok (.aload_n 0, 1) := by decide +kernel
theorem dX5_packetAt_1 : decode cX5_packetAt 1 = .ok (.getfield 10, 3) := by decide +kernel
theorem dX5_packetAt_4 : decode cX5_packetAt 4 = .ok (.iload_n 1, 1) := by decide +kernel
theorem dX5_packetAt_5 : decode cX5_packetAt 5 = .ok (.iload_n 2, 1) := by decide +kernel
theorem dX5_packetAt_6 : decode cX5_packetAt 6 = .ok (.invokevirtual 74, 3) := by decide +kernel
theorem dX5_packetAt_9 : decode cX5_packetAt 9 = .ok (.astore 4, 2) := by decide +kernel
theorem dX5_packetAt_11 : decode cX5_packetAt 11 = .ok (.aload 4, 2) := by decide +kernel
theorem dX5_packetAt_13 : decode cX5_packetAt 13 = .ok (.ifnull 18, 3) := by decide +kernel
theorem dX5_packetAt_16 : decode cX5_packetAt 16 = .ok (.iload_n 3, 1) := by decide +kernel
theorem dX5_packetAt_17 : decode cX5_packetAt 17 = .ok (.iconst 0, 1) := by decide +kernel
theorem dX5_packetAt_18 : decode cX5_packetAt 18 = .ok (.aload 4, 2) := by decide +kernel
theorem dX5_packetAt_20 : decode cX5_packetAt 20 = .ok (.getfield 208, 3) := by decide +kernel
theorem dX5_packetAt_23 : decode cX5_packetAt 23 = .ok (.iconst 1, 1) := by decide +kernel
theorem dX5_packetAt_24 : decode cX5_packetAt 24 = .ok (.isub, 1) := by decide +kernel
theorem dX5_packetAt_25 : decode cX5_packetAt 25 = .ok (.invokestatic 38, 3) := by decide +kernel
theorem dX5_packetAt_28 : decode cX5_packetAt 28 = .ok (.ifCond .eq 5, 3) := by decide +kernel
theorem dX5_packetAt_31 : decode cX5_packetAt 31 = .ok (.iconst (-1), 1) := by decide +kernel
theorem dX5_packetAt_32 : decode cX5_packetAt 32 = .ok (.ireturn, 1) := by decide +kernel
theorem dX5_packetAt_33 : decode cX5_packetAt 33 = .ok (.aload 4, 2) := by decide +kernel
theorem dX5_packetAt_35 : decode cX5_packetAt 35 = .ok (.getfield 211, 3) := by decide +kernel
theorem dX5_packetAt_38 : decode cX5_packetAt 38 = .ok (.istore 5, 2) := by decide +kernel
theorem dX5_packetAt_40 : decode cX5_packetAt 40 = .ok (.iconst 0, 1) := by decide +kernel
theorem dX5_packetAt_41 : decode cX5_packetAt 41 = .ok (.istore 6, 2) := by decide +kernel
theorem dX5_packetAt_43 : decode cX5_packetAt 43 = .ok (.iload 6, 2) := by decide +kernel
theorem dX5_packetAt_45 : decode cX5_packetAt 45 = .ok (.iload_n 3, 1) := by decide +kernel
theorem dX5_packetAt_46 : decode cX5_packetAt 46 = .ok (.if_icmp .ge 23, 3) := by decide +kernel
theorem dX5_packetAt_49 : decode cX5_packetAt 49 = .ok (.aload_n 0, 1) := by decide +kernel
theorem dX5_packetAt_50 : decode cX5_packetAt 50 = .ok (.getfield 10, 3) := by decide +kernel
theorem dX5_packetAt_53 : decode cX5_packetAt 53 = .ok (.getfield 42, 3) := by decide +kernel
theorem dX5_packetAt_56 : decode cX5_packetAt 56 = .ok (.iload 5, 2) := by decide +kernel
theorem dX5_packetAt_58 : decode cX5_packetAt 58 = .ok (.invokevirtual 214, 3) := by decide +kernel
theorem dX5_packetAt_61 : decode cX5_packetAt 61 = .ok (.istore 5, 2) := by decide +kernel
theorem dX5_packetAt_63 : decode cX5_packetAt 63 = .ok (.iinc 6 1, 3) := by decide +kernel
theorem dX5_packetAt_66 : decode cX5_packetAt 66 = .ok (.goto (-23), 3) := by decide +kernel
theorem dX5_packetAt_69 : decode cX5_packetAt 69 = .ok (.aload_n 0, 1) := by decide +kernel
theorem dX5_packetAt_70 : decode cX5_packetAt 70 = .ok (.getfield 10, 3) := by decide +kernel
theorem dX5_packetAt_73 : decode cX5_packetAt 73 = .ok (.getfield 42, 3) := by decide +kernel
theorem dX5_packetAt_76 : decode cX5_packetAt 76 = .ok (.iload 5, 2) := by decide +kernel
theorem dX5_packetAt_78 : decode cX5_packetAt 78 = .ok (.invokevirtual 217, 3) := by decide +kernel
theorem dX5_packetAt_81 : decode cX5_packetAt 81 = .ok (.ireturn, 1) := by decide +kernel
theorem dX5_fragments_0 : decode cX5_fragments 0 = .ok (.aload_n 0, 1) := by decide +kernel
theorem dX5_fragments_1 : decode cX5_fragments 1 = .ok (.getfield 10, 3) := by decide +kernel
theorem dX5_fragments_4 : decode cX5_fragments 4 = .ok (.getfield 42, 3) := by decide +kernel
theorem dX5_fragments_7 : decode cX5_fragments 7 = .ok (.iload_n 1, 1) := by decide +kernel
theorem dX5_fragments_8 : decode cX5_fragments 8 = .ok (.invokevirtual 220, 3) := by decide +kernel
theorem dX5_fragments_11 : decode cX5_fragments 11 = .ok (.istore_n 2, 1) := by decide +kernel
theorem dX5_fragments_12 : decode cX5_fragments 12 = .ok (.iload_n 2, 1) := by decide +kernel
theorem dX5_fragments_13 : decode cX5_fragments 13 = .ok (.iconst (-1), 1) := by decide +kernel
theorem dX5_fragments_14 : decode cX5_fragments 14 = .ok (.if_icmp .ne 7, 3) := by decide +kernel
theorem dX5_fragments_17 : decode cX5_fragments 17 = .ok (.iconst (-1), 1) := by decide +kernel
theorem dX5_fragments_18 : decode cX5_fragments 18 = .ok (.goto 14, 3) := by decide +kernel
theorem dX5_fragments_21 : decode cX5_fragments 21 = .ok (.aload_n 0, 1) := by decide +kernel
theorem dX5_fragments_22 : decode cX5_fragments 22 = .ok (.getfield 10, 3) := by decide +kernel
theorem dX5_fragments_25 : decode cX5_fragments 25 = .ok (.getfield 42, 3) := by decide +kernel
theorem dX5_fragments_28 : decode cX5_fragments 28 = .ok (.iload_n 2, 1) := by decide +kernel
theorem dX5_fragments_29 : decode cX5_fragments 29 = .ok (.invokevirtual 223, 3) := by decide +kernel
theorem dX5_fragments_32 : decode cX5_fragments 32 = .ok (.ireturn, 1) := by decide +kernel
theorem dX5_fragmentStart_0 : decode cX5_fragmentStart 0 = .ok (.aload_n 0, 1) := by decide +kernel
theorem dX5_fragmentStart_1 : decode cX5_fragmentStart 1 = .ok (.getfield 10, 3) := by decide +kernel
theorem dX5_fragmentStart_4 : decode cX5_fragmentStart 4 = .ok (.getfield 42, 3) := by decide +kernel
theorem dX5_fragmentStart_7 : decode cX5_fragmentStart 7 = .ok (.aload_n 0, 1) := by decide +kernel
theorem dX5_fragmentStart_8 : decode cX5_fragmentStart 8 = .ok (.getfield 10, 3) := by decide +kernel
theorem dX5_fragmentStart_11 : decode cX5_fragmentStart 11 = .ok (.getfield 42, 3) := by decide +kernel
theorem dX5_fragmentStart_14 : decode cX5_fragmentStart 14 = .ok (.iload_n 1, 1) := by decide +kernel
theorem dX5_fragmentStart_15 : decode cX5_fragmentStart 15 = .ok (.invokevirtual 220, 3) := by decide +kernel
theorem dX5_fragmentStart_18 : decode cX5_fragmentStart 18 = .ok (.iload_n 2, 1) := by decide +kernel
theorem dX5_fragmentStart_19 : decode cX5_fragmentStart 19 = .ok (.invokevirtual 226, 3) := by decide +kernel
theorem dX5_fragmentStart_22 : decode cX5_fragmentStart 22 = .ok (.istore_n 3, 1) := by decide +kernel
theorem dX5_fragmentStart_23 : decode cX5_fragmentStart 23 = .ok (.iload_n 3, 1) := by decide +kernel
theorem dX5_fragmentStart_24 : decode cX5_fragmentStart 24 = .ok (.iconst (-1), 1) := by decide +kernel
theorem dX5_fragmentStart_25 : decode cX5_fragmentStart 25 = .ok (.if_icmp .ne 7, 3) := by decide +kernel
theorem dX5_fragmentStart_28 : decode cX5_fragmentStart 28 = .ok (.iconst (-1), 1) := by decide +kernel
theorem dX5_fragmentStart_29 : decode cX5_fragmentStart 29 = .ok (.goto 4, 3) := by decide +kernel
theorem dX5_fragmentStart_32 : decode cX5_fragmentStart 32 = .ok (.iload_n 3, 1) := by decide +kernel
theorem dX5_fragmentStart_33 : decode cX5_fragmentStart 33 = .ok (.ireturn, 1) := by decide +kernel
theorem dX5_fragmentLength_0 : decode cX5_fragmentLength 0 = .ok (.aload_n 0, 1) := by decide +kernel
theorem dX5_fragmentLength_1 : decode cX5_fragmentLength 1 = .ok (.getfield 10, 3) := by decide +kernel
theorem dX5_fragmentLength_4 : decode cX5_fragmentLength 4 = .ok (.getfield 42, 3) := by decide +kernel
theorem dX5_fragmentLength_7 : decode cX5_fragmentLength 7 = .ok (.aload_n 0, 1) := by decide +kernel
theorem dX5_fragmentLength_8 : decode cX5_fragmentLength 8 = .ok (.getfield 10, 3) := by decide +kernel
theorem dX5_fragmentLength_11 : decode cX5_fragmentLength 11 = .ok (.getfield 42, 3) := by decide +kernel
theorem dX5_fragmentLength_14 : decode cX5_fragmentLength 14 = .ok (.iload_n 1, 1) := by decide +kernel
theorem dX5_fragmentLength_15 : decode cX5_fragmentLength 15 = .ok (.invokevirtual 220, 3) := by decide +kernel
theorem dX5_fragmentLength_18 : decode cX5_fragmentLength 18 = .ok (.iload_n 2, 1) := by decide +kernel
theorem dX5_fragmentLength_19 : decode cX5_fragmentLength 19 = .ok (.invokevirtual 226, 3) := by decide +kernel
theorem dX5_fragmentLength_22 : decode cX5_fragmentLength 22 = .ok (.istore_n 3, 1) := by decide +kernel
theorem dX5_fragmentLength_23 : decode cX5_fragmentLength 23 = .ok (.iload_n 3, 1) := by decide +kernel
theorem dX5_fragmentLength_24 : decode cX5_fragmentLength 24 = .ok (.iconst (-1), 1) := by decide +kernel
theorem dX5_fragmentLength_25 : decode cX5_fragmentLength 25 = .ok (.if_icmp .ne 7, 3) := by decide +kernel
theorem dX5_fragmentLength_28 : decode cX5_fragmentLength 28 = .ok (.iconst (-1), 1) := by decide +kernel
theorem dX5_fragmentLength_29 : decode cX5_fragmentLength 29 = .ok (.goto 15, 3) := by decide +kernel
theorem dX5_fragmentLength_32 : decode cX5_fragmentLength 32 = .ok (.aload_n 0, 1) := by decide +kernel
theorem dX5_fragmentLength_33 : decode cX5_fragmentLength 33 = .ok (.getfield 10, 3) := by decide +kernel
theorem dX5_fragmentLength_36 : decode cX5_fragmentLength 36 = .ok (.getfield 42, 3) := by decide +kernel
theorem dX5_fragmentLength_39 : decode cX5_fragmentLength 39 = .ok (.getfield 229, 3) := by decide +kernel
theorem dX5_fragmentLength_42 : decode cX5_fragmentLength 42 = .ok (.iload_n 3, 1) := by decide +kernel
theorem dX5_fragmentLength_43 : decode cX5_fragmentLength 43 = .ok (.iaload, 1) := by decide +kernel
theorem dX5_fragmentLength_44 : decode cX5_fragmentLength 44 = .ok (.ireturn, 1) := by decide +kernel
theorem dX5_freeRuns_0 : decode cX5_freeRuns 0 = .ok (.aload_n 0, 1) := by decide +kernel
theorem dX5_freeRuns_1 : decode cX5_freeRuns 1 = .ok (.getfield 10, 3) := by decide +kernel
theorem dX5_freeRuns_4 : decode cX5_freeRuns 4 = .ok (.getfield 42, 3) := by decide +kernel
theorem dX5_freeRuns_7 : decode cX5_freeRuns 7 = .ok (.invokevirtual 232, 3) := by decide +kernel
theorem dX5_freeRuns_10 : decode cX5_freeRuns 10 = .ok (.ireturn, 1) := by decide +kernel
theorem dX5_runStart_0 : decode cX5_runStart 0 = .ok (.aload_n 0, 1) := by decide +kernel
theorem dX5_runStart_1 : decode cX5_runStart 1 = .ok (.getfield 10, 3) := by decide +kernel
theorem dX5_runStart_4 : decode cX5_runStart 4 = .ok (.getfield 42, 3) := by decide +kernel
theorem dX5_runStart_7 : decode cX5_runStart 7 = .ok (.iload_n 1, 1) := by decide +kernel
theorem dX5_runStart_8 : decode cX5_runStart 8 = .ok (.invokevirtual 235, 3) := by decide +kernel
theorem dX5_runStart_11 : decode cX5_runStart 11 = .ok (.istore_n 2, 1) := by decide +kernel
theorem dX5_runStart_12 : decode cX5_runStart 12 = .ok (.iload_n 2, 1) := by decide +kernel
theorem dX5_runStart_13 : decode cX5_runStart 13 = .ok (.iconst (-1), 1) := by decide +kernel
theorem dX5_runStart_14 : decode cX5_runStart 14 = .ok (.if_icmp .ne 7, 3) := by decide +kernel
theorem dX5_runStart_17 : decode cX5_runStart 17 = .ok (.iconst (-1), 1) := by decide +kernel
theorem dX5_runStart_18 : decode cX5_runStart 18 = .ok (.goto 4, 3) := by decide +kernel
theorem dX5_runStart_21 : decode cX5_runStart 21 = .ok (.iload_n 2, 1) := by decide +kernel
theorem dX5_runStart_22 : decode cX5_runStart 22 = .ok (.ireturn, 1) := by decide +kernel
theorem dX5_runLength_0 : decode cX5_runLength 0 = .ok (.aload_n 0, 1) := by decide +kernel
theorem dX5_runLength_1 : decode cX5_runLength 1 = .ok (.getfield 10, 3) := by decide +kernel
theorem dX5_runLength_4 : decode cX5_runLength 4 = .ok (.getfield 42, 3) := by decide +kernel
theorem dX5_runLength_7 : decode cX5_runLength 7 = .ok (.iload_n 1, 1) := by decide +kernel
theorem dX5_runLength_8 : decode cX5_runLength 8 = .ok (.invokevirtual 235, 3) := by decide +kernel
theorem dX5_runLength_11 : decode cX5_runLength 11 = .ok (.istore_n 2, 1) := by decide +kernel
theorem dX5_runLength_12 : decode cX5_runLength 12 = .ok (.iload_n 2, 1) := by decide +kernel
theorem dX5_runLength_13 : decode cX5_runLength 13 = .ok (.iconst (-1), 1) := by decide +kernel
theorem dX5_runLength_14 : decode cX5_runLength 14 = .ok (.if_icmp .ne 7, 3) := by decide +kernel
theorem dX5_runLength_17 : decode cX5_runLength 17 = .ok (.iconst (-1), 1) := by decide +kernel
theorem dX5_runLength_18 : decode cX5_runLength 18 = .ok (.goto 14, 3) := by decide +kernel
theorem dX5_runLength_21 : decode cX5_runLength 21 = .ok (.aload_n 0, 1) := by decide +kernel
theorem dX5_runLength_22 : decode cX5_runLength 22 = .ok (.getfield 10, 3) := by decide +kernel
theorem dX5_runLength_25 : decode cX5_runLength 25 = .ok (.getfield 42, 3) := by decide +kernel
theorem dX5_runLength_28 : decode cX5_runLength 28 = .ok (.iload_n 2, 1) := by decide +kernel
theorem dX5_runLength_29 : decode cX5_runLength 29 = .ok (.invokevirtual 238, 3) := by decide +kernel
theorem dX5_runLength_32 : decode cX5_runLength 32 = .ok (.ireturn, 1) := by decide +kernel
theorem dX5_stageFor_0 : decode cX5_stageFor 0 = .ok (.aload_n 0, 1) := by decide +kernel
theorem dX5_stageFor_1 : decode cX5_stageFor 1 = .ok (.getfield 10, 3) := by decide +kernel
theorem dX5_stageFor_4 : decode cX5_stageFor 4 = .ok (.iload_n 1, 1) := by decide +kernel
theorem dX5_stageFor_5 : decode cX5_stageFor 5 = .ok (.invokevirtual 52, 3) := by decide +kernel
theorem dX5_stageFor_8 : decode cX5_stageFor 8 = .ok (.astore 4, 2) := by decide +kernel
theorem dX5_stageFor_10 : decode cX5_stageFor 10 = .ok (.aload_n 0, 1) := by decide +kernel
theorem dX5_stageFor_11 : decode cX5_stageFor 11 = .ok (.getfield 10, 3) := by decide +kernel
theorem dX5_stageFor_14 : decode cX5_stageFor 14 = .ok (.iload_n 1, 1) := by decide +kernel
theorem dX5_stageFor_15 : decode cX5_stageFor 15 = .ok (.iload_n 2, 1) := by decide +kernel
theorem dX5_stageFor_16 : decode cX5_stageFor 16 = .ok (.invokevirtual 74, 3) := by decide +kernel
theorem dX5_stageFor_19 : decode cX5_stageFor 19 = .ok (.astore 5, 2) := by decide +kernel
theorem dX5_stageFor_21 : decode cX5_stageFor 21 = .ok (.aload 4, 2) := by decide +kernel
theorem dX5_stageFor_23 : decode cX5_stageFor 23 = .ok (.ifnull 8, 3) := by decide +kernel
theorem dX5_stageFor_26 : decode cX5_stageFor 26 = .ok (.aload 5, 2) := by decide +kernel
theorem dX5_stageFor_28 : decode cX5_stageFor 28 = .ok (.ifnonnull 5, 3) := by decide +kernel
theorem dX5_stageFor_31 : decode cX5_stageFor 31 = .ok (.iconst (-1), 1) := by decide +kernel
theorem dX5_stageFor_32 : decode cX5_stageFor 32 = .ok (.ireturn, 1) := by decide +kernel
theorem dX5_stageFor_33 : decode cX5_stageFor 33 = .ok (.iload_n 3, 1) := by decide +kernel
theorem dX5_stageFor_34 : decode cX5_stageFor 34 = .ok (.iconst 1, 1) := by decide +kernel
theorem dX5_stageFor_35 : decode cX5_stageFor 35 = .ok (.bipush 12, 2) := by decide +kernel
theorem dX5_stageFor_37 : decode cX5_stageFor 37 = .ok (.invokestatic 38, 3) := by decide +kernel
theorem dX5_stageFor_40 : decode cX5_stageFor 40 = .ok (.ifCond .eq 6, 3) := by decide +kernel
theorem dX5_stageFor_43 : decode cX5_stageFor 43 = .ok (.bipush (-2), 2) := by decide +kernel
theorem dX5_stageFor_45 : decode cX5_stageFor 45 = .ok (.ireturn, 1) := by decide +kernel
theorem dX5_stageFor_46 : decode cX5_stageFor 46 = .ok (.aload_n 0, 1) := by decide +kernel
theorem dX5_stageFor_47 : decode cX5_stageFor 47 = .ok (.getfield 10, 3) := by decide +kernel
theorem dX5_stageFor_50 : decode cX5_stageFor 50 = .ok (.aload 4, 2) := by decide +kernel
theorem dX5_stageFor_52 : decode cX5_stageFor 52 = .ok (.aload 5, 2) := by decide +kernel
theorem dX5_stageFor_54 : decode cX5_stageFor 54 = .ok (.iload_n 3, 1) := by decide +kernel
theorem dX5_stageFor_55 : decode cX5_stageFor 55 = .ok (.invokevirtual 241, 3) := by decide +kernel
theorem dX5_stageFor_58 : decode cX5_stageFor 58 = .ok (.aload_n 0, 1) := by decide +kernel
theorem dX5_stageFor_59 : decode cX5_stageFor 59 = .ok (.getfield 10, 3) := by decide +kernel
theorem dX5_stageFor_62 : decode cX5_stageFor 62 = .ok (.getfield 245, 3) := by decide +kernel
theorem dX5_stageFor_65 : decode cX5_stageFor 65 = .ok (.ifCond .ne 8, 3) := by decide +kernel
theorem dX5_stageFor_68 : decode cX5_stageFor 68 = .ok (.bipush (-6), 2) := by decide +kernel
theorem dX5_stageFor_70 : decode cX5_stageFor 70 = .ok (.goto 10, 3) := by decide +kernel
theorem dX5_stageFor_73 : decode cX5_stageFor 73 = .ok (.aload_n 0, 1) := by decide +kernel
theorem dX5_stageFor_74 : decode cX5_stageFor 74 = .ok (.getfield 10, 3) := by decide +kernel
theorem dX5_stageFor_77 : decode cX5_stageFor 77 = .ok (.getfield 245, 3) := by decide +kernel
theorem dX5_stageFor_80 : decode cX5_stageFor 80 = .ok (.ireturn, 1) := by decide +kernel
theorem dX5_largestAdmissible_0 : decode cX5_largestAdmissible 0 = .ok (.aload_n 0, 1) := by decide +kernel
theorem dX5_largestAdmissible_1 : decode cX5_largestAdmissible 1 = .ok (.getfield 10, 3) := by decide +kernel
theorem dX5_largestAdmissible_4 : decode cX5_largestAdmissible 4 = .ok (.iload_n 1, 1) := by decide +kernel
theorem dX5_largestAdmissible_5 : decode cX5_largestAdmissible 5 = .ok (.invokevirtual 52, 3) := by decide +kernel
theorem dX5_largestAdmissible_8 : decode cX5_largestAdmissible 8 = .ok (.astore_n 3, 1) := by decide +kernel
theorem dX5_largestAdmissible_9 : decode cX5_largestAdmissible 9 = .ok (.aload_n 0, 1) := by decide +kernel
theorem dX5_largestAdmissible_10 : decode cX5_largestAdmissible 10 = .ok (.getfield 10, 3) := by decide +kernel
theorem dX5_largestAdmissible_13 : decode cX5_largestAdmissible 13 = .ok (.iload_n 1, 1) := by decide +kernel
theorem dX5_largestAdmissible_14 : decode cX5_largestAdmissible 14 = .ok (.iload_n 2, 1) := by decide +kernel
theorem dX5_largestAdmissible_15 : decode cX5_largestAdmissible 15 = .ok (.invokevirtual 74, 3) := by decide +kernel
theorem dX5_largestAdmissible_18 : decode cX5_largestAdmissible 18 = .ok (.astore 4, 2) := by decide +kernel
theorem dX5_largestAdmissible_20 : decode cX5_largestAdmissible 20 = .ok (.aload_n 3, 1) := by decide +kernel
theorem dX5_largestAdmissible_21 : decode cX5_largestAdmissible 21 = .ok (.ifnull 8, 3) := by decide +kernel
theorem dX5_largestAdmissible_24 : decode cX5_largestAdmissible 24 = .ok (.aload 4, 2) := by decide +kernel
theorem dX5_largestAdmissible_26 : decode cX5_largestAdmissible 26 = .ok (.ifnonnull 5, 3) := by decide +kernel
theorem dX5_largestAdmissible_29 : decode cX5_largestAdmissible 29 = .ok (.iconst (-1), 1) := by decide +kernel
theorem dX5_largestAdmissible_30 : decode cX5_largestAdmissible 30 = .ok (.ireturn, 1) := by decide +kernel
theorem dX5_largestAdmissible_31 : decode cX5_largestAdmissible 31 = .ok (.bipush 12, 2) := by decide +kernel
theorem dX5_largestAdmissible_33 : decode cX5_largestAdmissible 33 = .ok (.istore 5, 2) := by decide +kernel
theorem dX5_largestAdmissible_35 : decode cX5_largestAdmissible 35 = .ok (.iload 5, 2) := by decide +kernel
theorem dX5_largestAdmissible_37 : decode cX5_largestAdmissible 37 = .ok (.iconst 1, 1) := by decide +kernel
theorem dX5_largestAdmissible_38 : decode cX5_largestAdmissible 38 = .ok (.if_icmp .lt 34, 3) := by decide +kernel
theorem dX5_largestAdmissible_41 : decode cX5_largestAdmissible 41 = .ok (.aload_n 0, 1) := by decide +kernel
theorem dX5_largestAdmissible_42 : decode cX5_largestAdmissible 42 = .ok (.getfield 10, 3) := by decide +kernel
theorem dX5_largestAdmissible_45 : decode cX5_largestAdmissible 45 = .ok (.aload_n 3, 1) := by decide +kernel
theorem dX5_largestAdmissible_46 : decode cX5_largestAdmissible 46 = .ok (.aload 4, 2) := by decide +kernel
theorem dX5_largestAdmissible_48 : decode cX5_largestAdmissible 48 = .ok (.iload 5, 2) := by decide +kernel
theorem dX5_largestAdmissible_50 : decode cX5_largestAdmissible 50 = .ok (.invokevirtual 241, 3) := by decide +kernel
theorem dX5_largestAdmissible_53 : decode cX5_largestAdmissible 53 = .ok (.aload_n 0, 1) := by decide +kernel
theorem dX5_largestAdmissible_54 : decode cX5_largestAdmissible 54 = .ok (.getfield 10, 3) := by decide +kernel
theorem dX5_largestAdmissible_57 : decode cX5_largestAdmissible 57 = .ok (.getfield 245, 3) := by decide +kernel
theorem dX5_largestAdmissible_60 : decode cX5_largestAdmissible 60 = .ok (.ifCond .eq 6, 3) := by decide +kernel
theorem dX5_largestAdmissible_63 : decode cX5_largestAdmissible 63 = .ok (.iload 5, 2) := by decide +kernel
theorem dX5_largestAdmissible_65 : decode cX5_largestAdmissible 65 = .ok (.ireturn, 1) := by decide +kernel
theorem dX5_largestAdmissible_66 : decode cX5_largestAdmissible 66 = .ok (.iinc 5 (-1), 3) := by decide +kernel
theorem dX5_largestAdmissible_69 : decode cX5_largestAdmissible 69 = .ok (.goto (-34), 3) := by decide +kernel
theorem dX5_largestAdmissible_72 : decode cX5_largestAdmissible 72 = .ok (.iconst 0, 1) := by decide +kernel
theorem dX5_largestAdmissible_73 : decode cX5_largestAdmissible 73 = .ok (.ireturn, 1) := by decide +kernel
theorem dX5_burstCapacity_0 : decode cX5_burstCapacity 0 = .ok (.aload_n 0, 1) := by decide +kernel
theorem dX5_burstCapacity_1 : decode cX5_burstCapacity 1 = .ok (.getfield 10, 3) := by decide +kernel
theorem dX5_burstCapacity_4 : decode cX5_burstCapacity 4 = .ok (.iload_n 1, 1) := by decide +kernel
theorem dX5_burstCapacity_5 : decode cX5_burstCapacity 5 = .ok (.iload_n 2, 1) := by decide +kernel
theorem dX5_burstCapacity_6 : decode cX5_burstCapacity 6 = .ok (.invokevirtual 74, 3) := by decide +kernel
theorem dX5_burstCapacity_9 : decode cX5_burstCapacity 9 = .ok (.ifnonnull 5, 3) := by decide +kernel
theorem dX5_burstCapacity_12 : decode cX5_burstCapacity 12 = .ok (.iconst (-1), 1) := by decide +kernel
theorem dX5_burstCapacity_13 : decode cX5_burstCapacity 13 = .ok (.ireturn, 1) := by decide +kernel
theorem dX5_burstCapacity_14 : decode cX5_burstCapacity 14 = .ok (.iload_n 3, 1) := by decide +kernel
theorem dX5_burstCapacity_15 : decode cX5_burstCapacity 15 = .ok (.iconst 1, 1) := by decide +kernel
theorem dX5_burstCapacity_16 : decode cX5_burstCapacity 16 = .ok (.bipush 12, 2) := by decide +kernel
theorem dX5_burstCapacity_18 : decode cX5_burstCapacity 18 = .ok (.invokestatic 38, 3) := by decide +kernel
theorem dX5_burstCapacity_21 : decode cX5_burstCapacity 21 = .ok (.ifCond .eq 6, 3) := by decide +kernel
theorem dX5_burstCapacity_24 : decode cX5_burstCapacity 24 = .ok (.bipush (-2), 2) := by decide +kernel
theorem dX5_burstCapacity_26 : decode cX5_burstCapacity 26 = .ok (.ireturn, 1) := by decide +kernel
theorem dX5_burstCapacity_27 : decode cX5_burstCapacity 27 = .ok (.aload_n 0, 1) := by decide +kernel
theorem dX5_burstCapacity_28 : decode cX5_burstCapacity 28 = .ok (.getfield 16, 3) := by decide +kernel
theorem dX5_burstCapacity_31 : decode cX5_burstCapacity 31 = .ok (.aload_n 0, 1) := by decide +kernel
theorem dX5_burstCapacity_32 : decode cX5_burstCapacity 32 = .ok (.getfield 10, 3) := by decide +kernel
theorem dX5_burstCapacity_35 : decode cX5_burstCapacity 35 = .ok (.invokevirtual 248, 3) := by decide +kernel
theorem dX5_burstCapacity_38 : decode cX5_burstCapacity 38 = .ok (.aload_n 0, 1) := by decide +kernel
theorem dX5_burstCapacity_39 : decode cX5_burstCapacity 39 = .ok (.getfield 16, 3) := by decide +kernel
theorem dX5_burstCapacity_42 : decode cX5_burstCapacity 42 = .ok (.iconst 0, 1) := by decide +kernel
theorem dX5_burstCapacity_43 : decode cX5_burstCapacity 43 = .ok (.putfield 115, 3) := by decide +kernel
theorem dX5_burstCapacity_46 : decode cX5_burstCapacity 46 = .ok (.aload_n 0, 1) := by decide +kernel
theorem dX5_burstCapacity_47 : decode cX5_burstCapacity 47 = .ok (.getfield 16, 3) := by decide +kernel
theorem dX5_burstCapacity_50 : decode cX5_burstCapacity 50 = .ok (.iload_n 1, 1) := by decide +kernel
theorem dX5_burstCapacity_51 : decode cX5_burstCapacity 51 = .ok (.invokevirtual 52, 3) := by decide +kernel
theorem dX5_burstCapacity_54 : decode cX5_burstCapacity 54 = .ok (.astore 4, 2) := by decide +kernel
theorem dX5_burstCapacity_56 : decode cX5_burstCapacity 56 = .ok (.aload_n 0, 1) := by decide +kernel
theorem dX5_burstCapacity_57 : decode cX5_burstCapacity 57 = .ok (.getfield 16, 3) := by decide +kernel
theorem dX5_burstCapacity_60 : decode cX5_burstCapacity 60 = .ok (.iload_n 1, 1) := by decide +kernel
theorem dX5_burstCapacity_61 : decode cX5_burstCapacity 61 = .ok (.iload_n 2, 1) := by decide +kernel
theorem dX5_burstCapacity_62 : decode cX5_burstCapacity 62 = .ok (.invokevirtual 74, 3) := by decide +kernel
theorem dX5_burstCapacity_65 : decode cX5_burstCapacity 65 = .ok (.astore 5, 2) := by decide +kernel
theorem dX5_burstCapacity_67 : decode cX5_burstCapacity 67 = .ok (.aload 4, 2) := by decide +kernel
theorem dX5_burstCapacity_69 : decode cX5_burstCapacity 69 = .ok (.ifnull 8, 3) := by decide +kernel
theorem dX5_burstCapacity_72 : decode cX5_burstCapacity 72 = .ok (.aload 5, 2) := by decide +kernel
theorem dX5_burstCapacity_74 : decode cX5_burstCapacity 74 = .ok (.ifnonnull 5, 3) := by decide +kernel
theorem dX5_burstCapacity_77 : decode cX5_burstCapacity 77 = .ok (.iconst (-1), 1) := by decide +kernel
theorem dX5_burstCapacity_78 : decode cX5_burstCapacity 78 = .ok (.ireturn, 1) := by decide +kernel
theorem dX5_burstCapacity_79 : decode cX5_burstCapacity 79 = .ok (.iconst 0, 1) := by decide +kernel
theorem dX5_burstCapacity_80 : decode cX5_burstCapacity 80 = .ok (.istore 6, 2) := by decide +kernel
theorem dX5_burstCapacity_82 : decode cX5_burstCapacity 82 = .ok (.iload 6, 2) := by decide +kernel
theorem dX5_burstCapacity_84 : decode cX5_burstCapacity 84 = .ok (.sipush 128, 3) := by decide +kernel
theorem dX5_burstCapacity_87 : decode cX5_burstCapacity 87 = .ok (.if_icmp .ge 29, 3) := by decide +kernel
theorem dX5_burstCapacity_90 : decode cX5_burstCapacity 90 = .ok (.aload_n 0, 1) := by decide +kernel
theorem dX5_burstCapacity_91 : decode cX5_burstCapacity 91 = .ok (.getfield 16, 3) := by decide +kernel
theorem dX5_burstCapacity_94 : decode cX5_burstCapacity 94 = .ok (.aload 4, 2) := by decide +kernel
theorem dX5_burstCapacity_96 : decode cX5_burstCapacity 96 = .ok (.aload 5, 2) := by decide +kernel
theorem dX5_burstCapacity_98 : decode cX5_burstCapacity 98 = .ok (.iload_n 3, 1) := by decide +kernel
theorem dX5_burstCapacity_99 : decode cX5_burstCapacity 99 = .ok (.invokevirtual 129, 3) := by decide +kernel
theorem dX5_burstCapacity_102 : decode cX5_burstCapacity 102 = .ok (.bipush (-6), 2) := by decide +kernel
theorem dX5_burstCapacity_104 : decode cX5_burstCapacity 104 = .ok (.if_icmp .ne 6, 3) := by decide +kernel
theorem dX5_burstCapacity_107 : decode cX5_burstCapacity 107 = .ok (.iload 6, 2) := by decide +kernel
theorem dX5_burstCapacity_109 : decode cX5_burstCapacity 109 = .ok (.ireturn, 1) := by decide +kernel
theorem dX5_burstCapacity_110 : decode cX5_burstCapacity 110 = .ok (.iinc 6 1, 3) := by decide +kernel
theorem dX5_burstCapacity_113 : decode cX5_burstCapacity 113 = .ok (.goto (-31), 3) := by decide +kernel
theorem dX5_burstCapacity_116 : decode cX5_burstCapacity 116 = .ok (.sipush 128, 3) := by decide +kernel
theorem dX5_burstCapacity_119 : decode cX5_burstCapacity 119 = .ok (.ireturn, 1) := by decide +kernel
theorem dX5_drainTicks_0 : decode cX5_drainTicks 0 = .ok (.aload_n 0, 1) := by decide +kernel
theorem dX5_drainTicks_1 : decode cX5_drainTicks 1 = .ok (.getfield 10, 3) := by decide +kernel
theorem dX5_drainTicks_4 : decode cX5_drainTicks 4 = .ok (.iload_n 1, 1) := by decide +kernel
theorem dX5_drainTicks_5 : decode cX5_drainTicks 5 = .ok (.invokevirtual 52, 3) := by decide +kernel
theorem dX5_drainTicks_8 : decode cX5_drainTicks 8 = .ok (.astore_n 2, 1) := by decide +kernel
theorem dX5_drainTicks_9 : decode cX5_drainTicks 9 = .ok (.aload_n 2, 1) := by decide +kernel
theorem dX5_drainTicks_10 : decode cX5_drainTicks 10 = .ok (.ifnonnull 5, 3) := by decide +kernel
theorem dX5_drainTicks_13 : decode cX5_drainTicks 13 = .ok (.iconst (-1), 1) := by decide +kernel
theorem dX5_drainTicks_14 : decode cX5_drainTicks 14 = .ok (.ireturn, 1) := by decide +kernel
theorem dX5_drainTicks_15 : decode cX5_drainTicks 15 = .ok (.aload_n 2, 1) := by decide +kernel
theorem dX5_drainTicks_16 : decode cX5_drainTicks 16 = .ok (.invokevirtual 252, 3) := by decide +kernel
theorem dX5_drainTicks_19 : decode cX5_drainTicks 19 = .ok (.ifCond .eq 5, 3) := by decide +kernel
theorem dX5_drainTicks_22 : decode cX5_drainTicks 22 = .ok (.iconst 0, 1) := by decide +kernel
theorem dX5_drainTicks_23 : decode cX5_drainTicks 23 = .ok (.ireturn, 1) := by decide +kernel
theorem dX5_drainTicks_24 : decode cX5_drainTicks 24 = .ok (.aload_n 0, 1) := by decide +kernel
theorem dX5_drainTicks_25 : decode cX5_drainTicks 25 = .ok (.getfield 16, 3) := by decide +kernel
theorem dX5_drainTicks_28 : decode cX5_drainTicks 28 = .ok (.aload_n 0, 1) := by decide +kernel
theorem dX5_drainTicks_29 : decode cX5_drainTicks 29 = .ok (.getfield 10, 3) := by decide +kernel
theorem dX5_drainTicks_32 : decode cX5_drainTicks 32 = .ok (.invokevirtual 248, 3) := by decide +kernel
theorem dX5_drainTicks_35 : decode cX5_drainTicks 35 = .ok (.aload_n 0, 1) := by decide +kernel
theorem dX5_drainTicks_36 : decode cX5_drainTicks 36 = .ok (.getfield 16, 3) := by decide +kernel
theorem dX5_drainTicks_39 : decode cX5_drainTicks 39 = .ok (.iload_n 1, 1) := by decide +kernel
theorem dX5_drainTicks_40 : decode cX5_drainTicks 40 = .ok (.invokevirtual 52, 3) := by decide +kernel
theorem dX5_drainTicks_43 : decode cX5_drainTicks 43 = .ok (.astore_n 3, 1) := by decide +kernel
theorem dX5_drainTicks_44 : decode cX5_drainTicks 44 = .ok (.aload_n 3, 1) := by decide +kernel
theorem dX5_drainTicks_45 : decode cX5_drainTicks 45 = .ok (.ifnonnull 5, 3) := by decide +kernel
theorem dX5_drainTicks_48 : decode cX5_drainTicks 48 = .ok (.iconst (-1), 1) := by decide +kernel
theorem dX5_drainTicks_49 : decode cX5_drainTicks 49 = .ok (.ireturn, 1) := by decide +kernel
theorem dX5_drainTicks_50 : decode cX5_drainTicks 50 = .ok (.aload_n 3, 1) := by decide +kernel
theorem dX5_drainTicks_51 : decode cX5_drainTicks 51 = .ok (.getfield 106, 3) := by decide +kernel
theorem dX5_drainTicks_54 : decode cX5_drainTicks 54 = .ok (.ifCond .ne 7, 3) := by decide +kernel
theorem dX5_drainTicks_57 : decode cX5_drainTicks 57 = .ok (.iconst 1, 1) := by decide +kernel
theorem dX5_drainTicks_58 : decode cX5_drainTicks 58 = .ok (.goto 6, 3) := by decide +kernel
theorem dX5_drainTicks_61 : decode cX5_drainTicks 61 = .ok (.sipush 1000, 3) := by decide +kernel
theorem dX5_drainTicks_64 : decode cX5_drainTicks 64 = .ok (.istore 4, 2) := by decide +kernel
theorem dX5_drainTicks_66 : decode cX5_drainTicks 66 = .ok (.iconst 1, 1) := by decide +kernel
theorem dX5_drainTicks_67 : decode cX5_drainTicks 67 = .ok (.istore 5, 2) := by decide +kernel
theorem dX5_drainTicks_69 : decode cX5_drainTicks 69 = .ok (.iload 5, 2) := by decide +kernel
theorem dX5_drainTicks_71 : decode cX5_drainTicks 71 = .ok (.iload 4, 2) := by decide +kernel
theorem dX5_drainTicks_73 : decode cX5_drainTicks 73 = .ok (.if_icmp .gt 28, 3) := by decide +kernel
theorem dX5_drainTicks_76 : decode cX5_drainTicks 76 = .ok (.aload_n 0, 1) := by decide +kernel
theorem dX5_drainTicks_77 : decode cX5_drainTicks 77 = .ok (.getfield 16, 3) := by decide +kernel
theorem dX5_drainTicks_80 : decode cX5_drainTicks 80 = .ok (.aload_n 3, 1) := by decide +kernel
theorem dX5_drainTicks_81 : decode cX5_drainTicks 81 = .ok (.invokevirtual 256, 3) := by decide +kernel
theorem dX5_drainTicks_84 : decode cX5_drainTicks 84 = .ok (.pop, 1) := by decide +kernel
theorem dX5_drainTicks_85 : decode cX5_drainTicks 85 = .ok (.aload_n 3, 1) := by decide +kernel
theorem dX5_drainTicks_86 : decode cX5_drainTicks 86 = .ok (.invokevirtual 252, 3) := by decide +kernel
theorem dX5_drainTicks_89 : decode cX5_drainTicks 89 = .ok (.ifCond .eq 6, 3) := by decide +kernel
theorem dX5_drainTicks_92 : decode cX5_drainTicks 92 = .ok (.iload 5, 2) := by decide +kernel
theorem dX5_drainTicks_94 : decode cX5_drainTicks 94 = .ok (.ireturn, 1) := by decide +kernel
theorem dX5_drainTicks_95 : decode cX5_drainTicks 95 = .ok (.iinc 5 1, 3) := by decide +kernel
theorem dX5_drainTicks_98 : decode cX5_drainTicks 98 = .ok (.goto (-29), 3) := by decide +kernel
theorem dX5_drainTicks_101 : decode cX5_drainTicks 101 = .ok (.bipush (-5), 2) := by decide +kernel
theorem dX5_drainTicks_103 : decode cX5_drainTicks 103 = .ok (.ireturn, 1) := by decide +kernel
theorem dX5_equilibrium_0 : decode cX5_equilibrium 0 = .ok (.iload_n 1, 1) := by decide +kernel
theorem dX5_equilibrium_1 : decode cX5_equilibrium 1 = .ok (.ifCond .lt 17, 3) := by decide +kernel
theorem dX5_equilibrium_4 : decode cX5_equilibrium 4 = .ok (.iload_n 1, 1) := by decide +kernel
theorem dX5_equilibrium_5 : decode cX5_equilibrium 5 = .ok (.iconst 3, 1) := by decide +kernel
theorem dX5_equilibrium_6 : decode cX5_equilibrium 6 = .ok (.aload_n 0, 1) := by decide +kernel
theorem dX5_equilibrium_7 : decode cX5_equilibrium 7 = .ok (.getfield 10, 3) := by decide +kernel
theorem dX5_equilibrium_10 : decode cX5_equilibrium 10 = .ok (.getfield 140, 3) := by decide +kernel
theorem dX5_equilibrium_13 : decode cX5_equilibrium 13 = .ok (.imul, 1) := by decide +kernel
theorem dX5_equilibrium_14 : decode cX5_equilibrium 14 = .ok (.ishr, 1) := by decide +kernel
theorem dX5_equilibrium_15 : decode cX5_equilibrium 15 = .ok (.ifCond .eq 6, 3) := by decide +kernel
theorem dX5_equilibrium_18 : decode cX5_equilibrium 18 = .ok (.bipush (-2), 2) := by decide +kernel
theorem dX5_equilibrium_20 : decode cX5_equilibrium 20 = .ok (.ireturn, 1) := by decide +kernel
theorem dX5_equilibrium_21 : decode cX5_equilibrium 21 = .ok (.bipush 8, 2) := by decide +kernel
theorem dX5_equilibrium_23 : decode cX5_equilibrium 23 = .ok (.aload_n 0, 1) := by decide +kernel
theorem dX5_equilibrium_24 : decode cX5_equilibrium 24 = .ok (.getfield 10, 3) := by decide +kernel
theorem dX5_equilibrium_27 : decode cX5_equilibrium 27 = .ok (.invokevirtual 161, 3) := by decide +kernel
theorem dX5_equilibrium_30 : decode cX5_equilibrium 30 = .ok (.imul, 1) := by decide +kernel
theorem dX5_equilibrium_31 : decode cX5_equilibrium 31 = .ok (.istore_n 3, 1) := by decide +kernel
theorem dX5_equilibrium_32 : decode cX5_equilibrium 32 = .ok (.bipush 8, 2) := by decide +kernel
theorem dX5_equilibrium_34 : decode cX5_equilibrium 34 = .ok (.istore 4, 2) := by decide +kernel
theorem dX5_equilibrium_36 : decode cX5_equilibrium 36 = .ok (.iconst 0, 1) := by decide +kernel
theorem dX5_equilibrium_37 : decode cX5_equilibrium 37 = .ok (.istore 5, 2) := by decide +kernel
theorem dX5_equilibrium_39 : decode cX5_equilibrium 39 = .ok (.iload 5, 2) := by decide +kernel
theorem dX5_equilibrium_41 : decode cX5_equilibrium 41 = .ok (.iconst 3, 1) := by decide +kernel
theorem dX5_equilibrium_42 : decode cX5_equilibrium 42 = .ok (.aload_n 0, 1) := by decide +kernel
theorem dX5_equilibrium_43 : decode cX5_equilibrium 43 = .ok (.getfield 10, 3) := by decide +kernel
theorem dX5_equilibrium_46 : decode cX5_equilibrium 46 = .ok (.getfield 140, 3) := by decide +kernel
theorem dX5_equilibrium_49 : decode cX5_equilibrium 49 = .ok (.imul, 1) := by decide +kernel
theorem dX5_equilibrium_50 : decode cX5_equilibrium 50 = .ok (.if_icmp .ge 51, 3) := by decide +kernel
theorem dX5_equilibrium_53 : decode cX5_equilibrium 53 = .ok (.aload_n 0, 1) := by decide +kernel
theorem dX5_equilibrium_54 : decode cX5_equilibrium 54 = .ok (.getfield 10, 3) := by decide +kernel
theorem dX5_equilibrium_57 : decode cX5_equilibrium 57 = .ok (.iload 5, 2) := by decide +kernel
theorem dX5_equilibrium_59 : decode cX5_equilibrium 59 = .ok (.iconst 3, 1) := by decide +kernel
theorem dX5_equilibrium_60 : decode cX5_equilibrium 60 = .ok (.idiv, 1) := by decide +kernel
theorem dX5_equilibrium_61 : decode cX5_equilibrium 61 = .ok (.iload 5, 2) := by decide +kernel
theorem dX5_equilibrium_63 : decode cX5_equilibrium 63 = .ok (.iconst 3, 1) := by decide +kernel
theorem dX5_equilibrium_64 : decode cX5_equilibrium 64 = .ok (.irem, 1) := by decide +kernel
theorem dX5_equilibrium_65 : decode cX5_equilibrium 65 = .ok (.invokevirtual 74, 3) := by decide +kernel
theorem dX5_equilibrium_68 : decode cX5_equilibrium 68 = .ok (.astore 6, 2) := by decide +kernel
theorem dX5_equilibrium_70 : decode cX5_equilibrium 70 = .ok (.aload 6, 2) := by decide +kernel
theorem dX5_equilibrium_72 : decode cX5_equilibrium 72 = .ok (.ifnull 23, 3) := by decide +kernel
theorem dX5_equilibrium_75 : decode cX5_equilibrium 75 = .ok (.iload_n 1, 1) := by decide +kernel
theorem dX5_equilibrium_76 : decode cX5_equilibrium 76 = .ok (.iload 5, 2) := by decide +kernel
theorem dX5_equilibrium_78 : decode cX5_equilibrium 78 = .ok (.ishr, 1) := by decide +kernel
theorem dX5_equilibrium_79 : decode cX5_equilibrium 79 = .ok (.iconst 1, 1) := by decide +kernel
theorem dX5_equilibrium_80 : decode cX5_equilibrium 80 = .ok (.iand, 1) := by decide +kernel
theorem dX5_equilibrium_81 : decode cX5_equilibrium 81 = .ok (.iconst 1, 1) := by decide +kernel
theorem dX5_equilibrium_82 : decode cX5_equilibrium 82 = .ok (.if_icmp .ne 13, 3) := by decide +kernel
theorem dX5_equilibrium_85 : decode cX5_equilibrium 85 = .ok (.iload 4, 2) := by decide +kernel
theorem dX5_equilibrium_87 : decode cX5_equilibrium 87 = .ok (.aload 6, 2) := by decide +kernel
theorem dX5_equilibrium_89 : decode cX5_equilibrium 89 = .ok (.getfield 78, 3) := by decide +kernel
theorem dX5_equilibrium_92 : decode cX5_equilibrium 92 = .ok (.iadd, 1) := by decide +kernel
theorem dX5_equilibrium_93 : decode cX5_equilibrium 93 = .ok (.istore 4, 2) := by decide +kernel
theorem dX5_equilibrium_95 : decode cX5_equilibrium 95 = .ok (.iinc 5 1, 3) := by decide +kernel
theorem dX5_equilibrium_98 : decode cX5_equilibrium 98 = .ok (.goto (-59), 3) := by decide +kernel
theorem dX5_equilibrium_101 : decode cX5_equilibrium 101 = .ok (.iconst 1, 1) := by decide +kernel
theorem dX5_equilibrium_102 : decode cX5_equilibrium 102 = .ok (.iload_n 3, 1) := by decide +kernel
theorem dX5_equilibrium_103 : decode cX5_equilibrium 103 = .ok (.iload 4, 2) := by decide +kernel
theorem dX5_equilibrium_105 : decode cX5_equilibrium 105 = .ok (.invokestatic 259, 3) := by decide +kernel
theorem dX5_equilibrium_108 : decode cX5_equilibrium 108 = .ok (.invokestatic 143, 3) := by decide +kernel
theorem dX5_equilibrium_111 : decode cX5_equilibrium 111 = .ok (.istore 5, 2) := by decide +kernel
theorem dX5_equilibrium_113 : decode cX5_equilibrium 113 = .ok (.iload_n 2, 1) := by decide +kernel
theorem dX5_equilibrium_114 : decode cX5_equilibrium 114 = .ok (.ifCond .eq 11, 3) := by decide +kernel
theorem dX5_equilibrium_117 : decode cX5_equilibrium 117 = .ok (.iload 4, 2) := by decide +kernel
theorem dX5_equilibrium_119 : decode cX5_equilibrium 119 = .ok (.iload 5, 2) := by decide +kernel
theorem dX5_equilibrium_121 : decode cX5_equilibrium 121 = .ok (.idiv, 1) := by decide +kernel
theorem dX5_equilibrium_122 : decode cX5_equilibrium 122 = .ok (.goto 7, 3) := by decide +kernel
theorem dX5_equilibrium_125 : decode cX5_equilibrium 125 = .ok (.iload_n 3, 1) := by decide +kernel
theorem dX5_equilibrium_126 : decode cX5_equilibrium 126 = .ok (.iload 5, 2) := by decide +kernel
theorem dX5_equilibrium_128 : decode cX5_equilibrium 128 = .ok (.idiv, 1) := by decide +kernel
theorem dX5_equilibrium_129 : decode cX5_equilibrium 129 = .ok (.ireturn, 1) := by decide +kernel
theorem dX5_append_0 : decode cX5_append 0 = .ok (.iload_n 1, 1) := by decide +kernel
theorem dX5_append_1 : decode cX5_append 1 = .ok (.iconst 0, 1) := by decide +kernel
theorem dX5_append_2 : decode cX5_append 2 = .ok (.bipush 127, 2) := by decide +kernel
theorem dX5_append_4 : decode cX5_append 4 = .ok (.invokestatic 38, 3) := by decide +kernel
theorem dX5_append_7 : decode cX5_append 7 = .ok (.ifCond .eq 6, 3) := by decide +kernel
theorem dX5_append_10 : decode cX5_append 10 = .ok (.bipush (-2), 2) := by decide +kernel
theorem dX5_append_12 : decode cX5_append 12 = .ok (.ireturn, 1) := by decide +kernel
theorem dX5_append_13 : decode cX5_append 13 = .ok (.aload_n 0, 1) := by decide +kernel
theorem dX5_append_14 : decode cX5_append 14 = .ok (.getfield 30, 3) := by decide +kernel
theorem dX5_append_17 : decode cX5_append 17 = .ok (.getfield 262, 3) := by decide +kernel
theorem dX5_append_20 : decode cX5_append 20 = .ok (.bipush 120, 2) := by decide +kernel
theorem dX5_append_22 : decode cX5_append 22 = .ok (.if_icmp .lt 6, 3) := by decide +kernel
theorem dX5_append_25 : decode cX5_append 25 = .ok (.bipush (-3), 2) := by decide +kernel
theorem dX5_append_27 : decode cX5_append 27 = .ok (.ireturn, 1) := by decide +kernel
theorem dX5_append_28 : decode cX5_append 28 = .ok (.aload_n 0, 1) := by decide +kernel
theorem dX5_append_29 : decode cX5_append 29 = .ok (.getfield 30, 3) := by decide +kernel
theorem dX5_append_32 : decode cX5_append 32 = .ok (.getfield 263, 3) := by decide +kernel
theorem dX5_append_35 : decode cX5_append 35 = .ok (.aload_n 0, 1) := by decide +kernel
theorem dX5_append_36 : decode cX5_append 36 = .ok (.getfield 30, 3) := by decide +kernel
theorem dX5_append_39 : decode cX5_append 39 = .ok (.getfield 262, 3) := by decide +kernel
theorem dX5_append_42 : decode cX5_append 42 = .ok (.iload_n 1, 1) := by decide +kernel
theorem dX5_append_43 : decode cX5_append 43 = .ok (.iastore, 1) := by decide +kernel
theorem dX5_append_44 : decode cX5_append 44 = .ok (.aload_n 0, 1) := by decide +kernel
theorem dX5_append_45 : decode cX5_append 45 = .ok (.getfield 30, 3) := by decide +kernel
theorem dX5_append_48 : decode cX5_append 48 = .ok (.dup, 1) := by decide +kernel
theorem dX5_append_49 : decode cX5_append 49 = .ok (.getfield 262, 3) := by decide +kernel
theorem dX5_append_52 : decode cX5_append 52 = .ok (.iconst 1, 1) := by decide +kernel
theorem dX5_append_53 : decode cX5_append 53 = .ok (.iadd, 1) := by decide +kernel
theorem dX5_append_54 : decode cX5_append 54 = .ok (.putfield 262, 3) := by decide +kernel
theorem dX5_append_57 : decode cX5_append 57 = .ok (.aload_n 0, 1) := by decide +kernel
theorem dX5_append_58 : decode cX5_append 58 = .ok (.getfield 30, 3) := by decide +kernel
theorem dX5_append_61 : decode cX5_append 61 = .ok (.getfield 262, 3) := by decide +kernel
theorem dX5_append_64 : decode cX5_append 64 = .ok (.ireturn, 1) := by decide +kernel
theorem dX5_clearText_0 : decode cX5_clearText 0 = .ok (.aload_n 0, 1) := by decide +kernel
theorem dX5_clearText_1 : decode cX5_clearText 1 = .ok (.getfield 30, 3) := by decide +kernel
theorem dX5_clearText_4 : decode cX5_clearText 4 = .ok (.getfield 262, 3) := by decide +kernel
theorem dX5_clearText_7 : decode cX5_clearText 7 = .ok (.istore_n 1, 1) := by decide +kernel
theorem dX5_clearText_8 : decode cX5_clearText 8 = .ok (.aload_n 0, 1) := by decide +kernel
theorem dX5_clearText_9 : decode cX5_clearText 9 = .ok (.getfield 30, 3) := by decide +kernel
theorem dX5_clearText_12 : decode cX5_clearText 12 = .ok (.iconst 0, 1) := by decide +kernel
theorem dX5_clearText_13 : decode cX5_clearText 13 = .ok (.putfield 262, 3) := by decide +kernel
theorem dX5_clearText_16 : decode cX5_clearText 16 = .ok (.iload_n 1, 1) := by decide +kernel
theorem dX5_clearText_17 : decode cX5_clearText 17 = .ok (.ireturn, 1) := by decide +kernel
theorem dX5_faultPosition_0 : decode cX5_faultPosition 0 = .ok (.aload_n 0, 1) := by decide +kernel
theorem dX5_faultPosition_1 : decode cX5_faultPosition 1 = .ok (.getfield 30, 3) := by decide +kernel
theorem dX5_faultPosition_4 : decode cX5_faultPosition 4 = .ok (.aload_n 0, 1) := by decide +kernel
theorem dX5_faultPosition_5 : decode cX5_faultPosition 5 = .ok (.getfield 10, 3) := by decide +kernel
theorem dX5_faultPosition_8 : decode cX5_faultPosition 8 = .ok (.getfield 140, 3) := by decide +kernel
theorem dX5_faultPosition_11 : decode cX5_faultPosition 11 = .ok (.invokevirtual 266, 3) := by decide +kernel
theorem dX5_faultPosition_14 : decode cX5_faultPosition 14 = .ok (.istore_n 1, 1) := by decide +kernel
theorem dX5_faultPosition_15 : decode cX5_faultPosition 15 = .ok (.iload_n 1, 1) := by decide +kernel
theorem dX5_faultPosition_16 : decode cX5_faultPosition 16 = .ok (.iconst (-1), 1) := by decide +kernel
theorem dX5_faultPosition_17 : decode cX5_faultPosition 17 = .ok (.if_icmp .ne 8, 3) := by decide +kernel
theorem dX5_faultPosition_20 : decode cX5_faultPosition 20 = .ok (.bipush (-5), 2) := by decide +kernel
theorem dX5_faultPosition_22 : decode cX5_faultPosition 22 = .ok (.goto 4, 3) := by decide +kernel
theorem dX5_faultPosition_25 : decode cX5_faultPosition 25 = .ok (.iload_n 1, 1) := by decide +kernel
theorem dX5_faultPosition_26 : decode cX5_faultPosition 26 = .ok (.ireturn, 1) := by decide +kernel
theorem dX5_run_0 : decode cX5_run 0 = .ok (.aload_n 0, 1) := by decide +kernel
theorem dX5_run_1 : decode cX5_run 1 = .ok (.getfield 30, 3) := by decide +kernel
theorem dX5_run_4 : decode cX5_run 4 = .ok (.aload_n 0, 1) := by decide +kernel
theorem dX5_run_5 : decode cX5_run 5 = .ok (.getfield 10, 3) := by decide +kernel
theorem dX5_run_8 : decode cX5_run 8 = .ok (.getfield 140, 3) := by decide +kernel
theorem dX5_run_11 : decode cX5_run 11 = .ok (.invokevirtual 266, 3) := by decide +kernel
theorem dX5_run_14 : decode cX5_run 14 = .ok (.istore_n 1, 1) := by decide +kernel
theorem dX5_run_15 : decode cX5_run 15 = .ok (.iload_n 1, 1) := by decide +kernel
theorem dX5_run_16 : decode cX5_run 16 = .ok (.iconst (-1), 1) := by decide +kernel
theorem dX5_run_17 : decode cX5_run 17 = .ok (.if_icmp .eq 9, 3) := by decide +kernel
theorem dX5_run_20 : decode cX5_run 20 = .ok (.sipush (-1000), 3) := by decide +kernel
theorem dX5_run_23 : decode cX5_run 23 = .ok (.iload_n 1, 1) := by decide +kernel
theorem dX5_run_24 : decode cX5_run 24 = .ok (.isub, 1) := by decide +kernel
theorem dX5_run_25 : decode cX5_run 25 = .ok (.ireturn, 1) := by decide +kernel
theorem dX5_run_26 : decode cX5_run 26 = .ok (.iconst 0, 1) := by decide +kernel
theorem dX5_run_27 : decode cX5_run 27 = .ok (.istore_n 2, 1) := by decide +kernel
theorem dX5_run_28 : decode cX5_run 28 = .ok (.aload_n 0, 1) := by decide +kernel
theorem dX5_run_29 : decode cX5_run 29 = .ok (.getfield 30, 3) := by decide +kernel
theorem dX5_run_32 : decode cX5_run 32 = .ok (.invokevirtual 269, 3) := by decide +kernel
theorem dX5_run_35 : decode cX5_run 35 = .ok (.iconst 0, 1) := by decide +kernel
theorem dX5_run_36 : decode cX5_run 36 = .ok (.istore_n 3, 1) := by decide +kernel
theorem dX5_run_37 : decode cX5_run 37 = .ok (.iload_n 3, 1) := by decide +kernel
theorem dX5_run_38 : decode cX5_run 38 = .ok (.bipush 120, 2) := by decide +kernel
theorem dX5_run_40 : decode cX5_run 40 = .ok (.if_icmp .ge 223, 3) := by decide +kernel
theorem dX5_run_43 : decode cX5_run 43 = .ok (.aload_n 0, 1) := by decide +kernel
theorem dX5_run_44 : decode cX5_run 44 = .ok (.getfield 30, 3) := by decide +kernel
theorem dX5_run_47 : decode cX5_run 47 = .ok (.invokevirtual 272, 3) := by decide +kernel
theorem dX5_run_50 : decode cX5_run 50 = .ok (.ifCond .eq 213, 3) := by decide +kernel
theorem dX5_run_53 : decode cX5_run 53 = .ok (.aload_n 0, 1) := by decide +kernel
theorem dX5_run_54 : decode cX5_run 54 = .ok (.getfield 30, 3) := by decide +kernel
theorem dX5_run_57 : decode cX5_run 57 = .ok (.aload_n 0, 1) := by decide +kernel
theorem dX5_run_58 : decode cX5_run 58 = .ok (.getfield 10, 3) := by decide +kernel
theorem dX5_run_61 : decode cX5_run 61 = .ok (.getfield 140, 3) := by decide +kernel
theorem dX5_run_64 : decode cX5_run 64 = .ok (.invokevirtual 275, 3) := by decide +kernel
theorem dX5_run_67 : decode cX5_run 67 = .ok (.aload_n 0, 1) := by decide +kernel
theorem dX5_run_68 : decode cX5_run 68 = .ok (.getfield 10, 3) := by decide +kernel
theorem dX5_run_71 : decode cX5_run 71 = .ok (.aload_n 0, 1) := by decide +kernel
theorem dX5_run_72 : decode cX5_run 72 = .ok (.getfield 30, 3) := by decide +kernel
theorem dX5_run_75 : decode cX5_run 75 = .ok (.getfield 279, 3) := by decide +kernel
theorem dX5_run_78 : decode cX5_run 78 = .ok (.invokevirtual 52, 3) := by decide +kernel
theorem dX5_run_81 : decode cX5_run 81 = .ok (.astore 4, 2) := by decide +kernel
theorem dX5_run_83 : decode cX5_run 83 = .ok (.aload_n 0, 1) := by decide +kernel
theorem dX5_run_84 : decode cX5_run 84 = .ok (.getfield 30, 3) := by decide +kernel
theorem dX5_run_87 : decode cX5_run 87 = .ok (.getfield 282, 3) := by decide +kernel
theorem dX5_run_90 : decode cX5_run 90 = .ok (.bipush 97, 2) := by decide +kernel
theorem dX5_run_92 : decode cX5_run 92 = .ok (.if_icmp .ne 50, 3) := by decide +kernel
theorem dX5_run_95 : decode cX5_run 95 = .ok (.iload_n 2, 1) := by decide +kernel
theorem dX5_run_96 : decode cX5_run 96 = .ok (.aload_n 0, 1) := by decide +kernel
theorem dX5_run_97 : decode cX5_run 97 = .ok (.aload 4, 2) := by decide +kernel
theorem dX5_run_99 : decode cX5_run 99 = .ok (.aload_n 0, 1) := by decide +kernel
theorem dX5_run_100 : decode cX5_run 100 = .ok (.getfield 10, 3) := by decide +kernel
theorem dX5_run_103 : decode cX5_run 103 = .ok (.aload_n 0, 1) := by decide +kernel
theorem dX5_run_104 : decode cX5_run 104 = .ok (.getfield 30, 3) := by decide +kernel
theorem dX5_run_107 : decode cX5_run 107 = .ok (.getfield 279, 3) := by decide +kernel
theorem dX5_run_110 : decode cX5_run 110 = .ok (.aload_n 0, 1) := by decide +kernel
theorem dX5_run_111 : decode cX5_run 111 = .ok (.getfield 30, 3) := by decide +kernel
theorem dX5_run_114 : decode cX5_run 114 = .ok (.getfield 285, 3) := by decide +kernel
theorem dX5_run_117 : decode cX5_run 117 = .ok (.invokevirtual 74, 3) := by decide +kernel
theorem dX5_run_120 : decode cX5_run 120 = .ok (.aload_n 0, 1) := by decide +kernel
theorem dX5_run_121 : decode cX5_run 121 = .ok (.getfield 30, 3) := by decide +kernel
theorem dX5_run_124 : decode cX5_run 124 = .ok (.getfield 288, 3) := by decide +kernel
theorem dX5_run_127 : decode cX5_run 127 = .ok (.aload_n 0, 1) := by decide +kernel
theorem dX5_run_128 : decode cX5_run 128 = .ok (.getfield 30, 3) := by decide +kernel
theorem dX5_run_131 : decode cX5_run 131 = .ok (.getfield 291, 3) := by decide +kernel
theorem dX5_run_134 : decode cX5_run 134 = .ok (.invokevirtual 157, 3) := by decide +kernel
theorem dX5_run_137 : decode cX5_run 137 = .ok (.iadd, 1) := by decide +kernel
theorem dX5_run_138 : decode cX5_run 138 = .ok (.istore_n 2, 1) := by decide +kernel
theorem dX5_run_139 : decode cX5_run 139 = .ok (.goto 118, 3) := by decide +kernel
theorem dX5_run_142 : decode cX5_run 142 = .ok (.aload_n 0, 1) := by decide +kernel
theorem dX5_run_143 : decode cX5_run 143 = .ok (.getfield 30, 3) := by decide +kernel
theorem dX5_run_146 : decode cX5_run 146 = .ok (.getfield 282, 3) := by decide +kernel
theorem dX5_run_149 : decode cX5_run 149 = .ok (.bipush 116, 2) := by decide +kernel
theorem dX5_run_151 : decode cX5_run 151 = .ok (.if_icmp .ne 35, 3) := by decide +kernel
theorem dX5_run_154 : decode cX5_run 154 = .ok (.iconst 0, 1) := by decide +kernel
theorem dX5_run_155 : decode cX5_run 155 = .ok (.istore 5, 2) := by decide +kernel
theorem dX5_run_157 : decode cX5_run 157 = .ok (.iload 5, 2) := by decide +kernel
theorem dX5_run_159 : decode cX5_run 159 = .ok (.aload_n 0, 1) := by decide +kernel
theorem dX5_run_160 : decode cX5_run 160 = .ok (.getfield 30, 3) := by decide +kernel
theorem dX5_run_163 : decode cX5_run 163 = .ok (.getfield 288, 3) := by decide +kernel
theorem dX5_run_166 : decode cX5_run 166 = .ok (.if_icmp .ge 17, 3) := by decide +kernel
theorem dX5_run_169 : decode cX5_run 169 = .ok (.aload_n 0, 1) := by decide +kernel
theorem dX5_run_170 : decode cX5_run 170 = .ok (.getfield 10, 3) := by decide +kernel
theorem dX5_run_173 : decode cX5_run 173 = .ok (.invokevirtual 133, 3) := by decide +kernel
theorem dX5_run_176 : decode cX5_run 176 = .ok (.pop, 1) := by decide +kernel
theorem dX5_run_177 : decode cX5_run 177 = .ok (.iinc 5 1, 3) := by decide +kernel
theorem dX5_run_180 : decode cX5_run 180 = .ok (.goto (-23), 3) := by decide +kernel
theorem dX5_run_183 : decode cX5_run 183 = .ok (.goto 74, 3) := by decide +kernel
theorem dX5_run_186 : decode cX5_run 186 = .ok (.aload_n 0, 1) := by decide +kernel
theorem dX5_run_187 : decode cX5_run 187 = .ok (.getfield 30, 3) := by decide +kernel
theorem dX5_run_190 : decode cX5_run 190 = .ok (.getfield 282, 3) := by decide +kernel
theorem dX5_run_193 : decode cX5_run 193 = .ok (.bipush 102, 2) := by decide +kernel
theorem dX5_run_195 : decode cX5_run 195 = .ok (.if_icmp .ne 21, 3) := by decide +kernel
theorem dX5_run_198 : decode cX5_run 198 = .ok (.aload 4, 2) := by decide +kernel
theorem dX5_run_200 : decode cX5_run 200 = .ok (.ifnull 16, 3) := by decide +kernel
theorem dX5_run_203 : decode cX5_run 203 = .ok (.aload_n 0, 1) := by decide +kernel
theorem dX5_run_204 : decode cX5_run 204 = .ok (.getfield 10, 3) := by decide +kernel
theorem dX5_run_207 : decode cX5_run 207 = .ok (.aload 4, 2) := by decide +kernel
theorem dX5_run_209 : decode cX5_run 209 = .ok (.invokevirtual 136, 3) := by decide +kernel
theorem dX5_run_212 : decode cX5_run 212 = .ok (.pop, 1) := by decide +kernel
theorem dX5_run_213 : decode cX5_run 213 = .ok (.goto 44, 3) := by decide +kernel
theorem dX5_run_216 : decode cX5_run 216 = .ok (.aload_n 0, 1) := by decide +kernel
theorem dX5_run_217 : decode cX5_run 217 = .ok (.getfield 30, 3) := by decide +kernel
theorem dX5_run_220 : decode cX5_run 220 = .ok (.getfield 282, 3) := by decide +kernel
theorem dX5_run_223 : decode cX5_run 223 = .ok (.bipush 103, 2) := by decide +kernel
theorem dX5_run_225 : decode cX5_run 225 = .ok (.if_icmp .ne 32, 3) := by decide +kernel
theorem dX5_run_228 : decode cX5_run 228 = .ok (.aload 4, 2) := by decide +kernel
theorem dX5_run_230 : decode cX5_run 230 = .ok (.ifnull 27, 3) := by decide +kernel
theorem dX5_run_233 : decode cX5_run 233 = .ok (.aload_n 0, 1) := by decide +kernel
theorem dX5_run_234 : decode cX5_run 234 = .ok (.getfield 10, 3) := by decide +kernel
theorem dX5_run_237 : decode cX5_run 237 = .ok (.aload 4, 2) := by decide +kernel
theorem dX5_run_239 : decode cX5_run 239 = .ok (.aload_n 0, 1) := by decide +kernel
theorem dX5_run_240 : decode cX5_run 240 = .ok (.getfield 30, 3) := by decide +kernel
theorem dX5_run_243 : decode cX5_run 243 = .ok (.getfield 279, 3) := by decide +kernel
theorem dX5_run_246 : decode cX5_run 246 = .ok (.aload_n 0, 1) := by decide +kernel
theorem dX5_run_247 : decode cX5_run 247 = .ok (.getfield 30, 3) := by decide +kernel
theorem dX5_run_250 : decode cX5_run 250 = .ok (.getfield 288, 3) := by decide +kernel
theorem dX5_run_253 : decode cX5_run 253 = .ok (.invokevirtual 118, 3) := by decide +kernel
theorem dX5_run_256 : decode cX5_run 256 = .ok (.pop, 1) := by decide +kernel
theorem dX5_run_257 : decode cX5_run 257 = .ok (.iinc 3 1, 3) := by decide +kernel
theorem dX5_run_260 : decode cX5_run 260 = .ok (.goto (-223), 3) := by decide +kernel
theorem dX5_run_263 : decode cX5_run 263 = .ok (.iload_n 2, 1) := by decide +kernel
theorem dX5_run_264 : decode cX5_run 264 = .ok (.ireturn, 1) := by decide +kernel
theorem dX5_save_0 : decode cX5_save 0 = .ok (.iload_n 1, 1) := by decide +kernel
theorem dX5_save_1 : decode cX5_save 1 = .ok (.iconst 0, 1) := by decide +kernel
theorem dX5_save_2 : decode cX5_save 2 = .ok (.iconst 1, 1) := by decide +kernel
theorem dX5_save_3 : decode cX5_save 3 = .ok (.invokestatic 38, 3) := by decide +kernel
theorem dX5_save_6 : decode cX5_save 6 = .ok (.ifCond .eq 5, 3) := by decide +kernel
theorem dX5_save_9 : decode cX5_save 9 = .ok (.iconst (-1), 1) := by decide +kernel
theorem dX5_save_10 : decode cX5_save 10 = .ok (.ireturn, 1) := by decide +kernel
theorem dX5_save_11 : decode cX5_save 11 = .ok (.aload_n 0, 1) := by decide +kernel
theorem dX5_save_12 : decode cX5_save 12 = .ok (.getfield 19, 3) := by decide +kernel
theorem dX5_save_15 : decode cX5_save 15 = .ok (.iload_n 1, 1) := by decide +kernel
theorem dX5_save_16 : decode cX5_save 16 = .ok (.aaload, 1) := by decide +kernel
theorem dX5_save_17 : decode cX5_save 17 = .ok (.aload_n 0, 1) := by decide +kernel
theorem dX5_save_18 : decode cX5_save 18 = .ok (.getfield 10, 3) := by decide +kernel
theorem dX5_save_21 : decode cX5_save 21 = .ok (.invokevirtual 248, 3) := by decide +kernel
theorem dX5_save_24 : decode cX5_save 24 = .ok (.aload_n 0, 1) := by decide +kernel
theorem dX5_save_25 : decode cX5_save 25 = .ok (.getfield 23, 3) := by decide +kernel
theorem dX5_save_28 : decode cX5_save 28 = .ok (.iload_n 1, 1) := by decide +kernel
theorem dX5_save_29 : decode cX5_save 29 = .ok (.iconst 1, 1) := by decide +kernel
theorem dX5_save_30 : decode cX5_save 30 = .ok (.bastore, 1) := by decide +kernel
theorem dX5_save_31 : decode cX5_save 31 = .ok (.aload_n 0, 1) := by decide +kernel
theorem dX5_save_32 : decode cX5_save 32 = .ok (.getfield 10, 3) := by decide +kernel
theorem dX5_save_35 : decode cX5_save 35 = .ok (.getfield 205, 3) := by decide +kernel
theorem dX5_save_38 : decode cX5_save 38 = .ok (.ireturn, 1) := by decide +kernel
theorem dX5_restore_0 : decode cX5_restore 0 = .ok (.iload_n 1, 1) := by decide +kernel
theorem dX5_restore_1 : decode cX5_restore 1 = .ok (.iconst 0, 1) := by decide +kernel
theorem dX5_restore_2 : decode cX5_restore 2 = .ok (.iconst 1, 1) := by decide +kernel
theorem dX5_restore_3 : decode cX5_restore 3 = .ok (.invokestatic 38, 3) := by decide +kernel
theorem dX5_restore_6 : decode cX5_restore 6 = .ok (.ifCond .eq 5, 3) := by decide +kernel
theorem dX5_restore_9 : decode cX5_restore 9 = .ok (.iconst (-1), 1) := by decide +kernel
theorem dX5_restore_10 : decode cX5_restore 10 = .ok (.ireturn, 1) := by decide +kernel
theorem dX5_restore_11 : decode cX5_restore 11 = .ok (.aload_n 0, 1) := by decide +kernel
theorem dX5_restore_12 : decode cX5_restore 12 = .ok (.getfield 23, 3) := by decide +kernel
theorem dX5_restore_15 : decode cX5_restore 15 = .ok (.iload_n 1, 1) := by decide +kernel
theorem dX5_restore_16 : decode cX5_restore 16 = .ok (.baload, 1) := by decide +kernel
theorem dX5_restore_17 : decode cX5_restore 17 = .ok (.ifCond .ne 6, 3) := by decide +kernel
theorem dX5_restore_20 : decode cX5_restore 20 = .ok (.bipush (-5), 2) := by decide +kernel
theorem dX5_restore_22 : decode cX5_restore 22 = .ok (.ireturn, 1) := by decide +kernel
theorem dX5_restore_23 : decode cX5_restore 23 = .ok (.aload_n 0, 1) := by decide +kernel
theorem dX5_restore_24 : decode cX5_restore 24 = .ok (.getfield 10, 3) := by decide +kernel
theorem dX5_restore_27 : decode cX5_restore 27 = .ok (.aload_n 0, 1) := by decide +kernel
theorem dX5_restore_28 : decode cX5_restore 28 = .ok (.getfield 19, 3) := by decide +kernel
theorem dX5_restore_31 : decode cX5_restore 31 = .ok (.iload_n 1, 1) := by decide +kernel
theorem dX5_restore_32 : decode cX5_restore 32 = .ok (.aaload, 1) := by decide +kernel
theorem dX5_restore_33 : decode cX5_restore 33 = .ok (.invokevirtual 248, 3) := by decide +kernel
theorem dX5_restore_36 : decode cX5_restore 36 = .ok (.aload_n 0, 1) := by decide +kernel
theorem dX5_restore_37 : decode cX5_restore 37 = .ok (.getfield 10, 3) := by decide +kernel
theorem dX5_restore_40 : decode cX5_restore 40 = .ok (.getfield 205, 3) := by decide +kernel
theorem dX5_restore_43 : decode cX5_restore 43 = .ok (.ireturn, 1) := by decide +kernel
theorem dX5_checksum_0 : decode cX5_checksum 0 = .ok (.ldc2_w 294, 3) := by decide +kernel
theorem dX5_checksum_3 : decode cX5_checksum 3 = .ok (.lstore_n 1, 1) := by decide +kernel
theorem dX5_checksum_4 : decode cX5_checksum 4 = .ok (.ldc2_w 296, 3) := by decide +kernel
theorem dX5_checksum_7 : decode cX5_checksum 7 = .ok (.lload_n 1, 1) := by decide +kernel
theorem dX5_checksum_8 : decode cX5_checksum 8 = .ok (.lmul, 1) := by decide +kernel
theorem dX5_checksum_9 : decode cX5_checksum 9 = .ok (.aload_n 0, 1) := by decide +kernel
theorem dX5_checksum_10 : decode cX5_checksum 10 = .ok (.getfield 10, 3) := by decide +kernel
theorem dX5_checksum_13 : decode cX5_checksum 13 = .ok (.getfield 205, 3) := by decide +kernel
theorem dX5_checksum_16 : decode cX5_checksum 16 = .ok (.i2l, 1) := by decide +kernel
theorem dX5_checksum_17 : decode cX5_checksum 17 = .ok (.ladd, 1) := by decide +kernel
theorem dX5_checksum_18 : decode cX5_checksum 18 = .ok (.lstore_n 1, 1) := by decide +kernel
theorem dX5_checksum_19 : decode cX5_checksum 19 = .ok (.ldc2_w 296, 3) := by decide +kernel
theorem dX5_checksum_22 : decode cX5_checksum 22 = .ok (.lload_n 1, 1) := by decide +kernel
theorem dX5_checksum_23 : decode cX5_checksum 23 = .ok (.lmul, 1) := by decide +kernel
theorem dX5_checksum_24 : decode cX5_checksum 24 = .ok (.aload_n 0, 1) := by decide +kernel
theorem dX5_checksum_25 : decode cX5_checksum 25 = .ok (.getfield 10, 3) := by decide +kernel
theorem dX5_checksum_28 : decode cX5_checksum 28 = .ok (.getfield 202, 3) := by decide +kernel
theorem dX5_checksum_31 : decode cX5_checksum 31 = .ok (.i2l, 1) := by decide +kernel
theorem dX5_checksum_32 : decode cX5_checksum 32 = .ok (.ladd, 1) := by decide +kernel
theorem dX5_checksum_33 : decode cX5_checksum 33 = .ok (.lstore_n 1, 1) := by decide +kernel
theorem dX5_checksum_34 : decode cX5_checksum 34 = .ok (.ldc2_w 296, 3) := by decide +kernel
theorem dX5_checksum_37 : decode cX5_checksum 37 = .ok (.lload_n 1, 1) := by decide +kernel
theorem dX5_checksum_38 : decode cX5_checksum 38 = .ok (.lmul, 1) := by decide +kernel
theorem dX5_checksum_39 : decode cX5_checksum 39 = .ok (.aload_n 0, 1) := by decide +kernel
theorem dX5_checksum_40 : decode cX5_checksum 40 = .ok (.getfield 10, 3) := by decide +kernel
theorem dX5_checksum_43 : decode cX5_checksum 43 = .ok (.invokevirtual 61, 3) := by decide +kernel
theorem dX5_checksum_46 : decode cX5_checksum 46 = .ok (.i2l, 1) := by decide +kernel
theorem dX5_checksum_47 : decode cX5_checksum 47 = .ok (.ladd, 1) := by decide +kernel
theorem dX5_checksum_48 : decode cX5_checksum 48 = .ok (.lstore_n 1, 1) := by decide +kernel
theorem dX5_checksum_49 : decode cX5_checksum 49 = .ok (.ldc2_w 296, 3) := by decide +kernel
theorem dX5_checksum_52 : decode cX5_checksum 52 = .ok (.lload_n 1, 1) := by decide +kernel
theorem dX5_checksum_53 : decode cX5_checksum 53 = .ok (.lmul, 1) := by decide +kernel
theorem dX5_checksum_54 : decode cX5_checksum 54 = .ok (.aload_n 0, 1) := by decide +kernel
theorem dX5_checksum_55 : decode cX5_checksum 55 = .ok (.getfield 10, 3) := by decide +kernel
theorem dX5_checksum_58 : decode cX5_checksum 58 = .ok (.invokevirtual 161, 3) := by decide +kernel
theorem dX5_checksum_61 : decode cX5_checksum 61 = .ok (.i2l, 1) := by decide +kernel
theorem dX5_checksum_62 : decode cX5_checksum 62 = .ok (.ladd, 1) := by decide +kernel
theorem dX5_checksum_63 : decode cX5_checksum 63 = .ok (.lstore_n 1, 1) := by decide +kernel
theorem dX5_checksum_64 : decode cX5_checksum 64 = .ok (.iconst 0, 1) := by decide +kernel
theorem dX5_checksum_65 : decode cX5_checksum 65 = .ok (.istore_n 3, 1) := by decide +kernel
theorem dX5_checksum_66 : decode cX5_checksum 66 = .ok (.iload_n 3, 1) := by decide +kernel
theorem dX5_checksum_67 : decode cX5_checksum 67 = .ok (.aload_n 0, 1) := by decide +kernel
theorem dX5_checksum_68 : decode cX5_checksum 68 = .ok (.getfield 10, 3) := by decide +kernel
theorem dX5_checksum_71 : decode cX5_checksum 71 = .ok (.getfield 140, 3) := by decide +kernel
theorem dX5_checksum_74 : decode cX5_checksum 74 = .ok (.if_icmp .ge 24, 3) := by decide +kernel
theorem dX5_checksum_77 : decode cX5_checksum 77 = .ok (.aload_n 0, 1) := by decide +kernel
theorem dX5_checksum_78 : decode cX5_checksum 78 = .ok (.lload_n 1, 1) := by decide +kernel
theorem dX5_checksum_79 : decode cX5_checksum 79 = .ok (.aload_n 0, 1) := by decide +kernel
theorem dX5_checksum_80 : decode cX5_checksum 80 = .ok (.getfield 10, 3) := by decide +kernel
theorem dX5_checksum_83 : decode cX5_checksum 83 = .ok (.getfield 298, 3) := by decide +kernel
theorem dX5_checksum_86 : decode cX5_checksum 86 = .ok (.iload_n 3, 1) := by decide +kernel
theorem dX5_checksum_87 : decode cX5_checksum 87 = .ok (.aaload, 1) := by decide +kernel
theorem dX5_checksum_88 : decode cX5_checksum 88 = .ok (.invokevirtual 302, 3) := by decide +kernel
theorem dX5_checksum_91 : decode cX5_checksum 91 = .ok (.lstore_n 1, 1) := by decide +kernel
theorem dX5_checksum_92 : decode cX5_checksum 92 = .ok (.iinc 3 1, 3) := by decide +kernel
theorem dX5_checksum_95 : decode cX5_checksum 95 = .ok (.goto (-29), 3) := by decide +kernel
theorem dX5_checksum_98 : decode cX5_checksum 98 = .ok (.aload_n 0, 1) := by decide +kernel
theorem dX5_checksum_99 : decode cX5_checksum 99 = .ok (.getfield 10, 3) := by decide +kernel
theorem dX5_checksum_102 : decode cX5_checksum 102 = .ok (.getfield 42, 3) := by decide +kernel
theorem dX5_checksum_105 : decode cX5_checksum 105 = .ok (.astore_n 3, 1) := by decide +kernel
theorem dX5_checksum_106 : decode cX5_checksum 106 = .ok (.iconst 0, 1) := by decide +kernel
theorem dX5_checksum_107 : decode cX5_checksum 107 = .ok (.istore 4, 2) := by decide +kernel
theorem dX5_checksum_109 : decode cX5_checksum 109 = .ok (.iload 4, 2) := by decide +kernel
theorem dX5_checksum_111 : decode cX5_checksum 111 = .ok (.aload_n 3, 1) := by decide +kernel
theorem dX5_checksum_112 : decode cX5_checksum 112 = .ok (.getfield 46, 3) := by decide +kernel
theorem dX5_checksum_115 : decode cX5_checksum 115 = .ok (.if_icmp .ge 42, 3) := by decide +kernel
theorem dX5_checksum_118 : decode cX5_checksum 118 = .ok (.aload_n 3, 1) := by decide +kernel
theorem dX5_checksum_119 : decode cX5_checksum 119 = .ok (.iload 4, 2) := by decide +kernel
theorem dX5_checksum_121 : decode cX5_checksum 121 = .ok (.invokevirtual 306, 3) := by decide +kernel
theorem dX5_checksum_124 : decode cX5_checksum 124 = .ok (.ifCond .eq 27, 3) := by decide +kernel
theorem dX5_checksum_127 : decode cX5_checksum 127 = .ok (.ldc2_w 296, 3) := by decide +kernel
theorem dX5_checksum_130 : decode cX5_checksum 130 = .ok (.lload_n 1, 1) := by decide +kernel
theorem dX5_checksum_131 : decode cX5_checksum 131 = .ok (.lmul, 1) := by decide +kernel
theorem dX5_checksum_132 : decode cX5_checksum 132 = .ok (.iload 4, 2) := by decide +kernel
theorem dX5_checksum_134 : decode cX5_checksum 134 = .ok (.i2l, 1) := by decide +kernel
theorem dX5_checksum_135 : decode cX5_checksum 135 = .ok (.ladd, 1) := by decide +kernel
theorem dX5_checksum_136 : decode cX5_checksum 136 = .ok (.lstore_n 1, 1) := by decide +kernel
theorem dX5_checksum_137 : decode cX5_checksum 137 = .ok (.ldc2_w 296, 3) := by decide +kernel
theorem dX5_checksum_140 : decode cX5_checksum 140 = .ok (.lload_n 1, 1) := by decide +kernel
theorem dX5_checksum_141 : decode cX5_checksum 141 = .ok (.lmul, 1) := by decide +kernel
theorem dX5_checksum_142 : decode cX5_checksum 142 = .ok (.aload_n 3, 1) := by decide +kernel
theorem dX5_checksum_143 : decode cX5_checksum 143 = .ok (.iload 4, 2) := by decide +kernel
theorem dX5_checksum_145 : decode cX5_checksum 145 = .ok (.invokevirtual 238, 3) := by decide +kernel
theorem dX5_checksum_148 : decode cX5_checksum 148 = .ok (.i2l, 1) := by decide +kernel
theorem dX5_checksum_149 : decode cX5_checksum 149 = .ok (.ladd, 1) := by decide +kernel
theorem dX5_checksum_150 : decode cX5_checksum 150 = .ok (.lstore_n 1, 1) := by decide +kernel
theorem dX5_checksum_151 : decode cX5_checksum 151 = .ok (.iinc 4 1, 3) := by decide +kernel
theorem dX5_checksum_154 : decode cX5_checksum 154 = .ok (.goto (-45), 3) := by decide +kernel
theorem dX5_checksum_157 : decode cX5_checksum 157 = .ok (.lload_n 1, 1) := by decide +kernel
theorem dX5_checksum_158 : decode cX5_checksum 158 = .ok (.lreturn, 1) := by decide +kernel
theorem dX5_mixPort_0 : decode cX5_mixPort 0 = .ok (.lload_n 1, 1) := by decide +kernel
theorem dX5_mixPort_1 : decode cX5_mixPort 1 = .ok (.lstore 4, 2) := by decide +kernel
theorem dX5_mixPort_3 : decode cX5_mixPort 3 = .ok (.ldc2_w 296, 3) := by decide +kernel
theorem dX5_mixPort_6 : decode cX5_mixPort 6 = .ok (.lload 4, 2) := by decide +kernel
theorem dX5_mixPort_8 : decode cX5_mixPort 8 = .ok (.lmul, 1) := by decide +kernel
theorem dX5_mixPort_9 : decode cX5_mixPort 9 = .ok (.aload_n 3, 1) := by decide +kernel
theorem dX5_mixPort_10 : decode cX5_mixPort 10 = .ok (.invokevirtual 164, 3) := by decide +kernel
theorem dX5_mixPort_13 : decode cX5_mixPort 13 = .ok (.i2l, 1) := by decide +kernel
theorem dX5_mixPort_14 : decode cX5_mixPort 14 = .ok (.ladd, 1) := by decide +kernel
theorem dX5_mixPort_15 : decode cX5_mixPort 15 = .ok (.lstore 4, 2) := by decide +kernel
theorem dX5_mixPort_17 : decode cX5_mixPort 17 = .ok (.ldc2_w 296, 3) := by decide +kernel
theorem dX5_mixPort_20 : decode cX5_mixPort 20 = .ok (.lload 4, 2) := by decide +kernel
theorem dX5_mixPort_22 : decode cX5_mixPort 22 = .ok (.lmul, 1) := by decide +kernel
theorem dX5_mixPort_23 : decode cX5_mixPort 23 = .ok (.aload_n 3, 1) := by decide +kernel
theorem dX5_mixPort_24 : decode cX5_mixPort 24 = .ok (.getfield 122, 3) := by decide +kernel
theorem dX5_mixPort_27 : decode cX5_mixPort 27 = .ok (.i2l, 1) := by decide +kernel
theorem dX5_mixPort_28 : decode cX5_mixPort 28 = .ok (.ladd, 1) := by decide +kernel
theorem dX5_mixPort_29 : decode cX5_mixPort 29 = .ok (.lstore 4, 2) := by decide +kernel
theorem dX5_mixPort_31 : decode cX5_mixPort 31 = .ok (.ldc2_w 296, 3) := by decide +kernel
theorem dX5_mixPort_34 : decode cX5_mixPort 34 = .ok (.lload 4, 2) := by decide +kernel
theorem dX5_mixPort_36 : decode cX5_mixPort 36 = .ok (.lmul, 1) := by decide +kernel
theorem dX5_mixPort_37 : decode cX5_mixPort 37 = .ok (.aload_n 3, 1) := by decide +kernel
theorem dX5_mixPort_38 : decode cX5_mixPort 38 = .ok (.getfield 180, 3) := by decide +kernel
theorem dX5_mixPort_41 : decode cX5_mixPort 41 = .ok (.i2l, 1) := by decide +kernel
theorem dX5_mixPort_42 : decode cX5_mixPort 42 = .ok (.ladd, 1) := by decide +kernel
theorem dX5_mixPort_43 : decode cX5_mixPort 43 = .ok (.lstore 4, 2) := by decide +kernel
theorem dX5_mixPort_45 : decode cX5_mixPort 45 = .ok (.ldc2_w 296, 3) := by decide +kernel
theorem dX5_mixPort_48 : decode cX5_mixPort 48 = .ok (.lload 4, 2) := by decide +kernel
theorem dX5_mixPort_50 : decode cX5_mixPort 50 = .ok (.lmul, 1) := by decide +kernel
theorem dX5_mixPort_51 : decode cX5_mixPort 51 = .ok (.aload_n 3, 1) := by decide +kernel
theorem dX5_mixPort_52 : decode cX5_mixPort 52 = .ok (.getfield 199, 3) := by decide +kernel
theorem dX5_mixPort_55 : decode cX5_mixPort 55 = .ok (.i2l, 1) := by decide +kernel
theorem dX5_mixPort_56 : decode cX5_mixPort 56 = .ok (.ladd, 1) := by decide +kernel
theorem dX5_mixPort_57 : decode cX5_mixPort 57 = .ok (.lstore 4, 2) := by decide +kernel
theorem dX5_mixPort_59 : decode cX5_mixPort 59 = .ok (.ldc2_w 296, 3) := by decide +kernel
theorem dX5_mixPort_62 : decode cX5_mixPort 62 = .ok (.lload 4, 2) := by decide +kernel
theorem dX5_mixPort_64 : decode cX5_mixPort 64 = .ok (.lmul, 1) := by decide +kernel
theorem dX5_mixPort_65 : decode cX5_mixPort 65 = .ok (.aload_n 3, 1) := by decide +kernel
theorem dX5_mixPort_66 : decode cX5_mixPort 66 = .ok (.getfield 190, 3) := by decide +kernel
theorem dX5_mixPort_69 : decode cX5_mixPort 69 = .ok (.i2l, 1) := by decide +kernel
theorem dX5_mixPort_70 : decode cX5_mixPort 70 = .ok (.ladd, 1) := by decide +kernel
theorem dX5_mixPort_71 : decode cX5_mixPort 71 = .ok (.lstore 4, 2) := by decide +kernel
theorem dX5_mixPort_73 : decode cX5_mixPort 73 = .ok (.aload_n 3, 1) := by decide +kernel
theorem dX5_mixPort_74 : decode cX5_mixPort 74 = .ok (.getfield 310, 3) := by decide +kernel
theorem dX5_mixPort_77 : decode cX5_mixPort 77 = .ok (.astore 6, 2) := by decide +kernel
theorem dX5_mixPort_79 : decode cX5_mixPort 79 = .ok (.aload 6, 2) := by decide +kernel
theorem dX5_mixPort_81 : decode cX5_mixPort 81 = .ok (.arraylength, 1) := by decide +kernel
theorem dX5_mixPort_82 : decode cX5_mixPort 82 = .ok (.istore 7, 2) := by decide +kernel
theorem dX5_mixPort_84 : decode cX5_mixPort 84 = .ok (.iconst 0, 1) := by decide +kernel
theorem dX5_mixPort_85 : decode cX5_mixPort 85 = .ok (.istore 8, 2) := by decide +kernel
theorem dX5_mixPort_87 : decode cX5_mixPort 87 = .ok (.iload 8, 2) := by decide +kernel
theorem dX5_mixPort_89 : decode cX5_mixPort 89 = .ok (.iload 7, 2) := by decide +kernel
theorem dX5_mixPort_91 : decode cX5_mixPort 91 = .ok (.if_icmp .ge 134, 3) := by decide +kernel
theorem dX5_mixPort_94 : decode cX5_mixPort 94 = .ok (.aload 6, 2) := by decide +kernel
theorem dX5_mixPort_96 : decode cX5_mixPort 96 = .ok (.iload 8, 2) := by decide +kernel
theorem dX5_mixPort_98 : decode cX5_mixPort 98 = .ok (.aaload, 1) := by decide +kernel
theorem dX5_mixPort_99 : decode cX5_mixPort 99 = .ok (.astore 9, 2) := by decide +kernel
theorem dX5_mixPort_101 : decode cX5_mixPort 101 = .ok (.ldc2_w 296, 3) := by decide +kernel
theorem dX5_mixPort_104 : decode cX5_mixPort 104 = .ok (.lload 4, 2) := by decide +kernel
theorem dX5_mixPort_106 : decode cX5_mixPort 106 = .ok (.lmul, 1) := by decide +kernel
theorem dX5_mixPort_107 : decode cX5_mixPort 107 = .ok (.aload 9, 2) := by decide +kernel
theorem dX5_mixPort_109 : decode cX5_mixPort 109 = .ok (.getfield 171, 3) := by decide +kernel
theorem dX5_mixPort_112 : decode cX5_mixPort 112 = .ok (.i2l, 1) := by decide +kernel
theorem dX5_mixPort_113 : decode cX5_mixPort 113 = .ok (.ladd, 1) := by decide +kernel
theorem dX5_mixPort_114 : decode cX5_mixPort 114 = .ok (.lstore 4, 2) := by decide +kernel
theorem dX5_mixPort_116 : decode cX5_mixPort 116 = .ok (.ldc2_w 296, 3) := by decide +kernel
theorem dX5_mixPort_119 : decode cX5_mixPort 119 = .ok (.lload 4, 2) := by decide +kernel
theorem dX5_mixPort_121 : decode cX5_mixPort 121 = .ok (.lmul, 1) := by decide +kernel
theorem dX5_mixPort_122 : decode cX5_mixPort 122 = .ok (.aload 9, 2) := by decide +kernel
theorem dX5_mixPort_124 : decode cX5_mixPort 124 = .ok (.getfield 174, 3) := by decide +kernel
theorem dX5_mixPort_127 : decode cX5_mixPort 127 = .ok (.i2l, 1) := by decide +kernel
theorem dX5_mixPort_128 : decode cX5_mixPort 128 = .ok (.ladd, 1) := by decide +kernel
theorem dX5_mixPort_129 : decode cX5_mixPort 129 = .ok (.lstore 4, 2) := by decide +kernel
theorem dX5_mixPort_131 : decode cX5_mixPort 131 = .ok (.ldc2_w 296, 3) := by decide +kernel
theorem dX5_mixPort_134 : decode cX5_mixPort 134 = .ok (.lload 4, 2) := by decide +kernel
theorem dX5_mixPort_136 : decode cX5_mixPort 136 = .ok (.lmul, 1) := by decide +kernel
theorem dX5_mixPort_137 : decode cX5_mixPort 137 = .ok (.aload 9, 2) := by decide +kernel
theorem dX5_mixPort_139 : decode cX5_mixPort 139 = .ok (.getfield 92, 3) := by decide +kernel
theorem dX5_mixPort_142 : decode cX5_mixPort 142 = .ok (.i2l, 1) := by decide +kernel
theorem dX5_mixPort_143 : decode cX5_mixPort 143 = .ok (.ladd, 1) := by decide +kernel
theorem dX5_mixPort_144 : decode cX5_mixPort 144 = .ok (.lstore 4, 2) := by decide +kernel
theorem dX5_mixPort_146 : decode cX5_mixPort 146 = .ok (.ldc2_w 296, 3) := by decide +kernel
theorem dX5_mixPort_149 : decode cX5_mixPort 149 = .ok (.lload 4, 2) := by decide +kernel
theorem dX5_mixPort_151 : decode cX5_mixPort 151 = .ok (.lmul, 1) := by decide +kernel
theorem dX5_mixPort_152 : decode cX5_mixPort 152 = .ok (.aload 9, 2) := by decide +kernel
theorem dX5_mixPort_154 : decode cX5_mixPort 154 = .ok (.getfield 83, 3) := by decide +kernel
theorem dX5_mixPort_157 : decode cX5_mixPort 157 = .ok (.i2l, 1) := by decide +kernel
theorem dX5_mixPort_158 : decode cX5_mixPort 158 = .ok (.ladd, 1) := by decide +kernel
theorem dX5_mixPort_159 : decode cX5_mixPort 159 = .ok (.lstore 4, 2) := by decide +kernel
theorem dX5_mixPort_161 : decode cX5_mixPort 161 = .ok (.ldc2_w 296, 3) := by decide +kernel
theorem dX5_mixPort_164 : decode cX5_mixPort 164 = .ok (.lload 4, 2) := by decide +kernel
theorem dX5_mixPort_166 : decode cX5_mixPort 166 = .ok (.lmul, 1) := by decide +kernel
theorem dX5_mixPort_167 : decode cX5_mixPort 167 = .ok (.aload 9, 2) := by decide +kernel
theorem dX5_mixPort_169 : decode cX5_mixPort 169 = .ok (.getfield 103, 3) := by decide +kernel
theorem dX5_mixPort_172 : decode cX5_mixPort 172 = .ok (.invokestatic 99, 3) := by decide +kernel
theorem dX5_mixPort_175 : decode cX5_mixPort 175 = .ok (.i2l, 1) := by decide +kernel
theorem dX5_mixPort_176 : decode cX5_mixPort 176 = .ok (.ladd, 1) := by decide +kernel
theorem dX5_mixPort_177 : decode cX5_mixPort 177 = .ok (.lstore 4, 2) := by decide +kernel
theorem dX5_mixPort_179 : decode cX5_mixPort 179 = .ok (.ldc2_w 296, 3) := by decide +kernel
theorem dX5_mixPort_182 : decode cX5_mixPort 182 = .ok (.lload 4, 2) := by decide +kernel
theorem dX5_mixPort_184 : decode cX5_mixPort 184 = .ok (.lmul, 1) := by decide +kernel
theorem dX5_mixPort_185 : decode cX5_mixPort 185 = .ok (.aload 9, 2) := by decide +kernel
theorem dX5_mixPort_187 : decode cX5_mixPort 187 = .ok (.getfield 183, 3) := by decide +kernel
theorem dX5_mixPort_190 : decode cX5_mixPort 190 = .ok (.i2l, 1) := by decide +kernel
theorem dX5_mixPort_191 : decode cX5_mixPort 191 = .ok (.ladd, 1) := by decide +kernel
theorem dX5_mixPort_192 : decode cX5_mixPort 192 = .ok (.lstore 4, 2) := by decide +kernel
theorem dX5_mixPort_194 : decode cX5_mixPort 194 = .ok (.ldc2_w 296, 3) := by decide +kernel
theorem dX5_mixPort_197 : decode cX5_mixPort 197 = .ok (.lload 4, 2) := by decide +kernel
theorem dX5_mixPort_199 : decode cX5_mixPort 199 = .ok (.lmul, 1) := by decide +kernel
theorem dX5_mixPort_200 : decode cX5_mixPort 200 = .ok (.aload 9, 2) := by decide +kernel
theorem dX5_mixPort_202 : decode cX5_mixPort 202 = .ok (.getfield 208, 3) := by decide +kernel
theorem dX5_mixPort_205 : decode cX5_mixPort 205 = .ok (.i2l, 1) := by decide +kernel
theorem dX5_mixPort_206 : decode cX5_mixPort 206 = .ok (.ladd, 1) := by decide +kernel
theorem dX5_mixPort_207 : decode cX5_mixPort 207 = .ok (.lstore 4, 2) := by decide +kernel
theorem dX5_mixPort_209 : decode cX5_mixPort 209 = .ok (.aload_n 0, 1) := by decide +kernel
theorem dX5_mixPort_210 : decode cX5_mixPort 210 = .ok (.lload 4, 2) := by decide +kernel
theorem dX5_mixPort_212 : decode cX5_mixPort 212 = .ok (.aload 9, 2) := by decide +kernel
theorem dX5_mixPort_214 : decode cX5_mixPort 214 = .ok (.invokevirtual 314, 3) := by decide +kernel
theorem dX5_mixPort_217 : decode cX5_mixPort 217 = .ok (.lstore 4, 2) := by decide +kernel
theorem dX5_mixPort_219 : decode cX5_mixPort 219 = .ok (.iinc 8 1, 3) := by decide +kernel
theorem dX5_mixPort_222 : decode cX5_mixPort 222 = .ok (.goto (-135), 3) := by decide +kernel
theorem dX5_mixPort_225 : decode cX5_mixPort 225 = .ok (.lload 4, 2) := by decide +kernel
theorem dX5_mixPort_227 : decode cX5_mixPort 227 = .ok (.lreturn, 1) := by decide +kernel
theorem dX5_mixPackets_0 : decode cX5_mixPackets 0 = .ok (.aload_n 0, 1) := by decide +kernel
theorem dX5_mixPackets_1 : decode cX5_mixPackets 1 = .ok (.getfield 10, 3) := by decide +kernel
theorem dX5_mixPackets_4 : decode cX5_mixPackets 4 = .ok (.getfield 42, 3) := by decide +kernel
theorem dX5_mixPackets_7 : decode cX5_mixPackets 7 = .ok (.astore 4, 2) := by decide +kernel
theorem dX5_mixPackets_9 : decode cX5_mixPackets 9 = .ok (.lload_n 1, 1) := by decide +kernel
theorem dX5_mixPackets_10 : decode cX5_mixPackets 10 = .ok (.lstore 5, 2) := by decide +kernel
theorem dX5_mixPackets_12 : decode cX5_mixPackets 12 = .ok (.aload_n 3, 1) := by decide +kernel
theorem dX5_mixPackets_13 : decode cX5_mixPackets 13 = .ok (.getfield 211, 3) := by decide +kernel
theorem dX5_mixPackets_16 : decode cX5_mixPackets 16 = .ok (.istore 7, 2) := by decide +kernel
theorem dX5_mixPackets_18 : decode cX5_mixPackets 18 = .ok (.iconst 0, 1) := by decide +kernel
theorem dX5_mixPackets_19 : decode cX5_mixPackets 19 = .ok (.istore 8, 2) := by decide +kernel
theorem dX5_mixPackets_21 : decode cX5_mixPackets 21 = .ok (.iload 8, 2) := by decide +kernel
theorem dX5_mixPackets_23 : decode cX5_mixPackets 23 = .ok (.aload_n 3, 1) := by decide +kernel
theorem dX5_mixPackets_24 : decode cX5_mixPackets 24 = .ok (.getfield 208, 3) := by decide +kernel
theorem dX5_mixPackets_27 : decode cX5_mixPackets 27 = .ok (.if_icmp .ge 81, 3) := by decide +kernel
theorem dX5_mixPackets_30 : decode cX5_mixPackets 30 = .ok (.ldc2_w 296, 3) := by decide +kernel
theorem dX5_mixPackets_33 : decode cX5_mixPackets 33 = .ok (.lload 5, 2) := by decide +kernel
theorem dX5_mixPackets_35 : decode cX5_mixPackets 35 = .ok (.lmul, 1) := by decide +kernel
theorem dX5_mixPackets_36 : decode cX5_mixPackets 36 = .ok (.aload 4, 2) := by decide +kernel
theorem dX5_mixPackets_38 : decode cX5_mixPackets 38 = .ok (.iload 7, 2) := by decide +kernel
theorem dX5_mixPackets_40 : decode cX5_mixPackets 40 = .ok (.invokevirtual 217, 3) := by decide +kernel
theorem dX5_mixPackets_43 : decode cX5_mixPackets 43 = .ok (.i2l, 1) := by decide +kernel
theorem dX5_mixPackets_44 : decode cX5_mixPackets 44 = .ok (.ladd, 1) := by decide +kernel
theorem dX5_mixPackets_45 : decode cX5_mixPackets 45 = .ok (.lstore 5, 2) := by decide +kernel
theorem dX5_mixPackets_47 : decode cX5_mixPackets 47 = .ok (.iload 7, 2) := by decide +kernel
theorem dX5_mixPackets_49 : decode cX5_mixPackets 49 = .ok (.istore 9, 2) := by decide +kernel
theorem dX5_mixPackets_51 : decode cX5_mixPackets 51 = .ok (.iconst 0, 1) := by decide +kernel
theorem dX5_mixPackets_52 : decode cX5_mixPackets 52 = .ok (.istore 10, 2) := by decide +kernel
theorem dX5_mixPackets_54 : decode cX5_mixPackets 54 = .ok (.iload 10, 2) := by decide +kernel
theorem dX5_mixPackets_56 : decode cX5_mixPackets 56 = .ok (.aload 4, 2) := by decide +kernel
theorem dX5_mixPackets_58 : decode cX5_mixPackets 58 = .ok (.iload 7, 2) := by decide +kernel
theorem dX5_mixPackets_60 : decode cX5_mixPackets 60 = .ok (.invokevirtual 223, 3) := by decide +kernel
theorem dX5_mixPackets_63 : decode cX5_mixPackets 63 = .ok (.if_icmp .ge 30, 3) := by decide +kernel
theorem dX5_mixPackets_66 : decode cX5_mixPackets 66 = .ok (.ldc2_w 296, 3) := by decide +kernel
theorem dX5_mixPackets_69 : decode cX5_mixPackets 69 = .ok (.lload 5, 2) := by decide +kernel
theorem dX5_mixPackets_71 : decode cX5_mixPackets 71 = .ok (.lmul, 1) := by decide +kernel
theorem dX5_mixPackets_72 : decode cX5_mixPackets 72 = .ok (.iload 9, 2) := by decide +kernel
theorem dX5_mixPackets_74 : decode cX5_mixPackets 74 = .ok (.i2l, 1) := by decide +kernel
theorem dX5_mixPackets_75 : decode cX5_mixPackets 75 = .ok (.ladd, 1) := by decide +kernel
theorem dX5_mixPackets_76 : decode cX5_mixPackets 76 = .ok (.lstore 5, 2) := by decide +kernel
theorem dX5_mixPackets_78 : decode cX5_mixPackets 78 = .ok (.aload 4, 2) := by decide +kernel
theorem dX5_mixPackets_80 : decode cX5_mixPackets 80 = .ok (.iload 9, 2) := by decide +kernel
theorem dX5_mixPackets_82 : decode cX5_mixPackets 82 = .ok (.invokevirtual 318, 3) := by decide +kernel
theorem dX5_mixPackets_85 : decode cX5_mixPackets 85 = .ok (.istore 9, 2) := by decide +kernel
theorem dX5_mixPackets_87 : decode cX5_mixPackets 87 = .ok (.iinc 10 1, 3) := by decide +kernel
theorem dX5_mixPackets_90 : decode cX5_mixPackets 90 = .ok (.goto (-36), 3) := by decide +kernel
theorem dX5_mixPackets_93 : decode cX5_mixPackets 93 = .ok (.aload 4, 2) := by decide +kernel
theorem dX5_mixPackets_95 : decode cX5_mixPackets 95 = .ok (.iload 7, 2) := by decide +kernel
theorem dX5_mixPackets_97 : decode cX5_mixPackets 97 = .ok (.invokevirtual 214, 3) := by decide +kernel
theorem dX5_mixPackets_100 : decode cX5_mixPackets 100 = .ok (.istore 7, 2) := by decide +kernel
theorem dX5_mixPackets_102 : decode cX5_mixPackets 102 = .ok (.iinc 8 1, 3) := by decide +kernel
theorem dX5_mixPackets_105 : decode cX5_mixPackets 105 = .ok (.goto (-84), 3) := by decide +kernel
theorem dX5_mixPackets_108 : decode cX5_mixPackets 108 = .ok (.lload 5, 2) := by decide +kernel
theorem dX5_mixPackets_110 : decode cX5_mixPackets 110 = .ok (.lreturn, 1) := by decide +kernel
theorem dX5_lossOfArrivals_0 : decode cX5_lossOfArrivals 0 = .ok (.aload_n 1, 1) := by decide +kernel
theorem dX5_lossOfArrivals_1 : decode cX5_lossOfArrivals 1 = .ok (.ifnull 7, 3) := by decide +kernel
theorem dX5_lossOfArrivals_4 : decode cX5_lossOfArrivals 4 = .ok (.aload_n 2, 1) := by decide +kernel
theorem dX5_lossOfArrivals_5 : decode cX5_lossOfArrivals 5 = .ok (.ifnonnull 5, 3) := by decide +kernel
theorem dX5_lossOfArrivals_8 : decode cX5_lossOfArrivals 8 = .ok (.iconst 0, 1) := by decide +kernel
theorem dX5_lossOfArrivals_9 : decode cX5_lossOfArrivals 9 = .ok (.ireturn, 1) := by decide +kernel
theorem dX5_lossOfArrivals_10 : decode cX5_lossOfArrivals 10 = .ok (.iconst 0, 1) := by decide +kernel
theorem dX5_lossOfArrivals_11 : decode cX5_lossOfArrivals 11 = .ok (.istore 5, 2) := by decide +kernel
theorem dX5_lossOfArrivals_13 : decode cX5_lossOfArrivals 13 = .ok (.iconst 0, 1) := by decide +kernel
theorem dX5_lossOfArrivals_14 : decode cX5_lossOfArrivals 14 = .ok (.istore 6, 2) := by decide +kernel
theorem dX5_lossOfArrivals_16 : decode cX5_lossOfArrivals 16 = .ok (.iload 6, 2) := by decide +kernel
theorem dX5_lossOfArrivals_18 : decode cX5_lossOfArrivals 18 = .ok (.iload 4, 2) := by decide +kernel
theorem dX5_lossOfArrivals_20 : decode cX5_lossOfArrivals 20 = .ok (.if_icmp .ge 27, 3) := by decide +kernel
theorem dX5_lossOfArrivals_23 : decode cX5_lossOfArrivals 23 = .ok (.aload_n 0, 1) := by decide +kernel
theorem dX5_lossOfArrivals_24 : decode cX5_lossOfArrivals 24 = .ok (.getfield 10, 3) := by decide +kernel
theorem dX5_lossOfArrivals_27 : decode cX5_lossOfArrivals 27 = .ok (.aload_n 1, 1) := by decide +kernel
theorem dX5_lossOfArrivals_28 : decode cX5_lossOfArrivals 28 = .ok (.aload_n 2, 1) := by decide +kernel
theorem dX5_lossOfArrivals_29 : decode cX5_lossOfArrivals 29 = .ok (.iload_n 3, 1) := by decide +kernel
theorem dX5_lossOfArrivals_30 : decode cX5_lossOfArrivals 30 = .ok (.invokevirtual 129, 3) := by decide +kernel
theorem dX5_lossOfArrivals_33 : decode cX5_lossOfArrivals 33 = .ok (.bipush (-6), 2) := by decide +kernel
theorem dX5_lossOfArrivals_35 : decode cX5_lossOfArrivals 35 = .ok (.if_icmp .ne 6, 3) := by decide +kernel
theorem dX5_lossOfArrivals_38 : decode cX5_lossOfArrivals 38 = .ok (.iinc 5 1, 3) := by decide +kernel
theorem dX5_lossOfArrivals_41 : decode cX5_lossOfArrivals 41 = .ok (.iinc 6 1, 3) := by decide +kernel
theorem dX5_lossOfArrivals_44 : decode cX5_lossOfArrivals 44 = .ok (.goto (-28), 3) := by decide +kernel
theorem dX5_lossOfArrivals_47 : decode cX5_lossOfArrivals 47 = .ok (.iload 5, 2) := by decide +kernel
theorem dX5_lossOfArrivals_49 : decode cX5_lossOfArrivals 49 = .ok (.ireturn, 1) := by decide +kernel
theorem dX5_isOutside_0 : decode cX5_isOutside 0 = .ok (.iload_n 0, 1) := by decide +kernel
theorem dX5_isOutside_1 : decode cX5_isOutside 1 = .ok (.iload_n 1, 1) := by decide +kernel
theorem dX5_isOutside_2 : decode cX5_isOutside 2 = .ok (.if_icmp .lt 8, 3) := by decide +kernel
theorem dX5_isOutside_5 : decode cX5_isOutside 5 = .ok (.iload_n 0, 1) := by decide +kernel
theorem dX5_isOutside_6 : decode cX5_isOutside 6 = .ok (.iload_n 2, 1) := by decide +kernel
theorem dX5_isOutside_7 : decode cX5_isOutside 7 = .ok (.if_icmp .le 7, 3) := by decide +kernel
theorem dX5_isOutside_10 : decode cX5_isOutside 10 = .ok (.iconst 1, 1) := by decide +kernel
theorem dX5_isOutside_11 : decode cX5_isOutside 11 = .ok (.goto 4, 3) := by decide +kernel
theorem dX5_isOutside_14 : decode cX5_isOutside 14 = .ok (.iconst 0, 1) := by decide +kernel
theorem dX5_isOutside_15 : decode cX5_isOutside 15 = .ok (.ireturn, 1) := by decide +kernel
theorem dX5_asNumber_0 : decode cX5_asNumber 0 = .ok (.iload_n 0, 1) := by decide +kernel
theorem dX5_asNumber_1 : decode cX5_asNumber 1 = .ok (.ifCond .eq 7, 3) := by decide +kernel
theorem dX5_asNumber_4 : decode cX5_asNumber 4 = .ok (.iconst 1, 1) := by decide +kernel
theorem dX5_asNumber_5 : decode cX5_asNumber 5 = .ok (.goto 4, 3) := by decide +kernel
theorem dX5_asNumber_8 : decode cX5_asNumber 8 = .ok (.iconst 0, 1) := by decide +kernel
theorem dX5_asNumber_9 : decode cX5_asNumber 9 = .ok (.ireturn, 1) := by decide +kernel
theorem dX5_greatestCommonDivisor_0 : decode cX5_greatestCommonDivisor 0 = .ok (.iload_n 0, 1) := by decide +kernel
theorem dX5_greatestCommonDivisor_1 : decode cX5_greatestCommonDivisor 1 = .ok (.istore_n 2, 1) := by decide +kernel
theorem dX5_greatestCommonDivisor_2 : decode cX5_greatestCommonDivisor 2 = .ok (.iload_n 1, 1) := by decide +kernel
theorem dX5_greatestCommonDivisor_3 : decode cX5_greatestCommonDivisor 3 = .ok (.istore_n 3, 1) := by decide +kernel
theorem dX5_greatestCommonDivisor_4 : decode cX5_greatestCommonDivisor 4 = .ok (.iconst 0, 1) := by decide +kernel
theorem dX5_greatestCommonDivisor_5 : decode cX5_greatestCommonDivisor 5 = .ok (.istore 4, 2) := by decide +kernel
theorem dX5_greatestCommonDivisor_7 : decode cX5_greatestCommonDivisor 7 = .ok (.iload 4, 2) := by decide +kernel
theorem dX5_greatestCommonDivisor_9 : decode cX5_greatestCommonDivisor 9 = .ok (.bipush 64, 2) := by decide +kernel
theorem dX5_greatestCommonDivisor_11 : decode cX5_greatestCommonDivisor 11 = .ok (.if_icmp .ge 23, 3) := by decide +kernel
theorem dX5_greatestCommonDivisor_14 : decode cX5_greatestCommonDivisor 14 = .ok (.iload_n 3, 1) := by decide +kernel
theorem dX5_greatestCommonDivisor_15 : decode cX5_greatestCommonDivisor 15 = .ok (.ifCond .eq 19, 3) := by decide +kernel
theorem dX5_greatestCommonDivisor_18 : decode cX5_greatestCommonDivisor 18 = .ok (.iload_n 2, 1) := by decide +kernel
theorem dX5_greatestCommonDivisor_19 : decode cX5_greatestCommonDivisor 19 = .ok (.iload_n 3, 1) := by decide +kernel
theorem dX5_greatestCommonDivisor_20 : decode cX5_greatestCommonDivisor 20 = .ok (.irem, 1) := by decide +kernel
theorem dX5_greatestCommonDivisor_21 : decode cX5_greatestCommonDivisor 21 = .ok (.istore 5, 2) := by decide +kernel
theorem dX5_greatestCommonDivisor_23 : decode cX5_greatestCommonDivisor 23 = .ok (.iload_n 3, 1) := by decide +kernel
theorem dX5_greatestCommonDivisor_24 : decode cX5_greatestCommonDivisor 24 = .ok (.istore_n 2, 1) := by decide +kernel
theorem dX5_greatestCommonDivisor_25 : decode cX5_greatestCommonDivisor 25 = .ok (.iload 5, 2) := by decide +kernel
theorem dX5_greatestCommonDivisor_27 : decode cX5_greatestCommonDivisor 27 = .ok (.istore_n 3, 1) := by decide +kernel
theorem dX5_greatestCommonDivisor_28 : decode cX5_greatestCommonDivisor 28 = .ok (.iinc 4 1, 3) := by decide +kernel
theorem dX5_greatestCommonDivisor_31 : decode cX5_greatestCommonDivisor 31 = .ok (.goto (-24), 3) := by decide +kernel
theorem dX5_greatestCommonDivisor_34 : decode cX5_greatestCommonDivisor 34 = .ok (.iload_n 2, 1) := by decide +kernel
theorem dX5_greatestCommonDivisor_35 : decode cX5_greatestCommonDivisor 35 = .ok (.ireturn, 1) := by decide +kernel
end
section
theorem dX6_init_0 : decode cX6_init 0 = .ok (.aload_n 0, 1) := by decide +kernel
theorem dX6_init_1 : decode cX6_init 1 = .ok (.invokespecial 1, 3) := by decide +kernel
theorem dX6_init_4 : decode cX6_init 4 = .ok (.aload_n 0, 1) := by decide +kernel
theorem dX6_init_5 : decode cX6_init 5 = .ok (.sipush 6464, 3) := by decide +kernel
theorem dX6_init_8 : decode cX6_init 8 = .ok (.newarray .int, 2) := by decide +kernel
theorem dX6_init_10 : decode cX6_init 10 = .ok (.putfield 7, 3) := by decide +kernel
theorem dX6_init_13 : decode cX6_init 13 = .ok (.aload_n 0, 1) := by decide +kernel
theorem dX6_init_14 : decode cX6_init 14 = .ok (.sipush 6464, 3) := by decide +kernel
theorem dX6_init_17 : decode cX6_init 17 = .ok (.newarray .int, 2) := by decide +kernel
theorem dX6_init_19 : decode cX6_init 19 = .ok (.putfield 13, 3) := by decide +kernel
theorem dX6_init_22 : decode cX6_init 22 = .ok (.aload_n 0, 1) := by decide +kernel
theorem dX6_init_23 : decode cX6_init 23 = .ok (.sipush 12928, 3) := by decide +kernel
theorem dX6_init_26 : decode cX6_init 26 = .ok (.newarray .int, 2) := by decide +kernel
theorem dX6_init_28 : decode cX6_init 28 = .ok (.putfield 16, 3) := by decide +kernel
theorem dX6_init_31 : decode cX6_init 31 = .ok (.aload_n 0, 1) := by decide +kernel
theorem dX6_init_32 : decode cX6_init 32 = .ok (.iconst 2, 1) := by decide +kernel
theorem dX6_init_33 : decode cX6_init 33 = .ok (.newarray .boolean, 2) := by decide +kernel
theorem dX6_init_35 : decode cX6_init 35 = .ok (.putfield 19, 3) := by decide +kernel
theorem dX6_init_38 : decode cX6_init 38 = .ok (.aload_n 0, 1) := by decide +kernel
theorem dX6_init_39 : decode cX6_init 39 = .ok (.bipush 120, 2) := by decide +kernel
theorem dX6_init_41 : decode cX6_init 41 = .ok (.newarray .int, 2) := by decide +kernel
theorem dX6_init_43 : decode cX6_init 43 = .ok (.putfield 23, 3) := by decide +kernel
theorem dX6_init_46 : decode cX6_init 46 = .ok (.aload_n 0, 1) := by decide +kernel
theorem dX6_init_47 : decode cX6_init 47 = .ok (.iconst 5, 1) := by decide +kernel
theorem dX6_init_48 : decode cX6_init 48 = .ok (.newarray .int, 2) := by decide +kernel
theorem dX6_init_50 : decode cX6_init 50 = .ok (.putfield 26, 3) := by decide +kernel
theorem dX6_init_53 : decode cX6_init 53 = .ok (.aload_n 0, 1) := by decide +kernel
theorem dX6_init_54 : decode cX6_init 54 = .ok (.bipush 9, 2) := by decide +kernel
theorem dX6_init_56 : decode cX6_init 56 = .ok (.newarray .int, 2) := by decide +kernel
theorem dX6_init_58 : decode cX6_init 58 = .ok (.putfield 29, 3) := by decide +kernel
theorem dX6_init_61 : decode cX6_init 61 = .ok (.aload_n 0, 1) := by decide +kernel
theorem dX6_init_62 : decode cX6_init 62 = .ok (.bipush 64, 2) := by decide +kernel
theorem dX6_init_64 : decode cX6_init 64 = .ok (.iconst 4, 1) := by decide +kernel
theorem dX6_init_65 : decode cX6_init 65 = .ok (.invokevirtual 32, 3) := by decide +kernel
theorem dX6_init_68 : decode cX6_init 68 = .ok (.return_, 1) := by decide +kernel
theorem dX6_in_0 : decode cX6_in 0 = .ok (.iload_n 0, 1) := by decide +kernel
theorem dX6_in_1 : decode cX6_in 1 = .ok (.iload_n 1, 1) := by decide +kernel
theorem dX6_in_2 : decode cX6_in 2 = .ok (.if_icmp .lt 12, 3) := by decide +kernel
theorem dX6_in_5 : decode cX6_in 5 = .ok (.iload_n 0, 1) := by decide +kernel
theorem dX6_in_6 : decode cX6_in 6 = .ok (.iload_n 2, 1) := by decide +kernel
theorem dX6_in_7 : decode cX6_in 7 = .ok (.if_icmp .gt 7, 3) := by decide +kernel
theorem dX6_in_10 : decode cX6_in 10 = .ok (.iconst 1, 1) := by decide +kernel
theorem dX6_in_11 : decode cX6_in 11 = .ok (.goto 4, 3) := by decide +kernel
theorem dX6_in_14 : decode cX6_in 14 = .ok (.iconst 0, 1) := by decide +kernel
theorem dX6_in_15 : decode cX6_in 15 = .ok (.ireturn, 1) := by decide +kernel
theorem dX6_least_0 : decode cX6_least 0 = .ok (.iload_n 0, 1) := by decide +kernel
theorem dX6_least_1 : decode cX6_least 1 = .ok (.iload_n 1, 1) := by decide +kernel
theorem dX6_least_2 : decode cX6_least 2 = .ok (.if_icmp .ge 7, 3) := by decide +kernel
theorem dX6_least_5 : decode cX6_least 5 = .ok (.iload_n 0, 1) := by decide +kernel
theorem dX6_least_6 : decode cX6_least 6 = .ok (.goto 4, 3) := by decide +kernel
theorem dX6_least_9 : decode cX6_least 9 = .ok (.iload_n 1, 1) := by decide +kernel
theorem dX6_least_10 : decode cX6_least 10 = .ok (.ireturn, 1) := by decide +kernel
theorem dX6_most_0 : decode cX6_most 0 = .ok (.iload_n 0, 1) := by decide +kernel
theorem dX6_most_1 : decode cX6_most 1 = .ok (.iload_n 1, 1) := by decide +kernel
theorem dX6_most_2 : decode cX6_most 2 = .ok (.if_icmp .le 7, 3) := by decide +kernel
theorem dX6_most_5 : decode cX6_most 5 = .ok (.iload_n 0, 1) := by decide +kernel
theorem dX6_most_6 : decode cX6_most 6 = .ok (.goto 4, 3) := by decide +kernel
theorem dX6_most_9 : decode cX6_most 9 = .ok (.iload_n 1, 1) := by decide +kernel
theorem dX6_most_10 : decode cX6_most 10 = .ok (.ireturn, 1) := by decide +kernel
theorem dX6_port_0 : decode cX6_port 0 = .ok (.bipush 16, 2) := by decide +kernel
theorem dX6_port_2 : decode cX6_port 2 = .ok (.bipush 24, 2) := by decide +kernel
theorem dX6_port_4 : decode cX6_port 4 = .ok (.iload_n 0, 1) := by decide +kernel
theorem dX6_port_5 : decode cX6_port 5 = .ok (.imul, 1) := by decide +kernel
theorem dX6_port_6 : decode cX6_port 6 = .ok (.iadd, 1) := by decide +kernel
theorem dX6_port_7 : decode cX6_port 7 = .ok (.iload_n 1, 1) := by decide +kernel
theorem dX6_port_8 : decode cX6_port 8 = .ok (.iadd, 1) := by decide +kernel
theorem dX6_port_9 : decode cX6_port 9 = .ok (.ireturn, 1) := by decide +kernel
theorem dX6_queue_0 : decode cX6_queue 0 = .ok (.sipush 160, 3) := by decide +kernel
theorem dX6_queue_3 : decode cX6_queue 3 = .ok (.bipush 16, 2) := by decide +kernel
theorem dX6_queue_5 : decode cX6_queue 5 = .ok (.iload_n 0, 1) := by decide +kernel
theorem dX6_queue_6 : decode cX6_queue 6 = .ok (.imul, 1) := by decide +kernel
theorem dX6_queue_7 : decode cX6_queue 7 = .ok (.iadd, 1) := by decide +kernel
theorem dX6_queue_8 : decode cX6_queue 8 = .ok (.iload_n 1, 1) := by decide +kernel
theorem dX6_queue_9 : decode cX6_queue 9 = .ok (.iadd, 1) := by decide +kernel
theorem dX6_queue_10 : decode cX6_queue 10 = .ok (.ireturn, 1) := by decide +kernel
theorem dX6_entry_0 : decode cX6_entry 0 = .ok (.sipush 448, 3) := by decide +kernel
theorem dX6_entry_3 : decode cX6_entry 3 = .ok (.sipush 128, 3) := by decide +kernel
theorem dX6_entry_6 : decode cX6_entry 6 = .ok (.iload_n 0, 1) := by decide +kernel
theorem dX6_entry_7 : decode cX6_entry 7 = .ok (.imul, 1) := by decide +kernel
theorem dX6_entry_8 : decode cX6_entry 8 = .ok (.iadd, 1) := by decide +kernel
theorem dX6_entry_9 : decode cX6_entry 9 = .ok (.iload_n 1, 1) := by decide +kernel
theorem dX6_entry_10 : decode cX6_entry 10 = .ok (.iadd, 1) := by decide +kernel
theorem dX6_entry_11 : decode cX6_entry 11 = .ok (.ireturn, 1) := by decide +kernel
theorem dX6_packet_0 : decode cX6_packet 0 = .ok (.sipush 2752, 3) := by decide +kernel
theorem dX6_packet_3 : decode cX6_packet 3 = .ok (.bipush 28, 2) := by decide +kernel
theorem dX6_packet_5 : decode cX6_packet 5 = .ok (.iload_n 0, 1) := by decide +kernel
theorem dX6_packet_6 : decode cX6_packet 6 = .ok (.imul, 1) := by decide +kernel
theorem dX6_packet_7 : decode cX6_packet 7 = .ok (.iadd, 1) := by decide +kernel
theorem dX6_packet_8 : decode cX6_packet 8 = .ok (.iload_n 1, 1) := by decide +kernel
theorem dX6_packet_9 : decode cX6_packet 9 = .ok (.iadd, 1) := by decide +kernel
theorem dX6_packet_10 : decode cX6_packet 10 = .ok (.ireturn, 1) := by decide +kernel
theorem dX6_isPort_0 : decode cX6_isPort 0 = .ok (.iload_n 1, 1) := by decide +kernel
theorem dX6_isPort_1 : decode cX6_isPort 1 = .ok (.iconst 0, 1) := by decide +kernel
theorem dX6_isPort_2 : decode cX6_isPort 2 = .ok (.aload_n 0, 1) := by decide +kernel
theorem dX6_isPort_3 : decode cX6_isPort 3 = .ok (.getfield 7, 3) := by decide +kernel
theorem dX6_isPort_6 : decode cX6_isPort 6 = .ok (.iconst 1, 1) := by decide +kernel
theorem dX6_isPort_7 : decode cX6_isPort 7 = .ok (.iaload, 1) := by decide +kernel
theorem dX6_isPort_8 : decode cX6_isPort 8 = .ok (.iconst 1, 1) := by decide +kernel
theorem dX6_isPort_9 : decode cX6_isPort 9 = .ok (.isub, 1) := by decide +kernel
theorem dX6_isPort_10 : decode cX6_isPort 10 = .ok (.invokestatic 36, 3) := by decide +kernel
theorem dX6_isPort_13 : decode cX6_isPort 13 = .ok (.ireturn, 1) := by decide +kernel
theorem dX6_isQueue_0 : decode cX6_isQueue 0 = .ok (.aload_n 0, 1) := by decide +kernel
theorem dX6_isQueue_1 : decode cX6_isQueue 1 = .ok (.iload_n 1, 1) := by decide +kernel
theorem dX6_isQueue_2 : decode cX6_isQueue 2 = .ok (.invokevirtual 40, 3) := by decide +kernel
theorem dX6_isQueue_5 : decode cX6_isQueue 5 = .ok (.ifCond .eq 16, 3) := by decide +kernel
theorem dX6_isQueue_8 : decode cX6_isQueue 8 = .ok (.iload_n 2, 1) := by decide +kernel
theorem dX6_isQueue_9 : decode cX6_isQueue 9 = .ok (.iconst 0, 1) := by decide +kernel
theorem dX6_isQueue_10 : decode cX6_isQueue 10 = .ok (.iconst 2, 1) := by decide +kernel
theorem dX6_isQueue_11 : decode cX6_isQueue 11 = .ok (.invokestatic 36, 3) := by decide +kernel
theorem dX6_isQueue_14 : decode cX6_isQueue 14 = .ok (.ifCond .eq 7, 3) := by decide +kernel
theorem dX6_isQueue_17 : decode cX6_isQueue 17 = .ok (.iconst 1, 1) := by decide +kernel
theorem dX6_isQueue_18 : decode cX6_isQueue 18 = .ok (.goto 4, 3) := by decide +kernel
theorem dX6_isQueue_21 : decode cX6_isQueue 21 = .ok (.iconst 0, 1) := by decide +kernel
theorem dX6_isQueue_22 : decode cX6_isQueue 22 = .ok (.ireturn, 1) := by decide +kernel
theorem dX6_starts_0 : decode cX6_starts 0 = .ok (.iconst 0, 1) := by decide +kernel
theorem dX6_starts_1 : decode cX6_starts 1 = .ok (.istore_n 3, 1) := by decide +kernel
theorem dX6_starts_2 : decode cX6_starts 2 = .ok (.iload_n 3, 1) := by decide +kernel
theorem dX6_starts_3 : decode cX6_starts 3 = .ok (.sipush 6464, 3) := by decide +kernel
theorem dX6_starts_6 : decode cX6_starts 6 = .ok (.if_icmp .ge 16, 3) := by decide +kernel
theorem dX6_starts_9 : decode cX6_starts 9 = .ok (.aload_n 0, 1) := by decide +kernel
theorem dX6_starts_10 : decode cX6_starts 10 = .ok (.getfield 7, 3) := by decide +kernel
theorem dX6_starts_13 : decode cX6_starts 13 = .ok (.iload_n 3, 1) := by decide +kernel
theorem dX6_starts_14 : decode cX6_starts 14 = .ok (.iconst 0, 1) := by decide +kernel
theorem dX6_starts_15 : decode cX6_starts 15 = .ok (.iastore, 1) := by decide +kernel
theorem dX6_starts_16 : decode cX6_starts 16 = .ok (.iinc 3 1, 3) := by decide +kernel
theorem dX6_starts_19 : decode cX6_starts 19 = .ok (.goto (-17), 3) := by decide +kernel
theorem dX6_starts_22 : decode cX6_starts 22 = .ok (.aload_n 0, 1) := by decide +kernel
theorem dX6_starts_23 : decode cX6_starts 23 = .ok (.getfield 7, 3) := by decide +kernel
theorem dX6_starts_26 : decode cX6_starts 26 = .ok (.iconst 0, 1) := by decide +kernel
theorem dX6_starts_27 : decode cX6_starts 27 = .ok (.iload_n 1, 1) := by decide +kernel
theorem dX6_starts_28 : decode cX6_starts 28 = .ok (.iastore, 1) := by decide +kernel
theorem dX6_starts_29 : decode cX6_starts 29 = .ok (.aload_n 0, 1) := by decide +kernel
theorem dX6_starts_30 : decode cX6_starts 30 = .ok (.getfield 7, 3) := by decide +kernel
theorem dX6_starts_33 : decode cX6_starts 33 = .ok (.iconst 1, 1) := by decide +kernel
theorem dX6_starts_34 : decode cX6_starts 34 = .ok (.iload_n 2, 1) := by decide +kernel
theorem dX6_starts_35 : decode cX6_starts 35 = .ok (.iastore, 1) := by decide +kernel
theorem dX6_starts_36 : decode cX6_starts 36 = .ok (.iconst 0, 1) := by decide +kernel
theorem dX6_starts_37 : decode cX6_starts 37 = .ok (.istore_n 3, 1) := by decide +kernel
theorem dX6_starts_38 : decode cX6_starts 38 = .ok (.iload_n 3, 1) := by decide +kernel
theorem dX6_starts_39 : decode cX6_starts 39 = .ok (.bipush 6, 2) := by decide +kernel
theorem dX6_starts_41 : decode cX6_starts 41 = .ok (.if_icmp .ge 32, 3) := by decide +kernel
theorem dX6_starts_44 : decode cX6_starts 44 = .ok (.aload_n 0, 1) := by decide +kernel
theorem dX6_starts_45 : decode cX6_starts 45 = .ok (.getfield 7, 3) := by decide +kernel
theorem dX6_starts_48 : decode cX6_starts 48 = .ok (.iload_n 3, 1) := by decide +kernel
theorem dX6_starts_49 : decode cX6_starts 49 = .ok (.iconst 5, 1) := by decide +kernel
theorem dX6_starts_50 : decode cX6_starts 50 = .ok (.invokestatic 44, 3) := by decide +kernel
theorem dX6_starts_53 : decode cX6_starts 53 = .ok (.iconst 4, 1) := by decide +kernel
theorem dX6_starts_54 : decode cX6_starts 54 = .ok (.iastore, 1) := by decide +kernel
theorem dX6_starts_55 : decode cX6_starts 55 = .ok (.aload_n 0, 1) := by decide +kernel
theorem dX6_starts_56 : decode cX6_starts 56 = .ok (.getfield 7, 3) := by decide +kernel
theorem dX6_starts_59 : decode cX6_starts 59 = .ok (.iload_n 3, 1) := by decide +kernel
theorem dX6_starts_60 : decode cX6_starts 60 = .ok (.bipush 7, 2) := by decide +kernel
theorem dX6_starts_62 : decode cX6_starts 62 = .ok (.invokestatic 44, 3) := by decide +kernel
theorem dX6_starts_65 : decode cX6_starts 65 = .ok (.iconst 1, 1) := by decide +kernel
theorem dX6_starts_66 : decode cX6_starts 66 = .ok (.iastore, 1) := by decide +kernel
theorem dX6_starts_67 : decode cX6_starts 67 = .ok (.iinc 3 1, 3) := by decide +kernel
theorem dX6_starts_70 : decode cX6_starts 70 = .ok (.goto (-32), 3) := by decide +kernel
theorem dX6_starts_73 : decode cX6_starts 73 = .ok (.iconst 0, 1) := by decide +kernel
theorem dX6_starts_74 : decode cX6_starts 74 = .ok (.istore_n 3, 1) := by decide +kernel
theorem dX6_starts_75 : decode cX6_starts 75 = .ok (.iload_n 3, 1) := by decide +kernel
theorem dX6_starts_76 : decode cX6_starts 76 = .ok (.bipush 18, 2) := by decide +kernel
theorem dX6_starts_78 : decode cX6_starts 78 = .ok (.if_icmp .ge 32, 3) := by decide +kernel
theorem dX6_starts_81 : decode cX6_starts 81 = .ok (.aload_n 0, 1) := by decide +kernel
theorem dX6_starts_82 : decode cX6_starts 82 = .ok (.getfield 7, 3) := by decide +kernel
theorem dX6_starts_85 : decode cX6_starts 85 = .ok (.iload_n 3, 1) := by decide +kernel
theorem dX6_starts_86 : decode cX6_starts 86 = .ok (.iconst 0, 1) := by decide +kernel
theorem dX6_starts_87 : decode cX6_starts 87 = .ok (.invokestatic 48, 3) := by decide +kernel
theorem dX6_starts_90 : decode cX6_starts 90 = .ok (.bipush 8, 2) := by decide +kernel
theorem dX6_starts_92 : decode cX6_starts 92 = .ok (.iastore, 1) := by decide +kernel
theorem dX6_starts_93 : decode cX6_starts 93 = .ok (.aload_n 0, 1) := by decide +kernel
theorem dX6_starts_94 : decode cX6_starts 94 = .ok (.getfield 7, 3) := by decide +kernel
theorem dX6_starts_97 : decode cX6_starts 97 = .ok (.iload_n 3, 1) := by decide +kernel
theorem dX6_starts_98 : decode cX6_starts 98 = .ok (.iconst 4, 1) := by decide +kernel
theorem dX6_starts_99 : decode cX6_starts 99 = .ok (.invokestatic 48, 3) := by decide +kernel
theorem dX6_starts_102 : decode cX6_starts 102 = .ok (.iconst 4, 1) := by decide +kernel
theorem dX6_starts_103 : decode cX6_starts 103 = .ok (.iastore, 1) := by decide +kernel
theorem dX6_starts_104 : decode cX6_starts 104 = .ok (.iinc 3 1, 3) := by decide +kernel
theorem dX6_starts_107 : decode cX6_starts 107 = .ok (.goto (-32), 3) := by decide +kernel
theorem dX6_starts_110 : decode cX6_starts 110 = .ok (.return_, 1) := by decide +kernel
theorem dX6_sum_0 : decode cX6_sum 0 = .ok (.aload_n 0, 1) := by decide +kernel
theorem dX6_sum_1 : decode cX6_sum 1 = .ok (.getfield 7, 3) := by decide +kernel
theorem dX6_sum_4 : decode cX6_sum 4 = .ok (.iconst 3, 1) := by decide +kernel
theorem dX6_sum_5 : decode cX6_sum 5 = .ok (.iload_n 1, 1) := by decide +kernel
theorem dX6_sum_6 : decode cX6_sum 6 = .ok (.imul, 1) := by decide +kernel
theorem dX6_sum_7 : decode cX6_sum 7 = .ok (.iload_n 2, 1) := by decide +kernel
theorem dX6_sum_8 : decode cX6_sum 8 = .ok (.invokestatic 48, 3) := by decide +kernel
theorem dX6_sum_11 : decode cX6_sum 11 = .ok (.iaload, 1) := by decide +kernel
theorem dX6_sum_12 : decode cX6_sum 12 = .ok (.aload_n 0, 1) := by decide +kernel
theorem dX6_sum_13 : decode cX6_sum 13 = .ok (.getfield 7, 3) := by decide +kernel
theorem dX6_sum_16 : decode cX6_sum 16 = .ok (.iconst 3, 1) := by decide +kernel
theorem dX6_sum_17 : decode cX6_sum 17 = .ok (.iload_n 1, 1) := by decide +kernel
theorem dX6_sum_18 : decode cX6_sum 18 = .ok (.imul, 1) := by decide +kernel
theorem dX6_sum_19 : decode cX6_sum 19 = .ok (.iconst 1, 1) := by decide +kernel
theorem dX6_sum_20 : decode cX6_sum 20 = .ok (.iadd, 1) := by decide +kernel
theorem dX6_sum_21 : decode cX6_sum 21 = .ok (.iload_n 2, 1) := by decide +kernel
theorem dX6_sum_22 : decode cX6_sum 22 = .ok (.invokestatic 48, 3) := by decide +kernel
theorem dX6_sum_25 : decode cX6_sum 25 = .ok (.iaload, 1) := by decide +kernel
theorem dX6_sum_26 : decode cX6_sum 26 = .ok (.iadd, 1) := by decide +kernel
theorem dX6_sum_27 : decode cX6_sum 27 = .ok (.aload_n 0, 1) := by decide +kernel
theorem dX6_sum_28 : decode cX6_sum 28 = .ok (.getfield 7, 3) := by decide +kernel
theorem dX6_sum_31 : decode cX6_sum 31 = .ok (.iconst 3, 1) := by decide +kernel
theorem dX6_sum_32 : decode cX6_sum 32 = .ok (.iload_n 1, 1) := by decide +kernel
theorem dX6_sum_33 : decode cX6_sum 33 = .ok (.imul, 1) := by decide +kernel
theorem dX6_sum_34 : decode cX6_sum 34 = .ok (.iconst 2, 1) := by decide +kernel
theorem dX6_sum_35 : decode cX6_sum 35 = .ok (.iadd, 1) := by decide +kernel
theorem dX6_sum_36 : decode cX6_sum 36 = .ok (.iload_n 2, 1) := by decide +kernel
theorem dX6_sum_37 : decode cX6_sum 37 = .ok (.invokestatic 48, 3) := by decide +kernel
theorem dX6_sum_40 : decode cX6_sum 40 = .ok (.iaload, 1) := by decide +kernel
theorem dX6_sum_41 : decode cX6_sum 41 = .ok (.iadd, 1) := by decide +kernel
theorem dX6_sum_42 : decode cX6_sum 42 = .ok (.ireturn, 1) := by decide +kernel
theorem dX6_guarantee_0 : decode cX6_guarantee 0 = .ok (.aload_n 0, 1) := by decide +kernel
theorem dX6_guarantee_1 : decode cX6_guarantee 1 = .ok (.getfield 7, 3) := by decide +kernel
theorem dX6_guarantee_4 : decode cX6_guarantee 4 = .ok (.iload_n 1, 1) := by decide +kernel
theorem dX6_guarantee_5 : decode cX6_guarantee 5 = .ok (.iconst 0, 1) := by decide +kernel
theorem dX6_guarantee_6 : decode cX6_guarantee 6 = .ok (.invokestatic 44, 3) := by decide +kernel
theorem dX6_guarantee_9 : decode cX6_guarantee 9 = .ok (.iaload, 1) := by decide +kernel
theorem dX6_guarantee_10 : decode cX6_guarantee 10 = .ok (.aload_n 0, 1) := by decide +kernel
theorem dX6_guarantee_11 : decode cX6_guarantee 11 = .ok (.getfield 7, 3) := by decide +kernel
theorem dX6_guarantee_14 : decode cX6_guarantee 14 = .ok (.iload_n 1, 1) := by decide +kernel
theorem dX6_guarantee_15 : decode cX6_guarantee 15 = .ok (.iconst 2, 1) := by decide +kernel
theorem dX6_guarantee_16 : decode cX6_guarantee 16 = .ok (.invokestatic 44, 3) := by decide +kernel
theorem dX6_guarantee_19 : decode cX6_guarantee 19 = .ok (.iaload, 1) := by decide +kernel
theorem dX6_guarantee_20 : decode cX6_guarantee 20 = .ok (.iadd, 1) := by decide +kernel
theorem dX6_guarantee_21 : decode cX6_guarantee 21 = .ok (.ireturn, 1) := by decide +kernel
theorem dX6_pool_0 : decode cX6_pool 0 = .ok (.aload_n 0, 1) := by decide +kernel
theorem dX6_pool_1 : decode cX6_pool 1 = .ok (.getfield 7, 3) := by decide +kernel
theorem dX6_pool_4 : decode cX6_pool 4 = .ok (.iconst 0, 1) := by decide +kernel
theorem dX6_pool_5 : decode cX6_pool 5 = .ok (.iaload, 1) := by decide +kernel
theorem dX6_pool_6 : decode cX6_pool 6 = .ok (.istore_n 1, 1) := by decide +kernel
theorem dX6_pool_7 : decode cX6_pool 7 = .ok (.iconst 0, 1) := by decide +kernel
theorem dX6_pool_8 : decode cX6_pool 8 = .ok (.istore_n 2, 1) := by decide +kernel
theorem dX6_pool_9 : decode cX6_pool 9 = .ok (.iload_n 2, 1) := by decide +kernel
theorem dX6_pool_10 : decode cX6_pool 10 = .ok (.aload_n 0, 1) := by decide +kernel
theorem dX6_pool_11 : decode cX6_pool 11 = .ok (.getfield 7, 3) := by decide +kernel
theorem dX6_pool_14 : decode cX6_pool 14 = .ok (.iconst 1, 1) := by decide +kernel
theorem dX6_pool_15 : decode cX6_pool 15 = .ok (.iaload, 1) := by decide +kernel
theorem dX6_pool_16 : decode cX6_pool 16 = .ok (.if_icmp .ge 28, 3) := by decide +kernel
theorem dX6_pool_19 : decode cX6_pool 19 = .ok (.iload_n 1, 1) := by decide +kernel
theorem dX6_pool_20 : decode cX6_pool 20 = .ok (.aload_n 0, 1) := by decide +kernel
theorem dX6_pool_21 : decode cX6_pool 21 = .ok (.iload_n 2, 1) := by decide +kernel
theorem dX6_pool_22 : decode cX6_pool 22 = .ok (.invokevirtual 51, 3) := by decide +kernel
theorem dX6_pool_25 : decode cX6_pool 25 = .ok (.aload_n 0, 1) := by decide +kernel
theorem dX6_pool_26 : decode cX6_pool 26 = .ok (.getfield 7, 3) := by decide +kernel
theorem dX6_pool_29 : decode cX6_pool 29 = .ok (.iload_n 2, 1) := by decide +kernel
theorem dX6_pool_30 : decode cX6_pool 30 = .ok (.iconst 1, 1) := by decide +kernel
theorem dX6_pool_31 : decode cX6_pool 31 = .ok (.invokestatic 44, 3) := by decide +kernel
theorem dX6_pool_34 : decode cX6_pool 34 = .ok (.iaload, 1) := by decide +kernel
theorem dX6_pool_35 : decode cX6_pool 35 = .ok (.iadd, 1) := by decide +kernel
theorem dX6_pool_36 : decode cX6_pool 36 = .ok (.isub, 1) := by decide +kernel
theorem dX6_pool_37 : decode cX6_pool 37 = .ok (.istore_n 1, 1) := by decide +kernel
theorem dX6_pool_38 : decode cX6_pool 38 = .ok (.iinc 2 1, 3) := by decide +kernel
theorem dX6_pool_41 : decode cX6_pool 41 = .ok (.goto (-32), 3) := by decide +kernel
theorem dX6_pool_44 : decode cX6_pool 44 = .ok (.iload_n 1, 1) := by decide +kernel
theorem dX6_pool_45 : decode cX6_pool 45 = .ok (.ireturn, 1) := by decide +kernel
theorem dX6_free_0 : decode cX6_free 0 = .ok (.aload_n 0, 1) := by decide +kernel
theorem dX6_free_1 : decode cX6_free 1 = .ok (.invokevirtual 55, 3) := by decide +kernel
theorem dX6_free_4 : decode cX6_free 4 = .ok (.istore_n 1, 1) := by decide +kernel
theorem dX6_free_5 : decode cX6_free 5 = .ok (.iconst 0, 1) := by decide +kernel
theorem dX6_free_6 : decode cX6_free 6 = .ok (.istore_n 2, 1) := by decide +kernel
theorem dX6_free_7 : decode cX6_free 7 = .ok (.iload_n 2, 1) := by decide +kernel
theorem dX6_free_8 : decode cX6_free 8 = .ok (.iconst 3, 1) := by decide +kernel
theorem dX6_free_9 : decode cX6_free 9 = .ok (.aload_n 0, 1) := by decide +kernel
theorem dX6_free_10 : decode cX6_free 10 = .ok (.getfield 7, 3) := by decide +kernel
theorem dX6_free_13 : decode cX6_free 13 = .ok (.iconst 1, 1) := by decide +kernel
theorem dX6_free_14 : decode cX6_free 14 = .ok (.iaload, 1) := by decide +kernel
theorem dX6_free_15 : decode cX6_free 15 = .ok (.imul, 1) := by decide +kernel
theorem dX6_free_16 : decode cX6_free 16 = .ok (.if_icmp .ge 23, 3) := by decide +kernel
theorem dX6_free_19 : decode cX6_free 19 = .ok (.iload_n 1, 1) := by decide +kernel
theorem dX6_free_20 : decode cX6_free 20 = .ok (.aload_n 0, 1) := by decide +kernel
theorem dX6_free_21 : decode cX6_free 21 = .ok (.getfield 7, 3) := by decide +kernel
theorem dX6_free_24 : decode cX6_free 24 = .ok (.iload_n 2, 1) := by decide +kernel
theorem dX6_free_25 : decode cX6_free 25 = .ok (.bipush 7, 2) := by decide +kernel
theorem dX6_free_27 : decode cX6_free 27 = .ok (.invokestatic 48, 3) := by decide +kernel
theorem dX6_free_30 : decode cX6_free 30 = .ok (.iaload, 1) := by decide +kernel
theorem dX6_free_31 : decode cX6_free 31 = .ok (.isub, 1) := by decide +kernel
theorem dX6_free_32 : decode cX6_free 32 = .ok (.istore_n 1, 1) := by decide +kernel
theorem dX6_free_33 : decode cX6_free 33 = .ok (.iinc 2 1, 3) := by decide +kernel
theorem dX6_free_36 : decode cX6_free 36 = .ok (.goto (-29), 3) := by decide +kernel
theorem dX6_free_39 : decode cX6_free 39 = .ok (.iload_n 1, 1) := by decide +kernel
theorem dX6_free_40 : decode cX6_free 40 = .ok (.ireturn, 1) := by decide +kernel
theorem dX6_freeOf_0 : decode cX6_freeOf 0 = .ok (.aload_n 0, 1) := by decide +kernel
theorem dX6_freeOf_1 : decode cX6_freeOf 1 = .ok (.iload_n 1, 1) := by decide +kernel
theorem dX6_freeOf_2 : decode cX6_freeOf 2 = .ok (.invokevirtual 51, 3) := by decide +kernel
theorem dX6_freeOf_5 : decode cX6_freeOf 5 = .ok (.aload_n 0, 1) := by decide +kernel
theorem dX6_freeOf_6 : decode cX6_freeOf 6 = .ok (.iload_n 1, 1) := by decide +kernel
theorem dX6_freeOf_7 : decode cX6_freeOf 7 = .ok (.bipush 6, 2) := by decide +kernel
theorem dX6_freeOf_9 : decode cX6_freeOf 9 = .ok (.invokevirtual 59, 3) := by decide +kernel
theorem dX6_freeOf_12 : decode cX6_freeOf 12 = .ok (.isub, 1) := by decide +kernel
theorem dX6_freeOf_13 : decode cX6_freeOf 13 = .ok (.ireturn, 1) := by decide +kernel
theorem dX6_limit_0 : decode cX6_limit 0 = .ok (.aload_n 0, 1) := by decide +kernel
theorem dX6_limit_1 : decode cX6_limit 1 = .ok (.getfield 7, 3) := by decide +kernel
theorem dX6_limit_4 : decode cX6_limit 4 = .ok (.iload_n 1, 1) := by decide +kernel
theorem dX6_limit_5 : decode cX6_limit 5 = .ok (.iconst 0, 1) := by decide +kernel
theorem dX6_limit_6 : decode cX6_limit 6 = .ok (.invokestatic 48, 3) := by decide +kernel
theorem dX6_limit_9 : decode cX6_limit 9 = .ok (.iaload, 1) := by decide +kernel
theorem dX6_limit_10 : decode cX6_limit 10 = .ok (.aload_n 0, 1) := by decide +kernel
theorem dX6_limit_11 : decode cX6_limit 11 = .ok (.invokevirtual 62, 3) := by decide +kernel
theorem dX6_limit_14 : decode cX6_limit 14 = .ok (.imul, 1) := by decide +kernel
theorem dX6_limit_15 : decode cX6_limit 15 = .ok (.bipush 8, 2) := by decide +kernel
theorem dX6_limit_17 : decode cX6_limit 17 = .ok (.idiv, 1) := by decide +kernel
theorem dX6_limit_18 : decode cX6_limit 18 = .ok (.ireturn, 1) := by decide +kernel
theorem dX6_converts_0 : decode cX6_converts 0 = .ok (.iconst 2, 1) := by decide +kernel
theorem dX6_converts_1 : decode cX6_converts 1 = .ok (.istore_n 2, 1) := by decide +kernel
theorem dX6_converts_2 : decode cX6_converts 2 = .ok (.iload_n 2, 1) := by decide +kernel
theorem dX6_converts_3 : decode cX6_converts 3 = .ok (.ifCond .lt 80, 3) := by decide +kernel
theorem dX6_converts_6 : decode cX6_converts 6 = .ok (.aload_n 0, 1) := by decide +kernel
theorem dX6_converts_7 : decode cX6_converts 7 = .ok (.iload_n 1, 1) := by decide +kernel
theorem dX6_converts_8 : decode cX6_converts 8 = .ok (.invokevirtual 65, 3) := by decide +kernel
theorem dX6_converts_11 : decode cX6_converts 11 = .ok (.ineg, 1) := by decide +kernel
theorem dX6_converts_12 : decode cX6_converts 12 = .ok (.istore_n 3, 1) := by decide +kernel
theorem dX6_converts_13 : decode cX6_converts 13 = .ok (.iconst 3, 1) := by decide +kernel
theorem dX6_converts_14 : decode cX6_converts 14 = .ok (.iload_n 1, 1) := by decide +kernel
theorem dX6_converts_15 : decode cX6_converts 15 = .ok (.imul, 1) := by decide +kernel
theorem dX6_converts_16 : decode cX6_converts 16 = .ok (.iload_n 2, 1) := by decide +kernel
theorem dX6_converts_17 : decode cX6_converts 17 = .ok (.iadd, 1) := by decide +kernel
theorem dX6_converts_18 : decode cX6_converts 18 = .ok (.istore 4, 2) := by decide +kernel
theorem dX6_converts_20 : decode cX6_converts 20 = .ok (.iload_n 3, 1) := by decide +kernel
theorem dX6_converts_21 : decode cX6_converts 21 = .ok (.aload_n 0, 1) := by decide +kernel
theorem dX6_converts_22 : decode cX6_converts 22 = .ok (.getfield 7, 3) := by decide +kernel
theorem dX6_converts_25 : decode cX6_converts 25 = .ok (.iload 4, 2) := by decide +kernel
theorem dX6_converts_27 : decode cX6_converts 27 = .ok (.bipush 6, 2) := by decide +kernel
theorem dX6_converts_29 : decode cX6_converts 29 = .ok (.invokestatic 48, 3) := by decide +kernel
theorem dX6_converts_32 : decode cX6_converts 32 = .ok (.iaload, 1) := by decide +kernel
theorem dX6_converts_33 : decode cX6_converts 33 = .ok (.invokestatic 68, 3) := by decide +kernel
theorem dX6_converts_36 : decode cX6_converts 36 = .ok (.istore 5, 2) := by decide +kernel
theorem dX6_converts_38 : decode cX6_converts 38 = .ok (.iload 5, 2) := by decide +kernel
theorem dX6_converts_40 : decode cX6_converts 40 = .ok (.ifCond .le 37, 3) := by decide +kernel
theorem dX6_converts_43 : decode cX6_converts 43 = .ok (.aload_n 0, 1) := by decide +kernel
theorem dX6_converts_44 : decode cX6_converts 44 = .ok (.getfield 7, 3) := by decide +kernel
theorem dX6_converts_47 : decode cX6_converts 47 = .ok (.iload 4, 2) := by decide +kernel
theorem dX6_converts_49 : decode cX6_converts 49 = .ok (.bipush 6, 2) := by decide +kernel
theorem dX6_converts_51 : decode cX6_converts 51 = .ok (.invokestatic 48, 3) := by decide +kernel
theorem dX6_converts_54 : decode cX6_converts 54 = .ok (.dup2, 1) := by decide +kernel
theorem dX6_converts_55 : decode cX6_converts 55 = .ok (.iaload, 1) := by decide +kernel
theorem dX6_converts_56 : decode cX6_converts 56 = .ok (.iload 5, 2) := by decide +kernel
theorem dX6_converts_58 : decode cX6_converts 58 = .ok (.isub, 1) := by decide +kernel
theorem dX6_converts_59 : decode cX6_converts 59 = .ok (.iastore, 1) := by decide +kernel
theorem dX6_converts_60 : decode cX6_converts 60 = .ok (.aload_n 0, 1) := by decide +kernel
theorem dX6_converts_61 : decode cX6_converts 61 = .ok (.getfield 7, 3) := by decide +kernel
theorem dX6_converts_64 : decode cX6_converts 64 = .ok (.iload 4, 2) := by decide +kernel
theorem dX6_converts_66 : decode cX6_converts 66 = .ok (.bipush 7, 2) := by decide +kernel
theorem dX6_converts_68 : decode cX6_converts 68 = .ok (.invokestatic 48, 3) := by decide +kernel
theorem dX6_converts_71 : decode cX6_converts 71 = .ok (.dup2, 1) := by decide +kernel
theorem dX6_converts_72 : decode cX6_converts 72 = .ok (.iaload, 1) := by decide +kernel
theorem dX6_converts_73 : decode cX6_converts 73 = .ok (.iload 5, 2) := by decide +kernel
theorem dX6_converts_75 : decode cX6_converts 75 = .ok (.iadd, 1) := by decide +kernel
theorem dX6_converts_76 : decode cX6_converts 76 = .ok (.iastore, 1) := by decide +kernel
theorem dX6_converts_77 : decode cX6_converts 77 = .ok (.iinc 2 (-1), 3) := by decide +kernel
theorem dX6_converts_80 : decode cX6_converts 80 = .ok (.goto (-78), 3) := by decide +kernel
theorem dX6_converts_83 : decode cX6_converts 83 = .ok (.return_, 1) := by decide +kernel
theorem dX6_reset_0 : decode cX6_reset 0 = .ok (.iload_n 1, 1) := by decide +kernel
theorem dX6_reset_1 : decode cX6_reset 1 = .ok (.bipush 16, 2) := by decide +kernel
theorem dX6_reset_3 : decode cX6_reset 3 = .ok (.sipush 128, 3) := by decide +kernel
theorem dX6_reset_6 : decode cX6_reset 6 = .ok (.invokestatic 36, 3) := by decide +kernel
theorem dX6_reset_9 : decode cX6_reset 9 = .ok (.ifCond .eq 13, 3) := by decide +kernel
theorem dX6_reset_12 : decode cX6_reset 12 = .ok (.iload_n 2, 1) := by decide +kernel
theorem dX6_reset_13 : decode cX6_reset 13 = .ok (.iconst 1, 1) := by decide +kernel
theorem dX6_reset_14 : decode cX6_reset 14 = .ok (.bipush 6, 2) := by decide +kernel
theorem dX6_reset_16 : decode cX6_reset 16 = .ok (.invokestatic 36, 3) := by decide +kernel
theorem dX6_reset_19 : decode cX6_reset 19 = .ok (.ifCond .ne 6, 3) := by decide +kernel
theorem dX6_reset_22 : decode cX6_reset 22 = .ok (.bipush (-2), 2) := by decide +kernel
theorem dX6_reset_24 : decode cX6_reset 24 = .ok (.ireturn, 1) := by decide +kernel
theorem dX6_reset_25 : decode cX6_reset 25 = .ok (.aload_n 0, 1) := by decide +kernel
theorem dX6_reset_26 : decode cX6_reset 26 = .ok (.getfield 7, 3) := by decide +kernel
theorem dX6_reset_29 : decode cX6_reset 29 = .ok (.iconst 0, 1) := by decide +kernel
theorem dX6_reset_30 : decode cX6_reset 30 = .ok (.iaload, 1) := by decide +kernel
theorem dX6_reset_31 : decode cX6_reset 31 = .ok (.istore_n 3, 1) := by decide +kernel
theorem dX6_reset_32 : decode cX6_reset 32 = .ok (.aload_n 0, 1) := by decide +kernel
theorem dX6_reset_33 : decode cX6_reset 33 = .ok (.iload_n 1, 1) := by decide +kernel
theorem dX6_reset_34 : decode cX6_reset 34 = .ok (.iload_n 2, 1) := by decide +kernel
theorem dX6_reset_35 : decode cX6_reset 35 = .ok (.invokevirtual 32, 3) := by decide +kernel
theorem dX6_reset_38 : decode cX6_reset 38 = .ok (.iload_n 3, 1) := by decide +kernel
theorem dX6_reset_39 : decode cX6_reset 39 = .ok (.ireturn, 1) := by decide +kernel
theorem dX6_setReserve_0 : decode cX6_setReserve 0 = .ok (.aload_n 0, 1) := by decide +kernel
theorem dX6_setReserve_1 : decode cX6_setReserve 1 = .ok (.iload_n 1, 1) := by decide +kernel
theorem dX6_setReserve_2 : decode cX6_setReserve 2 = .ok (.invokevirtual 40, 3) := by decide +kernel
theorem dX6_setReserve_5 : decode cX6_setReserve 5 = .ok (.ifCond .ne 5, 3) := by decide +kernel
theorem dX6_setReserve_8 : decode cX6_setReserve 8 = .ok (.iconst (-1), 1) := by decide +kernel
theorem dX6_setReserve_9 : decode cX6_setReserve 9 = .ok (.ireturn, 1) := by decide +kernel
theorem dX6_setReserve_10 : decode cX6_setReserve 10 = .ok (.iload_n 2, 1) := by decide +kernel
theorem dX6_setReserve_11 : decode cX6_setReserve 11 = .ok (.iconst 0, 1) := by decide +kernel
theorem dX6_setReserve_12 : decode cX6_setReserve 12 = .ok (.bipush 64, 2) := by decide +kernel
theorem dX6_setReserve_14 : decode cX6_setReserve 14 = .ok (.invokestatic 36, 3) := by decide +kernel
theorem dX6_setReserve_17 : decode cX6_setReserve 17 = .ok (.ifCond .ne 6, 3) := by decide +kernel
theorem dX6_setReserve_20 : decode cX6_setReserve 20 = .ok (.bipush (-2), 2) := by decide +kernel
theorem dX6_setReserve_22 : decode cX6_setReserve 22 = .ok (.ireturn, 1) := by decide +kernel
theorem dX6_setReserve_23 : decode cX6_setReserve 23 = .ok (.aload_n 0, 1) := by decide +kernel
theorem dX6_setReserve_24 : decode cX6_setReserve 24 = .ok (.getfield 7, 3) := by decide +kernel
theorem dX6_setReserve_27 : decode cX6_setReserve 27 = .ok (.iload_n 1, 1) := by decide +kernel
theorem dX6_setReserve_28 : decode cX6_setReserve 28 = .ok (.iconst 0, 1) := by decide +kernel
theorem dX6_setReserve_29 : decode cX6_setReserve 29 = .ok (.invokestatic 44, 3) := by decide +kernel
theorem dX6_setReserve_32 : decode cX6_setReserve 32 = .ok (.iaload, 1) := by decide +kernel
theorem dX6_setReserve_33 : decode cX6_setReserve 33 = .ok (.istore_n 3, 1) := by decide +kernel
theorem dX6_setReserve_34 : decode cX6_setReserve 34 = .ok (.iload_n 2, 1) := by decide +kernel
theorem dX6_setReserve_35 : decode cX6_setReserve 35 = .ok (.iload_n 3, 1) := by decide +kernel
theorem dX6_setReserve_36 : decode cX6_setReserve 36 = .ok (.isub, 1) := by decide +kernel
theorem dX6_setReserve_37 : decode cX6_setReserve 37 = .ok (.aload_n 0, 1) := by decide +kernel
theorem dX6_setReserve_38 : decode cX6_setReserve 38 = .ok (.invokevirtual 62, 3) := by decide +kernel
theorem dX6_setReserve_41 : decode cX6_setReserve 41 = .ok (.if_icmp .le 11, 3) := by decide +kernel
theorem dX6_setReserve_44 : decode cX6_setReserve 44 = .ok (.iload_n 2, 1) := by decide +kernel
theorem dX6_setReserve_45 : decode cX6_setReserve 45 = .ok (.iload_n 3, 1) := by decide +kernel
theorem dX6_setReserve_46 : decode cX6_setReserve 46 = .ok (.if_icmp .le 6, 3) := by decide +kernel
theorem dX6_setReserve_49 : decode cX6_setReserve 49 = .ok (.bipush (-3), 2) := by decide +kernel
theorem dX6_setReserve_51 : decode cX6_setReserve 51 = .ok (.ireturn, 1) := by decide +kernel
theorem dX6_setReserve_52 : decode cX6_setReserve 52 = .ok (.aload_n 0, 1) := by decide +kernel
theorem dX6_setReserve_53 : decode cX6_setReserve 53 = .ok (.getfield 7, 3) := by decide +kernel
theorem dX6_setReserve_56 : decode cX6_setReserve 56 = .ok (.iload_n 1, 1) := by decide +kernel
theorem dX6_setReserve_57 : decode cX6_setReserve 57 = .ok (.iconst 0, 1) := by decide +kernel
theorem dX6_setReserve_58 : decode cX6_setReserve 58 = .ok (.invokestatic 44, 3) := by decide +kernel
theorem dX6_setReserve_61 : decode cX6_setReserve 61 = .ok (.iload_n 2, 1) := by decide +kernel
theorem dX6_setReserve_62 : decode cX6_setReserve 62 = .ok (.iastore, 1) := by decide +kernel
theorem dX6_setReserve_63 : decode cX6_setReserve 63 = .ok (.aload_n 0, 1) := by decide +kernel
theorem dX6_setReserve_64 : decode cX6_setReserve 64 = .ok (.iload_n 1, 1) := by decide +kernel
theorem dX6_setReserve_65 : decode cX6_setReserve 65 = .ok (.invokevirtual 71, 3) := by decide +kernel
theorem dX6_setReserve_68 : decode cX6_setReserve 68 = .ok (.iload_n 3, 1) := by decide +kernel
theorem dX6_setReserve_69 : decode cX6_setReserve 69 = .ok (.ireturn, 1) := by decide +kernel
theorem dX6_setHeadroom_0 : decode cX6_setHeadroom 0 = .ok (.aload_n 0, 1) := by decide +kernel
theorem dX6_setHeadroom_1 : decode cX6_setHeadroom 1 = .ok (.iload_n 1, 1) := by decide +kernel
theorem dX6_setHeadroom_2 : decode cX6_setHeadroom 2 = .ok (.invokevirtual 40, 3) := by decide +kernel
theorem dX6_setHeadroom_5 : decode cX6_setHeadroom 5 = .ok (.ifCond .ne 5, 3) := by decide +kernel
theorem dX6_setHeadroom_8 : decode cX6_setHeadroom 8 = .ok (.iconst (-1), 1) := by decide +kernel
theorem dX6_setHeadroom_9 : decode cX6_setHeadroom 9 = .ok (.ireturn, 1) := by decide +kernel
theorem dX6_setHeadroom_10 : decode cX6_setHeadroom 10 = .ok (.iload_n 2, 1) := by decide +kernel
theorem dX6_setHeadroom_11 : decode cX6_setHeadroom 11 = .ok (.iconst 0, 1) := by decide +kernel
theorem dX6_setHeadroom_12 : decode cX6_setHeadroom 12 = .ok (.bipush 64, 2) := by decide +kernel
theorem dX6_setHeadroom_14 : decode cX6_setHeadroom 14 = .ok (.invokestatic 36, 3) := by decide +kernel
theorem dX6_setHeadroom_17 : decode cX6_setHeadroom 17 = .ok (.ifCond .ne 6, 3) := by decide +kernel
theorem dX6_setHeadroom_20 : decode cX6_setHeadroom 20 = .ok (.bipush (-2), 2) := by decide +kernel
theorem dX6_setHeadroom_22 : decode cX6_setHeadroom 22 = .ok (.ireturn, 1) := by decide +kernel
theorem dX6_setHeadroom_23 : decode cX6_setHeadroom 23 = .ok (.aload_n 0, 1) := by decide +kernel
theorem dX6_setHeadroom_24 : decode cX6_setHeadroom 24 = .ok (.getfield 7, 3) := by decide +kernel
theorem dX6_setHeadroom_27 : decode cX6_setHeadroom 27 = .ok (.iload_n 1, 1) := by decide +kernel
theorem dX6_setHeadroom_28 : decode cX6_setHeadroom 28 = .ok (.iconst 1, 1) := by decide +kernel
theorem dX6_setHeadroom_29 : decode cX6_setHeadroom 29 = .ok (.invokestatic 44, 3) := by decide +kernel
theorem dX6_setHeadroom_32 : decode cX6_setHeadroom 32 = .ok (.iaload, 1) := by decide +kernel
theorem dX6_setHeadroom_33 : decode cX6_setHeadroom 33 = .ok (.istore_n 3, 1) := by decide +kernel
theorem dX6_setHeadroom_34 : decode cX6_setHeadroom 34 = .ok (.aload_n 0, 1) := by decide +kernel
theorem dX6_setHeadroom_35 : decode cX6_setHeadroom 35 = .ok (.iload_n 1, 1) := by decide +kernel
theorem dX6_setHeadroom_36 : decode cX6_setHeadroom 36 = .ok (.bipush 8, 2) := by decide +kernel
theorem dX6_setHeadroom_38 : decode cX6_setHeadroom 38 = .ok (.invokevirtual 59, 3) := by decide +kernel
theorem dX6_setHeadroom_41 : decode cX6_setHeadroom 41 = .ok (.iload_n 2, 1) := by decide +kernel
theorem dX6_setHeadroom_42 : decode cX6_setHeadroom 42 = .ok (.if_icmp .le 6, 3) := by decide +kernel
theorem dX6_setHeadroom_45 : decode cX6_setHeadroom 45 = .ok (.bipush (-4), 2) := by decide +kernel
theorem dX6_setHeadroom_47 : decode cX6_setHeadroom 47 = .ok (.ireturn, 1) := by decide +kernel
theorem dX6_setHeadroom_48 : decode cX6_setHeadroom 48 = .ok (.iload_n 2, 1) := by decide +kernel
theorem dX6_setHeadroom_49 : decode cX6_setHeadroom 49 = .ok (.iload_n 3, 1) := by decide +kernel
theorem dX6_setHeadroom_50 : decode cX6_setHeadroom 50 = .ok (.if_icmp .le 16, 3) := by decide +kernel
theorem dX6_setHeadroom_53 : decode cX6_setHeadroom 53 = .ok (.iload_n 2, 1) := by decide +kernel
theorem dX6_setHeadroom_54 : decode cX6_setHeadroom 54 = .ok (.iload_n 3, 1) := by decide +kernel
theorem dX6_setHeadroom_55 : decode cX6_setHeadroom 55 = .ok (.isub, 1) := by decide +kernel
theorem dX6_setHeadroom_56 : decode cX6_setHeadroom 56 = .ok (.aload_n 0, 1) := by decide +kernel
theorem dX6_setHeadroom_57 : decode cX6_setHeadroom 57 = .ok (.invokevirtual 62, 3) := by decide +kernel
theorem dX6_setHeadroom_60 : decode cX6_setHeadroom 60 = .ok (.if_icmp .le 6, 3) := by decide +kernel
theorem dX6_setHeadroom_63 : decode cX6_setHeadroom 63 = .ok (.bipush (-3), 2) := by decide +kernel
theorem dX6_setHeadroom_65 : decode cX6_setHeadroom 65 = .ok (.ireturn, 1) := by decide +kernel
theorem dX6_setHeadroom_66 : decode cX6_setHeadroom 66 = .ok (.aload_n 0, 1) := by decide +kernel
theorem dX6_setHeadroom_67 : decode cX6_setHeadroom 67 = .ok (.getfield 7, 3) := by decide +kernel
theorem dX6_setHeadroom_70 : decode cX6_setHeadroom 70 = .ok (.iload_n 1, 1) := by decide +kernel
theorem dX6_setHeadroom_71 : decode cX6_setHeadroom 71 = .ok (.iconst 1, 1) := by decide +kernel
theorem dX6_setHeadroom_72 : decode cX6_setHeadroom 72 = .ok (.invokestatic 44, 3) := by decide +kernel
theorem dX6_setHeadroom_75 : decode cX6_setHeadroom 75 = .ok (.iload_n 2, 1) := by decide +kernel
theorem dX6_setHeadroom_76 : decode cX6_setHeadroom 76 = .ok (.iastore, 1) := by decide +kernel
theorem dX6_setHeadroom_77 : decode cX6_setHeadroom 77 = .ok (.iload_n 3, 1) := by decide +kernel
theorem dX6_setHeadroom_78 : decode cX6_setHeadroom 78 = .ok (.ireturn, 1) := by decide +kernel
theorem dX6_set_0 : decode cX6_set 0 = .ok (.aload_n 0, 1) := by decide +kernel
theorem dX6_set_1 : decode cX6_set 1 = .ok (.iload_n 1, 1) := by decide +kernel
theorem dX6_set_2 : decode cX6_set 2 = .ok (.iload_n 2, 1) := by decide +kernel
theorem dX6_set_3 : decode cX6_set 3 = .ok (.invokevirtual 75, 3) := by decide +kernel
theorem dX6_set_6 : decode cX6_set 6 = .ok (.ifCond .ne 5, 3) := by decide +kernel
theorem dX6_set_9 : decode cX6_set 9 = .ok (.iconst (-1), 1) := by decide +kernel
theorem dX6_set_10 : decode cX6_set 10 = .ok (.ireturn, 1) := by decide +kernel
theorem dX6_set_11 : decode cX6_set 11 = .ok (.iload 4, 2) := by decide +kernel
theorem dX6_set_13 : decode cX6_set 13 = .ok (.iload 5, 2) := by decide +kernel
theorem dX6_set_15 : decode cX6_set 15 = .ok (.iload 6, 2) := by decide +kernel
theorem dX6_set_17 : decode cX6_set 17 = .ok (.invokestatic 36, 3) := by decide +kernel
theorem dX6_set_20 : decode cX6_set 20 = .ok (.ifCond .ne 6, 3) := by decide +kernel
theorem dX6_set_23 : decode cX6_set 23 = .ok (.bipush (-2), 2) := by decide +kernel
theorem dX6_set_25 : decode cX6_set 25 = .ok (.ireturn, 1) := by decide +kernel
theorem dX6_set_26 : decode cX6_set 26 = .ok (.iconst 3, 1) := by decide +kernel
theorem dX6_set_27 : decode cX6_set 27 = .ok (.iload_n 1, 1) := by decide +kernel
theorem dX6_set_28 : decode cX6_set 28 = .ok (.imul, 1) := by decide +kernel
theorem dX6_set_29 : decode cX6_set 29 = .ok (.iload_n 2, 1) := by decide +kernel
theorem dX6_set_30 : decode cX6_set 30 = .ok (.iadd, 1) := by decide +kernel
theorem dX6_set_31 : decode cX6_set 31 = .ok (.iload_n 3, 1) := by decide +kernel
theorem dX6_set_32 : decode cX6_set 32 = .ok (.invokestatic 48, 3) := by decide +kernel
theorem dX6_set_35 : decode cX6_set 35 = .ok (.istore 7, 2) := by decide +kernel
theorem dX6_set_37 : decode cX6_set 37 = .ok (.aload_n 0, 1) := by decide +kernel
theorem dX6_set_38 : decode cX6_set 38 = .ok (.getfield 7, 3) := by decide +kernel
theorem dX6_set_41 : decode cX6_set 41 = .ok (.iload 7, 2) := by decide +kernel
theorem dX6_set_43 : decode cX6_set 43 = .ok (.iaload, 1) := by decide +kernel
theorem dX6_set_44 : decode cX6_set 44 = .ok (.istore 8, 2) := by decide +kernel
theorem dX6_set_46 : decode cX6_set 46 = .ok (.aload_n 0, 1) := by decide +kernel
theorem dX6_set_47 : decode cX6_set 47 = .ok (.getfield 7, 3) := by decide +kernel
theorem dX6_set_50 : decode cX6_set 50 = .ok (.iload 7, 2) := by decide +kernel
theorem dX6_set_52 : decode cX6_set 52 = .ok (.iload 4, 2) := by decide +kernel
theorem dX6_set_54 : decode cX6_set 54 = .ok (.iastore, 1) := by decide +kernel
theorem dX6_set_55 : decode cX6_set 55 = .ok (.iload 8, 2) := by decide +kernel
theorem dX6_set_57 : decode cX6_set 57 = .ok (.ireturn, 1) := by decide +kernel
theorem dX6_setAlpha_0 : decode cX6_setAlpha 0 = .ok (.aload_n 0, 1) := by decide +kernel
theorem dX6_setAlpha_1 : decode cX6_setAlpha 1 = .ok (.iload_n 1, 1) := by decide +kernel
theorem dX6_setAlpha_2 : decode cX6_setAlpha 2 = .ok (.iload_n 2, 1) := by decide +kernel
theorem dX6_setAlpha_3 : decode cX6_setAlpha 3 = .ok (.iconst 0, 1) := by decide +kernel
theorem dX6_setAlpha_4 : decode cX6_setAlpha 4 = .ok (.iload_n 3, 1) := by decide +kernel
theorem dX6_setAlpha_5 : decode cX6_setAlpha 5 = .ok (.iconst 0, 1) := by decide +kernel
theorem dX6_setAlpha_6 : decode cX6_setAlpha 6 = .ok (.bipush 64, 2) := by decide +kernel
theorem dX6_setAlpha_8 : decode cX6_setAlpha 8 = .ok (.invokevirtual 79, 3) := by decide +kernel
theorem dX6_setAlpha_11 : decode cX6_setAlpha 11 = .ok (.ireturn, 1) := by decide +kernel
theorem dX6_setBurst_0 : decode cX6_setBurst 0 = .ok (.aload_n 0, 1) := by decide +kernel
theorem dX6_setBurst_1 : decode cX6_setBurst 1 = .ok (.iload_n 1, 1) := by decide +kernel
theorem dX6_setBurst_2 : decode cX6_setBurst 2 = .ok (.iload_n 2, 1) := by decide +kernel
theorem dX6_setBurst_3 : decode cX6_setBurst 3 = .ok (.invokevirtual 75, 3) := by decide +kernel
theorem dX6_setBurst_6 : decode cX6_setBurst 6 = .ok (.ifCond .ne 5, 3) := by decide +kernel
theorem dX6_setBurst_9 : decode cX6_setBurst 9 = .ok (.iconst (-1), 1) := by decide +kernel
theorem dX6_setBurst_10 : decode cX6_setBurst 10 = .ok (.ireturn, 1) := by decide +kernel
theorem dX6_setBurst_11 : decode cX6_setBurst 11 = .ok (.iload_n 3, 1) := by decide +kernel
theorem dX6_setBurst_12 : decode cX6_setBurst 12 = .ok (.iconst 0, 1) := by decide +kernel
theorem dX6_setBurst_13 : decode cX6_setBurst 13 = .ok (.bipush 32, 2) := by decide +kernel
theorem dX6_setBurst_15 : decode cX6_setBurst 15 = .ok (.invokestatic 36, 3) := by decide +kernel
theorem dX6_setBurst_18 : decode cX6_setBurst 18 = .ok (.ifCond .eq 14, 3) := by decide +kernel
theorem dX6_setBurst_21 : decode cX6_setBurst 21 = .ok (.iload 4, 2) := by decide +kernel
theorem dX6_setBurst_23 : decode cX6_setBurst 23 = .ok (.iconst 0, 1) := by decide +kernel
theorem dX6_setBurst_24 : decode cX6_setBurst 24 = .ok (.bipush 8, 2) := by decide +kernel
theorem dX6_setBurst_26 : decode cX6_setBurst 26 = .ok (.invokestatic 36, 3) := by decide +kernel
theorem dX6_setBurst_29 : decode cX6_setBurst 29 = .ok (.ifCond .ne 6, 3) := by decide +kernel
theorem dX6_setBurst_32 : decode cX6_setBurst 32 = .ok (.bipush (-2), 2) := by decide +kernel
theorem dX6_setBurst_34 : decode cX6_setBurst 34 = .ok (.ireturn, 1) := by decide +kernel
theorem dX6_setBurst_35 : decode cX6_setBurst 35 = .ok (.iconst 3, 1) := by decide +kernel
theorem dX6_setBurst_36 : decode cX6_setBurst 36 = .ok (.iload_n 1, 1) := by decide +kernel
theorem dX6_setBurst_37 : decode cX6_setBurst 37 = .ok (.imul, 1) := by decide +kernel
theorem dX6_setBurst_38 : decode cX6_setBurst 38 = .ok (.iload_n 2, 1) := by decide +kernel
theorem dX6_setBurst_39 : decode cX6_setBurst 39 = .ok (.iadd, 1) := by decide +kernel
theorem dX6_setBurst_40 : decode cX6_setBurst 40 = .ok (.istore 5, 2) := by decide +kernel
theorem dX6_setBurst_42 : decode cX6_setBurst 42 = .ok (.aload_n 0, 1) := by decide +kernel
theorem dX6_setBurst_43 : decode cX6_setBurst 43 = .ok (.getfield 7, 3) := by decide +kernel
theorem dX6_setBurst_46 : decode cX6_setBurst 46 = .ok (.iload 5, 2) := by decide +kernel
theorem dX6_setBurst_48 : decode cX6_setBurst 48 = .ok (.iconst 3, 1) := by decide +kernel
theorem dX6_setBurst_49 : decode cX6_setBurst 49 = .ok (.invokestatic 48, 3) := by decide +kernel
theorem dX6_setBurst_52 : decode cX6_setBurst 52 = .ok (.iaload, 1) := by decide +kernel
theorem dX6_setBurst_53 : decode cX6_setBurst 53 = .ok (.istore 6, 2) := by decide +kernel
theorem dX6_setBurst_55 : decode cX6_setBurst 55 = .ok (.aload_n 0, 1) := by decide +kernel
theorem dX6_setBurst_56 : decode cX6_setBurst 56 = .ok (.getfield 7, 3) := by decide +kernel
theorem dX6_setBurst_59 : decode cX6_setBurst 59 = .ok (.iload 5, 2) := by decide +kernel
theorem dX6_setBurst_61 : decode cX6_setBurst 61 = .ok (.iconst 1, 1) := by decide +kernel
theorem dX6_setBurst_62 : decode cX6_setBurst 62 = .ok (.invokestatic 48, 3) := by decide +kernel
theorem dX6_setBurst_65 : decode cX6_setBurst 65 = .ok (.iload_n 3, 1) := by decide +kernel
theorem dX6_setBurst_66 : decode cX6_setBurst 66 = .ok (.iastore, 1) := by decide +kernel
theorem dX6_setBurst_67 : decode cX6_setBurst 67 = .ok (.aload_n 0, 1) := by decide +kernel
theorem dX6_setBurst_68 : decode cX6_setBurst 68 = .ok (.getfield 7, 3) := by decide +kernel
theorem dX6_setBurst_71 : decode cX6_setBurst 71 = .ok (.iload 5, 2) := by decide +kernel
theorem dX6_setBurst_73 : decode cX6_setBurst 73 = .ok (.iconst 2, 1) := by decide +kernel
theorem dX6_setBurst_74 : decode cX6_setBurst 74 = .ok (.invokestatic 48, 3) := by decide +kernel
theorem dX6_setBurst_77 : decode cX6_setBurst 77 = .ok (.iload 4, 2) := by decide +kernel
theorem dX6_setBurst_79 : decode cX6_setBurst 79 = .ok (.iastore, 1) := by decide +kernel
theorem dX6_setBurst_80 : decode cX6_setBurst 80 = .ok (.aload_n 0, 1) := by decide +kernel
theorem dX6_setBurst_81 : decode cX6_setBurst 81 = .ok (.getfield 7, 3) := by decide +kernel
theorem dX6_setBurst_84 : decode cX6_setBurst 84 = .ok (.iload 5, 2) := by decide +kernel
theorem dX6_setBurst_86 : decode cX6_setBurst 86 = .ok (.iconst 3, 1) := by decide +kernel
theorem dX6_setBurst_87 : decode cX6_setBurst 87 = .ok (.invokestatic 48, 3) := by decide +kernel
theorem dX6_setBurst_90 : decode cX6_setBurst 90 = .ok (.iload_n 3, 1) := by decide +kernel
theorem dX6_setBurst_91 : decode cX6_setBurst 91 = .ok (.iastore, 1) := by decide +kernel
theorem dX6_setBurst_92 : decode cX6_setBurst 92 = .ok (.iload 6, 2) := by decide +kernel
theorem dX6_setBurst_94 : decode cX6_setBurst 94 = .ok (.ireturn, 1) := by decide +kernel
theorem dX6_setLossless_0 : decode cX6_setLossless 0 = .ok (.aload_n 0, 1) := by decide +kernel
theorem dX6_setLossless_1 : decode cX6_setLossless 1 = .ok (.iload_n 1, 1) := by decide +kernel
theorem dX6_setLossless_2 : decode cX6_setLossless 2 = .ok (.iload_n 2, 1) := by decide +kernel
theorem dX6_setLossless_3 : decode cX6_setLossless 3 = .ok (.invokevirtual 75, 3) := by decide +kernel
theorem dX6_setLossless_6 : decode cX6_setLossless 6 = .ok (.ifCond .ne 5, 3) := by decide +kernel
theorem dX6_setLossless_9 : decode cX6_setLossless 9 = .ok (.iconst (-1), 1) := by decide +kernel
theorem dX6_setLossless_10 : decode cX6_setLossless 10 = .ok (.ireturn, 1) := by decide +kernel
theorem dX6_setLossless_11 : decode cX6_setLossless 11 = .ok (.iconst 3, 1) := by decide +kernel
theorem dX6_setLossless_12 : decode cX6_setLossless 12 = .ok (.iload_n 1, 1) := by decide +kernel
theorem dX6_setLossless_13 : decode cX6_setLossless 13 = .ok (.imul, 1) := by decide +kernel
theorem dX6_setLossless_14 : decode cX6_setLossless 14 = .ok (.iload_n 2, 1) := by decide +kernel
theorem dX6_setLossless_15 : decode cX6_setLossless 15 = .ok (.iadd, 1) := by decide +kernel
theorem dX6_setLossless_16 : decode cX6_setLossless 16 = .ok (.istore 4, 2) := by decide +kernel
theorem dX6_setLossless_18 : decode cX6_setLossless 18 = .ok (.iload_n 3, 1) := by decide +kernel
theorem dX6_setLossless_19 : decode cX6_setLossless 19 = .ok (.ifCond .ne 21, 3) := by decide +kernel
theorem dX6_setLossless_22 : decode cX6_setLossless 22 = .ok (.aload_n 0, 1) := by decide +kernel
theorem dX6_setLossless_23 : decode cX6_setLossless 23 = .ok (.getfield 7, 3) := by decide +kernel
theorem dX6_setLossless_26 : decode cX6_setLossless 26 = .ok (.iload 4, 2) := by decide +kernel
theorem dX6_setLossless_28 : decode cX6_setLossless 28 = .ok (.bipush 8, 2) := by decide +kernel
theorem dX6_setLossless_30 : decode cX6_setLossless 30 = .ok (.invokestatic 48, 3) := by decide +kernel
theorem dX6_setLossless_33 : decode cX6_setLossless 33 = .ok (.iaload, 1) := by decide +kernel
theorem dX6_setLossless_34 : decode cX6_setLossless 34 = .ok (.ifCond .le 6, 3) := by decide +kernel
theorem dX6_setLossless_37 : decode cX6_setLossless 37 = .ok (.bipush (-4), 2) := by decide +kernel
theorem dX6_setLossless_39 : decode cX6_setLossless 39 = .ok (.ireturn, 1) := by decide +kernel
theorem dX6_setLossless_40 : decode cX6_setLossless 40 = .ok (.aload_n 0, 1) := by decide +kernel
theorem dX6_setLossless_41 : decode cX6_setLossless 41 = .ok (.getfield 7, 3) := by decide +kernel
theorem dX6_setLossless_44 : decode cX6_setLossless 44 = .ok (.iload 4, 2) := by decide +kernel
theorem dX6_setLossless_46 : decode cX6_setLossless 46 = .ok (.bipush 9, 2) := by decide +kernel
theorem dX6_setLossless_48 : decode cX6_setLossless 48 = .ok (.invokestatic 48, 3) := by decide +kernel
theorem dX6_setLossless_51 : decode cX6_setLossless 51 = .ok (.iaload, 1) := by decide +kernel
theorem dX6_setLossless_52 : decode cX6_setLossless 52 = .ok (.istore 5, 2) := by decide +kernel
theorem dX6_setLossless_54 : decode cX6_setLossless 54 = .ok (.aload_n 0, 1) := by decide +kernel
theorem dX6_setLossless_55 : decode cX6_setLossless 55 = .ok (.getfield 7, 3) := by decide +kernel
theorem dX6_setLossless_58 : decode cX6_setLossless 58 = .ok (.iload 4, 2) := by decide +kernel
theorem dX6_setLossless_60 : decode cX6_setLossless 60 = .ok (.bipush 9, 2) := by decide +kernel
theorem dX6_setLossless_62 : decode cX6_setLossless 62 = .ok (.invokestatic 48, 3) := by decide +kernel
theorem dX6_setLossless_65 : decode cX6_setLossless 65 = .ok (.iload_n 3, 1) := by decide +kernel
theorem dX6_setLossless_66 : decode cX6_setLossless 66 = .ok (.ifCond .eq 7, 3) := by decide +kernel
theorem dX6_setLossless_69 : decode cX6_setLossless 69 = .ok (.iconst 1, 1) := by decide +kernel
theorem dX6_setLossless_70 : decode cX6_setLossless 70 = .ok (.goto 4, 3) := by decide +kernel
theorem dX6_setLossless_73 : decode cX6_setLossless 73 = .ok (.iconst 0, 1) := by decide +kernel
theorem dX6_setLossless_74 : decode cX6_setLossless 74 = .ok (.iastore, 1) := by decide +kernel
theorem dX6_setLossless_75 : decode cX6_setLossless 75 = .ok (.iload_n 3, 1) := by decide +kernel
theorem dX6_setLossless_76 : decode cX6_setLossless 76 = .ok (.ifCond .ne 16, 3) := by decide +kernel
theorem dX6_setLossless_79 : decode cX6_setLossless 79 = .ok (.aload_n 0, 1) := by decide +kernel
theorem dX6_setLossless_80 : decode cX6_setLossless 80 = .ok (.getfield 7, 3) := by decide +kernel
theorem dX6_setLossless_83 : decode cX6_setLossless 83 = .ok (.iload 4, 2) := by decide +kernel
theorem dX6_setLossless_85 : decode cX6_setLossless 85 = .ok (.bipush 10, 2) := by decide +kernel
theorem dX6_setLossless_87 : decode cX6_setLossless 87 = .ok (.invokestatic 48, 3) := by decide +kernel
theorem dX6_setLossless_90 : decode cX6_setLossless 90 = .ok (.iconst 0, 1) := by decide +kernel
theorem dX6_setLossless_91 : decode cX6_setLossless 91 = .ok (.iastore, 1) := by decide +kernel
theorem dX6_setLossless_92 : decode cX6_setLossless 92 = .ok (.iload 5, 2) := by decide +kernel
theorem dX6_setLossless_94 : decode cX6_setLossless 94 = .ok (.ireturn, 1) := by decide +kernel
theorem dX6_setScheduler_0 : decode cX6_setScheduler 0 = .ok (.aload_n 0, 1) := by decide +kernel
theorem dX6_setScheduler_1 : decode cX6_setScheduler 1 = .ok (.iload_n 1, 1) := by decide +kernel
theorem dX6_setScheduler_2 : decode cX6_setScheduler 2 = .ok (.invokevirtual 40, 3) := by decide +kernel
theorem dX6_setScheduler_5 : decode cX6_setScheduler 5 = .ok (.ifCond .ne 5, 3) := by decide +kernel
theorem dX6_setScheduler_8 : decode cX6_setScheduler 8 = .ok (.iconst (-1), 1) := by decide +kernel
theorem dX6_setScheduler_9 : decode cX6_setScheduler 9 = .ok (.ireturn, 1) := by decide +kernel
theorem dX6_setScheduler_10 : decode cX6_setScheduler 10 = .ok (.iload_n 3, 1) := by decide +kernel
theorem dX6_setScheduler_11 : decode cX6_setScheduler 11 = .ok (.iconst 0, 1) := by decide +kernel
theorem dX6_setScheduler_12 : decode cX6_setScheduler 12 = .ok (.bipush 16, 2) := by decide +kernel
theorem dX6_setScheduler_14 : decode cX6_setScheduler 14 = .ok (.invokestatic 36, 3) := by decide +kernel
theorem dX6_setScheduler_17 : decode cX6_setScheduler 17 = .ok (.ifCond .ne 6, 3) := by decide +kernel
theorem dX6_setScheduler_20 : decode cX6_setScheduler 20 = .ok (.bipush (-2), 2) := by decide +kernel
theorem dX6_setScheduler_22 : decode cX6_setScheduler 22 = .ok (.ireturn, 1) := by decide +kernel
theorem dX6_setScheduler_23 : decode cX6_setScheduler 23 = .ok (.aload_n 0, 1) := by decide +kernel
theorem dX6_setScheduler_24 : decode cX6_setScheduler 24 = .ok (.getfield 7, 3) := by decide +kernel
theorem dX6_setScheduler_27 : decode cX6_setScheduler 27 = .ok (.iload_n 1, 1) := by decide +kernel
theorem dX6_setScheduler_28 : decode cX6_setScheduler 28 = .ok (.iconst 5, 1) := by decide +kernel
theorem dX6_setScheduler_29 : decode cX6_setScheduler 29 = .ok (.invokestatic 44, 3) := by decide +kernel
theorem dX6_setScheduler_32 : decode cX6_setScheduler 32 = .ok (.iaload, 1) := by decide +kernel
theorem dX6_setScheduler_33 : decode cX6_setScheduler 33 = .ok (.istore 4, 2) := by decide +kernel
theorem dX6_setScheduler_35 : decode cX6_setScheduler 35 = .ok (.aload_n 0, 1) := by decide +kernel
theorem dX6_setScheduler_36 : decode cX6_setScheduler 36 = .ok (.getfield 7, 3) := by decide +kernel
theorem dX6_setScheduler_39 : decode cX6_setScheduler 39 = .ok (.iload_n 1, 1) := by decide +kernel
theorem dX6_setScheduler_40 : decode cX6_setScheduler 40 = .ok (.iconst 5, 1) := by decide +kernel
theorem dX6_setScheduler_41 : decode cX6_setScheduler 41 = .ok (.invokestatic 44, 3) := by decide +kernel
theorem dX6_setScheduler_44 : decode cX6_setScheduler 44 = .ok (.iload_n 3, 1) := by decide +kernel
theorem dX6_setScheduler_45 : decode cX6_setScheduler 45 = .ok (.iastore, 1) := by decide +kernel
theorem dX6_setScheduler_46 : decode cX6_setScheduler 46 = .ok (.aload_n 0, 1) := by decide +kernel
theorem dX6_setScheduler_47 : decode cX6_setScheduler 47 = .ok (.getfield 7, 3) := by decide +kernel
theorem dX6_setScheduler_50 : decode cX6_setScheduler 50 = .ok (.iload_n 1, 1) := by decide +kernel
theorem dX6_setScheduler_51 : decode cX6_setScheduler 51 = .ok (.bipush 8, 2) := by decide +kernel
theorem dX6_setScheduler_53 : decode cX6_setScheduler 53 = .ok (.invokestatic 44, 3) := by decide +kernel
theorem dX6_setScheduler_56 : decode cX6_setScheduler 56 = .ok (.iload_n 2, 1) := by decide +kernel
theorem dX6_setScheduler_57 : decode cX6_setScheduler 57 = .ok (.ifCond .eq 7, 3) := by decide +kernel
theorem dX6_setScheduler_60 : decode cX6_setScheduler 60 = .ok (.iconst 1, 1) := by decide +kernel
theorem dX6_setScheduler_61 : decode cX6_setScheduler 61 = .ok (.goto 4, 3) := by decide +kernel
theorem dX6_setScheduler_64 : decode cX6_setScheduler 64 = .ok (.iconst 0, 1) := by decide +kernel
theorem dX6_setScheduler_65 : decode cX6_setScheduler 65 = .ok (.iastore, 1) := by decide +kernel
theorem dX6_setScheduler_66 : decode cX6_setScheduler 66 = .ok (.iload 4, 2) := by decide +kernel
theorem dX6_setScheduler_68 : decode cX6_setScheduler 68 = .ok (.ireturn, 1) := by decide +kernel
theorem dX6_setQuantum_0 : decode cX6_setQuantum 0 = .ok (.aload_n 0, 1) := by decide +kernel
theorem dX6_setQuantum_1 : decode cX6_setQuantum 1 = .ok (.iload_n 1, 1) := by decide +kernel
theorem dX6_setQuantum_2 : decode cX6_setQuantum 2 = .ok (.iload_n 2, 1) := by decide +kernel
theorem dX6_setQuantum_3 : decode cX6_setQuantum 3 = .ok (.iconst 4, 1) := by decide +kernel
theorem dX6_setQuantum_4 : decode cX6_setQuantum 4 = .ok (.iload_n 3, 1) := by decide +kernel
theorem dX6_setQuantum_5 : decode cX6_setQuantum 5 = .ok (.iconst 1, 1) := by decide +kernel
theorem dX6_setQuantum_6 : decode cX6_setQuantum 6 = .ok (.bipush 16, 2) := by decide +kernel
theorem dX6_setQuantum_8 : decode cX6_setQuantum 8 = .ok (.invokevirtual 79, 3) := by decide +kernel
theorem dX6_setQuantum_11 : decode cX6_setQuantum 11 = .ok (.ireturn, 1) := by decide +kernel
theorem dX6_setPushOut_0 : decode cX6_setPushOut 0 = .ok (.aload_n 0, 1) := by decide +kernel
theorem dX6_setPushOut_1 : decode cX6_setPushOut 1 = .ok (.getfield 7, 3) := by decide +kernel
theorem dX6_setPushOut_4 : decode cX6_setPushOut 4 = .ok (.iconst 2, 1) := by decide +kernel
theorem dX6_setPushOut_5 : decode cX6_setPushOut 5 = .ok (.iaload, 1) := by decide +kernel
theorem dX6_setPushOut_6 : decode cX6_setPushOut 6 = .ok (.istore_n 2, 1) := by decide +kernel
theorem dX6_setPushOut_7 : decode cX6_setPushOut 7 = .ok (.aload_n 0, 1) := by decide +kernel
theorem dX6_setPushOut_8 : decode cX6_setPushOut 8 = .ok (.getfield 7, 3) := by decide +kernel
theorem dX6_setPushOut_11 : decode cX6_setPushOut 11 = .ok (.iconst 2, 1) := by decide +kernel
theorem dX6_setPushOut_12 : decode cX6_setPushOut 12 = .ok (.iload_n 1, 1) := by decide +kernel
theorem dX6_setPushOut_13 : decode cX6_setPushOut 13 = .ok (.ifCond .eq 7, 3) := by decide +kernel
theorem dX6_setPushOut_16 : decode cX6_setPushOut 16 = .ok (.iconst 1, 1) := by decide +kernel
theorem dX6_setPushOut_17 : decode cX6_setPushOut 17 = .ok (.goto 4, 3) := by decide +kernel
theorem dX6_setPushOut_20 : decode cX6_setPushOut 20 = .ok (.iconst 0, 1) := by decide +kernel
theorem dX6_setPushOut_21 : decode cX6_setPushOut 21 = .ok (.iastore, 1) := by decide +kernel
theorem dX6_setPushOut_22 : decode cX6_setPushOut 22 = .ok (.iload_n 2, 1) := by decide +kernel
theorem dX6_setPushOut_23 : decode cX6_setPushOut 23 = .ok (.ireturn, 1) := by decide +kernel
theorem dX6_drops_0 : decode cX6_drops 0 = .ok (.aload_n 0, 1) := by decide +kernel
theorem dX6_drops_1 : decode cX6_drops 1 = .ok (.getfield 7, 3) := by decide +kernel
theorem dX6_drops_4 : decode cX6_drops 4 = .ok (.iload_n 1, 1) := by decide +kernel
theorem dX6_drops_5 : decode cX6_drops 5 = .ok (.iconst 2, 1) := by decide +kernel
theorem dX6_drops_6 : decode cX6_drops 6 = .ok (.invokestatic 44, 3) := by decide +kernel
theorem dX6_drops_9 : decode cX6_drops 9 = .ok (.iconst 0, 1) := by decide +kernel
theorem dX6_drops_10 : decode cX6_drops 10 = .ok (.iastore, 1) := by decide +kernel
theorem dX6_drops_11 : decode cX6_drops 11 = .ok (.aload_n 0, 1) := by decide +kernel
theorem dX6_drops_12 : decode cX6_drops 12 = .ok (.getfield 7, 3) := by decide +kernel
theorem dX6_drops_15 : decode cX6_drops 15 = .ok (.iload_n 1, 1) := by decide +kernel
theorem dX6_drops_16 : decode cX6_drops 16 = .ok (.iconst 3, 1) := by decide +kernel
theorem dX6_drops_17 : decode cX6_drops 17 = .ok (.invokestatic 44, 3) := by decide +kernel
theorem dX6_drops_20 : decode cX6_drops 20 = .ok (.iconst 0, 1) := by decide +kernel
theorem dX6_drops_21 : decode cX6_drops 21 = .ok (.iastore, 1) := by decide +kernel
theorem dX6_drops_22 : decode cX6_drops 22 = .ok (.aload_n 0, 1) := by decide +kernel
theorem dX6_drops_23 : decode cX6_drops 23 = .ok (.iload_n 1, 1) := by decide +kernel
theorem dX6_drops_24 : decode cX6_drops 24 = .ok (.invokevirtual 71, 3) := by decide +kernel
theorem dX6_drops_27 : decode cX6_drops 27 = .ok (.return_, 1) := by decide +kernel
theorem dX6_grant_0 : decode cX6_grant 0 = .ok (.aload_n 0, 1) := by decide +kernel
theorem dX6_grant_1 : decode cX6_grant 1 = .ok (.iload_n 1, 1) := by decide +kernel
theorem dX6_grant_2 : decode cX6_grant 2 = .ok (.invokevirtual 40, 3) := by decide +kernel
theorem dX6_grant_5 : decode cX6_grant 5 = .ok (.ifCond .ne 5, 3) := by decide +kernel
theorem dX6_grant_8 : decode cX6_grant 8 = .ok (.iconst (-1), 1) := by decide +kernel
theorem dX6_grant_9 : decode cX6_grant 9 = .ok (.ireturn, 1) := by decide +kernel
theorem dX6_grant_10 : decode cX6_grant 10 = .ok (.iload_n 2, 1) := by decide +kernel
theorem dX6_grant_11 : decode cX6_grant 11 = .ok (.iconst 1, 1) := by decide +kernel
theorem dX6_grant_12 : decode cX6_grant 12 = .ok (.bipush 32, 2) := by decide +kernel
theorem dX6_grant_14 : decode cX6_grant 14 = .ok (.invokestatic 36, 3) := by decide +kernel
theorem dX6_grant_17 : decode cX6_grant 17 = .ok (.ifCond .ne 6, 3) := by decide +kernel
theorem dX6_grant_20 : decode cX6_grant 20 = .ok (.bipush (-2), 2) := by decide +kernel
theorem dX6_grant_22 : decode cX6_grant 22 = .ok (.ireturn, 1) := by decide +kernel
theorem dX6_grant_23 : decode cX6_grant 23 = .ok (.bipush (-5), 2) := by decide +kernel
theorem dX6_grant_25 : decode cX6_grant 25 = .ok (.istore_n 3, 1) := by decide +kernel
theorem dX6_grant_26 : decode cX6_grant 26 = .ok (.aload_n 0, 1) := by decide +kernel
theorem dX6_grant_27 : decode cX6_grant 27 = .ok (.getfield 7, 3) := by decide +kernel
theorem dX6_grant_30 : decode cX6_grant 30 = .ok (.iload_n 1, 1) := by decide +kernel
theorem dX6_grant_31 : decode cX6_grant 31 = .ok (.iconst 3, 1) := by decide +kernel
theorem dX6_grant_32 : decode cX6_grant 32 = .ok (.invokestatic 44, 3) := by decide +kernel
theorem dX6_grant_35 : decode cX6_grant 35 = .ok (.iaload, 1) := by decide +kernel
theorem dX6_grant_36 : decode cX6_grant 36 = .ok (.ifCond .ne 93, 3) := by decide +kernel
theorem dX6_grant_39 : decode cX6_grant 39 = .ok (.iconst 0, 1) := by decide +kernel
theorem dX6_grant_40 : decode cX6_grant 40 = .ok (.istore 4, 2) := by decide +kernel
theorem dX6_grant_42 : decode cX6_grant 42 = .ok (.iconst 0, 1) := by decide +kernel
theorem dX6_grant_43 : decode cX6_grant 43 = .ok (.istore 5, 2) := by decide +kernel
theorem dX6_grant_45 : decode cX6_grant 45 = .ok (.iload 5, 2) := by decide +kernel
theorem dX6_grant_47 : decode cX6_grant 47 = .ok (.aload_n 0, 1) := by decide +kernel
theorem dX6_grant_48 : decode cX6_grant 48 = .ok (.getfield 7, 3) := by decide +kernel
theorem dX6_grant_51 : decode cX6_grant 51 = .ok (.iconst 1, 1) := by decide +kernel
theorem dX6_grant_52 : decode cX6_grant 52 = .ok (.iaload, 1) := by decide +kernel
theorem dX6_grant_53 : decode cX6_grant 53 = .ok (.if_icmp .ge 63, 3) := by decide +kernel
theorem dX6_grant_56 : decode cX6_grant 56 = .ok (.aload_n 0, 1) := by decide +kernel
theorem dX6_grant_57 : decode cX6_grant 57 = .ok (.getfield 7, 3) := by decide +kernel
theorem dX6_grant_60 : decode cX6_grant 60 = .ok (.iload 5, 2) := by decide +kernel
theorem dX6_grant_62 : decode cX6_grant 62 = .ok (.iconst 3, 1) := by decide +kernel
theorem dX6_grant_63 : decode cX6_grant 63 = .ok (.invokestatic 44, 3) := by decide +kernel
theorem dX6_grant_66 : decode cX6_grant 66 = .ok (.iaload, 1) := by decide +kernel
theorem dX6_grant_67 : decode cX6_grant 67 = .ok (.ifCond .le 43, 3) := by decide +kernel
theorem dX6_grant_70 : decode cX6_grant 70 = .ok (.iinc 4 1, 3) := by decide +kernel
theorem dX6_grant_73 : decode cX6_grant 73 = .ok (.iload_n 3, 1) := by decide +kernel
theorem dX6_grant_74 : decode cX6_grant 74 = .ok (.bipush (-5), 2) := by decide +kernel
theorem dX6_grant_76 : decode cX6_grant 76 = .ok (.if_icmp .eq 27, 3) := by decide +kernel
theorem dX6_grant_79 : decode cX6_grant 79 = .ok (.aload_n 0, 1) := by decide +kernel
theorem dX6_grant_80 : decode cX6_grant 80 = .ok (.getfield 7, 3) := by decide +kernel
theorem dX6_grant_83 : decode cX6_grant 83 = .ok (.iload 5, 2) := by decide +kernel
theorem dX6_grant_85 : decode cX6_grant 85 = .ok (.iconst 3, 1) := by decide +kernel
theorem dX6_grant_86 : decode cX6_grant 86 = .ok (.invokestatic 44, 3) := by decide +kernel
theorem dX6_grant_89 : decode cX6_grant 89 = .ok (.iaload, 1) := by decide +kernel
theorem dX6_grant_90 : decode cX6_grant 90 = .ok (.aload_n 0, 1) := by decide +kernel
theorem dX6_grant_91 : decode cX6_grant 91 = .ok (.getfield 7, 3) := by decide +kernel
theorem dX6_grant_94 : decode cX6_grant 94 = .ok (.iload_n 3, 1) := by decide +kernel
theorem dX6_grant_95 : decode cX6_grant 95 = .ok (.iconst 3, 1) := by decide +kernel
theorem dX6_grant_96 : decode cX6_grant 96 = .ok (.invokestatic 44, 3) := by decide +kernel
theorem dX6_grant_99 : decode cX6_grant 99 = .ok (.iaload, 1) := by decide +kernel
theorem dX6_grant_100 : decode cX6_grant 100 = .ok (.if_icmp .ge 8, 3) := by decide +kernel
theorem dX6_grant_103 : decode cX6_grant 103 = .ok (.iload 5, 2) := by decide +kernel
theorem dX6_grant_105 : decode cX6_grant 105 = .ok (.goto 4, 3) := by decide +kernel
theorem dX6_grant_108 : decode cX6_grant 108 = .ok (.iload_n 3, 1) := by decide +kernel
theorem dX6_grant_109 : decode cX6_grant 109 = .ok (.istore_n 3, 1) := by decide +kernel
theorem dX6_grant_110 : decode cX6_grant 110 = .ok (.iinc 5 1, 3) := by decide +kernel
theorem dX6_grant_113 : decode cX6_grant 113 = .ok (.goto (-68), 3) := by decide +kernel
theorem dX6_grant_116 : decode cX6_grant 116 = .ok (.iload 4, 2) := by decide +kernel
theorem dX6_grant_118 : decode cX6_grant 118 = .ok (.iconst 2, 1) := by decide +kernel
theorem dX6_grant_119 : decode cX6_grant 119 = .ok (.if_icmp .ge 8, 3) := by decide +kernel
theorem dX6_grant_122 : decode cX6_grant 122 = .ok (.bipush (-5), 2) := by decide +kernel
theorem dX6_grant_124 : decode cX6_grant 124 = .ok (.goto 4, 3) := by decide +kernel
theorem dX6_grant_127 : decode cX6_grant 127 = .ok (.iload_n 3, 1) := by decide +kernel
theorem dX6_grant_128 : decode cX6_grant 128 = .ok (.istore_n 3, 1) := by decide +kernel
theorem dX6_grant_129 : decode cX6_grant 129 = .ok (.aload_n 0, 1) := by decide +kernel
theorem dX6_grant_130 : decode cX6_grant 130 = .ok (.invokevirtual 83, 3) := by decide +kernel
theorem dX6_grant_133 : decode cX6_grant 133 = .ok (.iload_n 3, 1) := by decide +kernel
theorem dX6_grant_134 : decode cX6_grant 134 = .ok (.bipush (-5), 2) := by decide +kernel
theorem dX6_grant_136 : decode cX6_grant 136 = .ok (.if_icmp .eq 8, 3) := by decide +kernel
theorem dX6_grant_139 : decode cX6_grant 139 = .ok (.aload_n 0, 1) := by decide +kernel
theorem dX6_grant_140 : decode cX6_grant 140 = .ok (.iload_n 3, 1) := by decide +kernel
theorem dX6_grant_141 : decode cX6_grant 141 = .ok (.invokevirtual 86, 3) := by decide +kernel
theorem dX6_grant_144 : decode cX6_grant 144 = .ok (.iload_n 2, 1) := by decide +kernel
theorem dX6_grant_145 : decode cX6_grant 145 = .ok (.aload_n 0, 1) := by decide +kernel
theorem dX6_grant_146 : decode cX6_grant 146 = .ok (.getfield 7, 3) := by decide +kernel
theorem dX6_grant_149 : decode cX6_grant 149 = .ok (.iload_n 1, 1) := by decide +kernel
theorem dX6_grant_150 : decode cX6_grant 150 = .ok (.iconst 2, 1) := by decide +kernel
theorem dX6_grant_151 : decode cX6_grant 151 = .ok (.invokestatic 44, 3) := by decide +kernel
theorem dX6_grant_154 : decode cX6_grant 154 = .ok (.iaload, 1) := by decide +kernel
theorem dX6_grant_155 : decode cX6_grant 155 = .ok (.isub, 1) := by decide +kernel
theorem dX6_grant_156 : decode cX6_grant 156 = .ok (.istore 4, 2) := by decide +kernel
theorem dX6_grant_158 : decode cX6_grant 158 = .ok (.iload 4, 2) := by decide +kernel
theorem dX6_grant_160 : decode cX6_grant 160 = .ok (.ifCond .le 19, 3) := by decide +kernel
theorem dX6_grant_163 : decode cX6_grant 163 = .ok (.iload 4, 2) := by decide +kernel
theorem dX6_grant_165 : decode cX6_grant 165 = .ok (.aload_n 0, 1) := by decide +kernel
theorem dX6_grant_166 : decode cX6_grant 166 = .ok (.invokevirtual 62, 3) := by decide +kernel
theorem dX6_grant_169 : decode cX6_grant 169 = .ok (.if_icmp .le 10, 3) := by decide +kernel
theorem dX6_grant_172 : decode cX6_grant 172 = .ok (.aload_n 0, 1) := by decide +kernel
theorem dX6_grant_173 : decode cX6_grant 173 = .ok (.invokevirtual 89, 3) := by decide +kernel
theorem dX6_grant_176 : decode cX6_grant 176 = .ok (.bipush (-3), 2) := by decide +kernel
theorem dX6_grant_178 : decode cX6_grant 178 = .ok (.ireturn, 1) := by decide +kernel
theorem dX6_grant_179 : decode cX6_grant 179 = .ok (.aload_n 0, 1) := by decide +kernel
theorem dX6_grant_180 : decode cX6_grant 180 = .ok (.getfield 7, 3) := by decide +kernel
theorem dX6_grant_183 : decode cX6_grant 183 = .ok (.iload_n 1, 1) := by decide +kernel
theorem dX6_grant_184 : decode cX6_grant 184 = .ok (.iconst 3, 1) := by decide +kernel
theorem dX6_grant_185 : decode cX6_grant 185 = .ok (.invokestatic 44, 3) := by decide +kernel
theorem dX6_grant_188 : decode cX6_grant 188 = .ok (.iaload, 1) := by decide +kernel
theorem dX6_grant_189 : decode cX6_grant 189 = .ok (.ifCond .ne 31, 3) := by decide +kernel
theorem dX6_grant_192 : decode cX6_grant 192 = .ok (.aload_n 0, 1) := by decide +kernel
theorem dX6_grant_193 : decode cX6_grant 193 = .ok (.getfield 7, 3) := by decide +kernel
theorem dX6_grant_196 : decode cX6_grant 196 = .ok (.bipush 10, 2) := by decide +kernel
theorem dX6_grant_198 : decode cX6_grant 198 = .ok (.dup2, 1) := by decide +kernel
theorem dX6_grant_199 : decode cX6_grant 199 = .ok (.iaload, 1) := by decide +kernel
theorem dX6_grant_200 : decode cX6_grant 200 = .ok (.iconst 1, 1) := by decide +kernel
theorem dX6_grant_201 : decode cX6_grant 201 = .ok (.iadd, 1) := by decide +kernel
theorem dX6_grant_202 : decode cX6_grant 202 = .ok (.iastore, 1) := by decide +kernel
theorem dX6_grant_203 : decode cX6_grant 203 = .ok (.aload_n 0, 1) := by decide +kernel
theorem dX6_grant_204 : decode cX6_grant 204 = .ok (.getfield 7, 3) := by decide +kernel
theorem dX6_grant_207 : decode cX6_grant 207 = .ok (.iload_n 1, 1) := by decide +kernel
theorem dX6_grant_208 : decode cX6_grant 208 = .ok (.iconst 3, 1) := by decide +kernel
theorem dX6_grant_209 : decode cX6_grant 209 = .ok (.invokestatic 44, 3) := by decide +kernel
theorem dX6_grant_212 : decode cX6_grant 212 = .ok (.aload_n 0, 1) := by decide +kernel
theorem dX6_grant_213 : decode cX6_grant 213 = .ok (.getfield 7, 3) := by decide +kernel
theorem dX6_grant_216 : decode cX6_grant 216 = .ok (.bipush 10, 2) := by decide +kernel
theorem dX6_grant_218 : decode cX6_grant 218 = .ok (.iaload, 1) := by decide +kernel
theorem dX6_grant_219 : decode cX6_grant 219 = .ok (.iastore, 1) := by decide +kernel
theorem dX6_grant_220 : decode cX6_grant 220 = .ok (.aload_n 0, 1) := by decide +kernel
theorem dX6_grant_221 : decode cX6_grant 221 = .ok (.getfield 7, 3) := by decide +kernel
theorem dX6_grant_224 : decode cX6_grant 224 = .ok (.iload_n 1, 1) := by decide +kernel
theorem dX6_grant_225 : decode cX6_grant 225 = .ok (.iconst 2, 1) := by decide +kernel
theorem dX6_grant_226 : decode cX6_grant 226 = .ok (.invokestatic 44, 3) := by decide +kernel
theorem dX6_grant_229 : decode cX6_grant 229 = .ok (.iload_n 2, 1) := by decide +kernel
theorem dX6_grant_230 : decode cX6_grant 230 = .ok (.iastore, 1) := by decide +kernel
theorem dX6_grant_231 : decode cX6_grant 231 = .ok (.aload_n 0, 1) := by decide +kernel
theorem dX6_grant_232 : decode cX6_grant 232 = .ok (.iload_n 1, 1) := by decide +kernel
theorem dX6_grant_233 : decode cX6_grant 233 = .ok (.invokevirtual 71, 3) := by decide +kernel
theorem dX6_grant_236 : decode cX6_grant 236 = .ok (.iload_n 3, 1) := by decide +kernel
theorem dX6_grant_237 : decode cX6_grant 237 = .ok (.ireturn, 1) := by decide +kernel
theorem dX6_withdraw_0 : decode cX6_withdraw 0 = .ok (.aload_n 0, 1) := by decide +kernel
theorem dX6_withdraw_1 : decode cX6_withdraw 1 = .ok (.iload_n 1, 1) := by decide +kernel
theorem dX6_withdraw_2 : decode cX6_withdraw 2 = .ok (.invokevirtual 40, 3) := by decide +kernel
theorem dX6_withdraw_5 : decode cX6_withdraw 5 = .ok (.ifCond .ne 5, 3) := by decide +kernel
theorem dX6_withdraw_8 : decode cX6_withdraw 8 = .ok (.iconst (-1), 1) := by decide +kernel
theorem dX6_withdraw_9 : decode cX6_withdraw 9 = .ok (.ireturn, 1) := by decide +kernel
theorem dX6_withdraw_10 : decode cX6_withdraw 10 = .ok (.aload_n 0, 1) := by decide +kernel
theorem dX6_withdraw_11 : decode cX6_withdraw 11 = .ok (.getfield 7, 3) := by decide +kernel
theorem dX6_withdraw_14 : decode cX6_withdraw 14 = .ok (.iload_n 1, 1) := by decide +kernel
theorem dX6_withdraw_15 : decode cX6_withdraw 15 = .ok (.iconst 3, 1) := by decide +kernel
theorem dX6_withdraw_16 : decode cX6_withdraw 16 = .ok (.invokestatic 44, 3) := by decide +kernel
theorem dX6_withdraw_19 : decode cX6_withdraw 19 = .ok (.iaload, 1) := by decide +kernel
theorem dX6_withdraw_20 : decode cX6_withdraw 20 = .ok (.ifCond .ne 6, 3) := by decide +kernel
theorem dX6_withdraw_23 : decode cX6_withdraw 23 = .ok (.bipush (-5), 2) := by decide +kernel
theorem dX6_withdraw_25 : decode cX6_withdraw 25 = .ok (.ireturn, 1) := by decide +kernel
theorem dX6_withdraw_26 : decode cX6_withdraw 26 = .ok (.aload_n 0, 1) := by decide +kernel
theorem dX6_withdraw_27 : decode cX6_withdraw 27 = .ok (.getfield 7, 3) := by decide +kernel
theorem dX6_withdraw_30 : decode cX6_withdraw 30 = .ok (.iload_n 1, 1) := by decide +kernel
theorem dX6_withdraw_31 : decode cX6_withdraw 31 = .ok (.iconst 2, 1) := by decide +kernel
theorem dX6_withdraw_32 : decode cX6_withdraw 32 = .ok (.invokestatic 44, 3) := by decide +kernel
theorem dX6_withdraw_35 : decode cX6_withdraw 35 = .ok (.iaload, 1) := by decide +kernel
theorem dX6_withdraw_36 : decode cX6_withdraw 36 = .ok (.istore_n 2, 1) := by decide +kernel
theorem dX6_withdraw_37 : decode cX6_withdraw 37 = .ok (.aload_n 0, 1) := by decide +kernel
theorem dX6_withdraw_38 : decode cX6_withdraw 38 = .ok (.iload_n 1, 1) := by decide +kernel
theorem dX6_withdraw_39 : decode cX6_withdraw 39 = .ok (.invokevirtual 86, 3) := by decide +kernel
theorem dX6_withdraw_42 : decode cX6_withdraw 42 = .ok (.iload_n 2, 1) := by decide +kernel
theorem dX6_withdraw_43 : decode cX6_withdraw 43 = .ok (.ireturn, 1) := by decide +kernel
theorem dX6_keeps_0 : decode cX6_keeps 0 = .ok (.iconst 0, 1) := by decide +kernel
theorem dX6_keeps_1 : decode cX6_keeps 1 = .ok (.istore_n 1, 1) := by decide +kernel
theorem dX6_keeps_2 : decode cX6_keeps 2 = .ok (.iload_n 1, 1) := by decide +kernel
theorem dX6_keeps_3 : decode cX6_keeps 3 = .ok (.sipush 6464, 3) := by decide +kernel
theorem dX6_keeps_6 : decode cX6_keeps 6 = .ok (.if_icmp .ge 21, 3) := by decide +kernel
theorem dX6_keeps_9 : decode cX6_keeps 9 = .ok (.aload_n 0, 1) := by decide +kernel
theorem dX6_keeps_10 : decode cX6_keeps 10 = .ok (.getfield 13, 3) := by decide +kernel
theorem dX6_keeps_13 : decode cX6_keeps 13 = .ok (.iload_n 1, 1) := by decide +kernel
theorem dX6_keeps_14 : decode cX6_keeps 14 = .ok (.aload_n 0, 1) := by decide +kernel
theorem dX6_keeps_15 : decode cX6_keeps 15 = .ok (.getfield 7, 3) := by decide +kernel
theorem dX6_keeps_18 : decode cX6_keeps 18 = .ok (.iload_n 1, 1) := by decide +kernel
theorem dX6_keeps_19 : decode cX6_keeps 19 = .ok (.iaload, 1) := by decide +kernel
theorem dX6_keeps_20 : decode cX6_keeps 20 = .ok (.iastore, 1) := by decide +kernel
theorem dX6_keeps_21 : decode cX6_keeps 21 = .ok (.iinc 1 1, 3) := by decide +kernel
theorem dX6_keeps_24 : decode cX6_keeps 24 = .ok (.goto (-22), 3) := by decide +kernel
theorem dX6_keeps_27 : decode cX6_keeps 27 = .ok (.return_, 1) := by decide +kernel
theorem dX6_brings_0 : decode cX6_brings 0 = .ok (.iconst 0, 1) := by decide +kernel
theorem dX6_brings_1 : decode cX6_brings 1 = .ok (.istore_n 1, 1) := by decide +kernel
theorem dX6_brings_2 : decode cX6_brings 2 = .ok (.iload_n 1, 1) := by decide +kernel
theorem dX6_brings_3 : decode cX6_brings 3 = .ok (.sipush 6464, 3) := by decide +kernel
theorem dX6_brings_6 : decode cX6_brings 6 = .ok (.if_icmp .ge 21, 3) := by decide +kernel
theorem dX6_brings_9 : decode cX6_brings 9 = .ok (.aload_n 0, 1) := by decide +kernel
theorem dX6_brings_10 : decode cX6_brings 10 = .ok (.getfield 7, 3) := by decide +kernel
theorem dX6_brings_13 : decode cX6_brings 13 = .ok (.iload_n 1, 1) := by decide +kernel
theorem dX6_brings_14 : decode cX6_brings 14 = .ok (.aload_n 0, 1) := by decide +kernel
theorem dX6_brings_15 : decode cX6_brings 15 = .ok (.getfield 13, 3) := by decide +kernel
theorem dX6_brings_18 : decode cX6_brings 18 = .ok (.iload_n 1, 1) := by decide +kernel
theorem dX6_brings_19 : decode cX6_brings 19 = .ok (.iaload, 1) := by decide +kernel
theorem dX6_brings_20 : decode cX6_brings 20 = .ok (.iastore, 1) := by decide +kernel
theorem dX6_brings_21 : decode cX6_brings 21 = .ok (.iinc 1 1, 3) := by decide +kernel
theorem dX6_brings_24 : decode cX6_brings 24 = .ok (.goto (-22), 3) := by decide +kernel
theorem dX6_brings_27 : decode cX6_brings 27 = .ok (.return_, 1) := by decide +kernel
theorem dX6_slotOf_0 : decode cX6_slotOf 0 = .ok (.iconst 0, 1) := by decide +kernel
theorem dX6_slotOf_1 : decode cX6_slotOf 1 = .ok (.istore_n 2, 1) := by decide +kernel
theorem dX6_slotOf_2 : decode cX6_slotOf 2 = .ok (.iload_n 2, 1) := by decide +kernel
theorem dX6_slotOf_3 : decode cX6_slotOf 3 = .ok (.sipush 128, 3) := by decide +kernel
theorem dX6_slotOf_6 : decode cX6_slotOf 6 = .ok (.if_icmp .ge 39, 3) := by decide +kernel
theorem dX6_slotOf_9 : decode cX6_slotOf 9 = .ok (.aload_n 0, 1) := by decide +kernel
theorem dX6_slotOf_10 : decode cX6_slotOf 10 = .ok (.getfield 7, 3) := by decide +kernel
theorem dX6_slotOf_13 : decode cX6_slotOf 13 = .ok (.iload_n 2, 1) := by decide +kernel
theorem dX6_slotOf_14 : decode cX6_slotOf 14 = .ok (.iconst 3, 1) := by decide +kernel
theorem dX6_slotOf_15 : decode cX6_slotOf 15 = .ok (.invokestatic 92, 3) := by decide +kernel
theorem dX6_slotOf_18 : decode cX6_slotOf 18 = .ok (.iaload, 1) := by decide +kernel
theorem dX6_slotOf_19 : decode cX6_slotOf 19 = .ok (.iconst 1, 1) := by decide +kernel
theorem dX6_slotOf_20 : decode cX6_slotOf 20 = .ok (.if_icmp .ne 19, 3) := by decide +kernel
theorem dX6_slotOf_23 : decode cX6_slotOf 23 = .ok (.aload_n 0, 1) := by decide +kernel
theorem dX6_slotOf_24 : decode cX6_slotOf 24 = .ok (.getfield 7, 3) := by decide +kernel
theorem dX6_slotOf_27 : decode cX6_slotOf 27 = .ok (.iload_n 2, 1) := by decide +kernel
theorem dX6_slotOf_28 : decode cX6_slotOf 28 = .ok (.iconst 0, 1) := by decide +kernel
theorem dX6_slotOf_29 : decode cX6_slotOf 29 = .ok (.invokestatic 92, 3) := by decide +kernel
theorem dX6_slotOf_32 : decode cX6_slotOf 32 = .ok (.iaload, 1) := by decide +kernel
theorem dX6_slotOf_33 : decode cX6_slotOf 33 = .ok (.iload_n 1, 1) := by decide +kernel
theorem dX6_slotOf_34 : decode cX6_slotOf 34 = .ok (.if_icmp .ne 5, 3) := by decide +kernel
theorem dX6_slotOf_37 : decode cX6_slotOf 37 = .ok (.iload_n 2, 1) := by decide +kernel
theorem dX6_slotOf_38 : decode cX6_slotOf 38 = .ok (.ireturn, 1) := by decide +kernel
theorem dX6_slotOf_39 : decode cX6_slotOf 39 = .ok (.iinc 2 1, 3) := by decide +kernel
theorem dX6_slotOf_42 : decode cX6_slotOf 42 = .ok (.goto (-40), 3) := by decide +kernel
theorem dX6_slotOf_45 : decode cX6_slotOf 45 = .ok (.iconst (-1), 1) := by decide +kernel
theorem dX6_slotOf_46 : decode cX6_slotOf 46 = .ok (.ireturn, 1) := by decide +kernel
theorem dX6_newSlot_0 : decode cX6_newSlot 0 = .ok (.iconst 0, 1) := by decide +kernel
theorem dX6_newSlot_1 : decode cX6_newSlot 1 = .ok (.istore_n 1, 1) := by decide +kernel
theorem dX6_newSlot_2 : decode cX6_newSlot 2 = .ok (.aload_n 0, 1) := by decide +kernel
theorem dX6_newSlot_3 : decode cX6_newSlot 3 = .ok (.getfield 7, 3) := by decide +kernel
theorem dX6_newSlot_6 : decode cX6_newSlot 6 = .ok (.iload_n 1, 1) := by decide +kernel
theorem dX6_newSlot_7 : decode cX6_newSlot 7 = .ok (.iconst 3, 1) := by decide +kernel
theorem dX6_newSlot_8 : decode cX6_newSlot 8 = .ok (.invokestatic 92, 3) := by decide +kernel
theorem dX6_newSlot_11 : decode cX6_newSlot 11 = .ok (.iaload, 1) := by decide +kernel
theorem dX6_newSlot_12 : decode cX6_newSlot 12 = .ok (.iconst 1, 1) := by decide +kernel
theorem dX6_newSlot_13 : decode cX6_newSlot 13 = .ok (.if_icmp .ne 9, 3) := by decide +kernel
theorem dX6_newSlot_16 : decode cX6_newSlot 16 = .ok (.iinc 1 1, 3) := by decide +kernel
theorem dX6_newSlot_19 : decode cX6_newSlot 19 = .ok (.goto (-17), 3) := by decide +kernel
theorem dX6_newSlot_22 : decode cX6_newSlot 22 = .ok (.iload_n 1, 1) := by decide +kernel
theorem dX6_newSlot_23 : decode cX6_newSlot 23 = .ok (.ireturn, 1) := by decide +kernel
theorem dX6_isFree_0 : decode cX6_isFree 0 = .ok (.iload_n 1, 1) := by decide +kernel
theorem dX6_isFree_1 : decode cX6_isFree 1 = .ok (.aload_n 0, 1) := by decide +kernel
theorem dX6_isFree_2 : decode cX6_isFree 2 = .ok (.getfield 7, 3) := by decide +kernel
theorem dX6_isFree_5 : decode cX6_isFree 5 = .ok (.iconst 0, 1) := by decide +kernel
theorem dX6_isFree_6 : decode cX6_isFree 6 = .ok (.iaload, 1) := by decide +kernel
theorem dX6_isFree_7 : decode cX6_isFree 7 = .ok (.if_icmp .ge 20, 3) := by decide +kernel
theorem dX6_isFree_10 : decode cX6_isFree 10 = .ok (.aload_n 0, 1) := by decide +kernel
theorem dX6_isFree_11 : decode cX6_isFree 11 = .ok (.getfield 7, 3) := by decide +kernel
theorem dX6_isFree_14 : decode cX6_isFree 14 = .ok (.sipush 6336, 3) := by decide +kernel
theorem dX6_isFree_17 : decode cX6_isFree 17 = .ok (.iload_n 1, 1) := by decide +kernel
theorem dX6_isFree_18 : decode cX6_isFree 18 = .ok (.iadd, 1) := by decide +kernel
theorem dX6_isFree_19 : decode cX6_isFree 19 = .ok (.iaload, 1) := by decide +kernel
theorem dX6_isFree_20 : decode cX6_isFree 20 = .ok (.ifCond .ne 7, 3) := by decide +kernel
theorem dX6_isFree_23 : decode cX6_isFree 23 = .ok (.iconst 1, 1) := by decide +kernel
theorem dX6_isFree_24 : decode cX6_isFree 24 = .ok (.goto 4, 3) := by decide +kernel
theorem dX6_isFree_27 : decode cX6_isFree 27 = .ok (.iconst 0, 1) := by decide +kernel
theorem dX6_isFree_28 : decode cX6_isFree 28 = .ok (.ireturn, 1) := by decide +kernel
theorem dX6_runAt_0 : decode cX6_runAt 0 = .ok (.aload_n 0, 1) := by decide +kernel
theorem dX6_runAt_1 : decode cX6_runAt 1 = .ok (.iload_n 1, 1) := by decide +kernel
theorem dX6_runAt_2 : decode cX6_runAt 2 = .ok (.invokevirtual 95, 3) := by decide +kernel
theorem dX6_runAt_5 : decode cX6_runAt 5 = .ok (.ifCond .eq 17, 3) := by decide +kernel
theorem dX6_runAt_8 : decode cX6_runAt 8 = .ok (.iload_n 1, 1) := by decide +kernel
theorem dX6_runAt_9 : decode cX6_runAt 9 = .ok (.ifCond .le 15, 3) := by decide +kernel
theorem dX6_runAt_12 : decode cX6_runAt 12 = .ok (.aload_n 0, 1) := by decide +kernel
theorem dX6_runAt_13 : decode cX6_runAt 13 = .ok (.iload_n 1, 1) := by decide +kernel
theorem dX6_runAt_14 : decode cX6_runAt 14 = .ok (.iconst 1, 1) := by decide +kernel
theorem dX6_runAt_15 : decode cX6_runAt 15 = .ok (.isub, 1) := by decide +kernel
theorem dX6_runAt_16 : decode cX6_runAt 16 = .ok (.invokevirtual 95, 3) := by decide +kernel
theorem dX6_runAt_19 : decode cX6_runAt 19 = .ok (.ifCond .eq 5, 3) := by decide +kernel
theorem dX6_runAt_22 : decode cX6_runAt 22 = .ok (.iconst 0, 1) := by decide +kernel
theorem dX6_runAt_23 : decode cX6_runAt 23 = .ok (.ireturn, 1) := by decide +kernel
theorem dX6_runAt_24 : decode cX6_runAt 24 = .ok (.iconst 0, 1) := by decide +kernel
theorem dX6_runAt_25 : decode cX6_runAt 25 = .ok (.istore_n 2, 1) := by decide +kernel
theorem dX6_runAt_26 : decode cX6_runAt 26 = .ok (.aload_n 0, 1) := by decide +kernel
theorem dX6_runAt_27 : decode cX6_runAt 27 = .ok (.iload_n 1, 1) := by decide +kernel
theorem dX6_runAt_28 : decode cX6_runAt 28 = .ok (.iload_n 2, 1) := by decide +kernel
theorem dX6_runAt_29 : decode cX6_runAt 29 = .ok (.iadd, 1) := by decide +kernel
theorem dX6_runAt_30 : decode cX6_runAt 30 = .ok (.invokevirtual 95, 3) := by decide +kernel
theorem dX6_runAt_33 : decode cX6_runAt 33 = .ok (.ifCond .eq 9, 3) := by decide +kernel
theorem dX6_runAt_36 : decode cX6_runAt 36 = .ok (.iinc 2 1, 3) := by decide +kernel
theorem dX6_runAt_39 : decode cX6_runAt 39 = .ok (.goto (-13), 3) := by decide +kernel
theorem dX6_runAt_42 : decode cX6_runAt 42 = .ok (.iload_n 2, 1) := by decide +kernel
theorem dX6_runAt_43 : decode cX6_runAt 43 = .ok (.ireturn, 1) := by decide +kernel
theorem dX6_places_0 : decode cX6_places 0 = .ok (.aload_n 0, 1) := by decide +kernel
theorem dX6_places_1 : decode cX6_places 1 = .ok (.getfield 7, 3) := by decide +kernel
theorem dX6_places_4 : decode cX6_places 4 = .ok (.iload_n 1, 1) := by decide +kernel
theorem dX6_places_5 : decode cX6_places 5 = .ok (.iconst 1, 1) := by decide +kernel
theorem dX6_places_6 : decode cX6_places 6 = .ok (.invokestatic 92, 3) := by decide +kernel
theorem dX6_places_9 : decode cX6_places 9 = .ok (.iaload, 1) := by decide +kernel
theorem dX6_places_10 : decode cX6_places 10 = .ok (.istore_n 2, 1) := by decide +kernel
theorem dX6_places_11 : decode cX6_places 11 = .ok (.iload_n 2, 1) := by decide +kernel
theorem dX6_places_12 : decode cX6_places 12 = .ok (.ifCond .le 211, 3) := by decide +kernel
theorem dX6_places_15 : decode cX6_places 15 = .ok (.iconst (-1), 1) := by decide +kernel
theorem dX6_places_16 : decode cX6_places 16 = .ok (.istore_n 3, 1) := by decide +kernel
theorem dX6_places_17 : decode cX6_places 17 = .ok (.iconst (-1), 1) := by decide +kernel
theorem dX6_places_18 : decode cX6_places 18 = .ok (.istore 4, 2) := by decide +kernel
theorem dX6_places_20 : decode cX6_places 20 = .ok (.iconst 0, 1) := by decide +kernel
theorem dX6_places_21 : decode cX6_places 21 = .ok (.istore 5, 2) := by decide +kernel
theorem dX6_places_23 : decode cX6_places 23 = .ok (.iload 5, 2) := by decide +kernel
theorem dX6_places_25 : decode cX6_places 25 = .ok (.aload_n 0, 1) := by decide +kernel
theorem dX6_places_26 : decode cX6_places 26 = .ok (.getfield 7, 3) := by decide +kernel
theorem dX6_places_29 : decode cX6_places 29 = .ok (.iconst 0, 1) := by decide +kernel
theorem dX6_places_30 : decode cX6_places 30 = .ok (.iaload, 1) := by decide +kernel
theorem dX6_places_31 : decode cX6_places 31 = .ok (.if_icmp .ge 65, 3) := by decide +kernel
theorem dX6_places_34 : decode cX6_places 34 = .ok (.aload_n 0, 1) := by decide +kernel
theorem dX6_places_35 : decode cX6_places 35 = .ok (.iload 5, 2) := by decide +kernel
theorem dX6_places_37 : decode cX6_places 37 = .ok (.invokevirtual 98, 3) := by decide +kernel
theorem dX6_places_40 : decode cX6_places 40 = .ok (.istore 6, 2) := by decide +kernel
theorem dX6_places_42 : decode cX6_places 42 = .ok (.iload 6, 2) := by decide +kernel
theorem dX6_places_44 : decode cX6_places 44 = .ok (.iload_n 2, 1) := by decide +kernel
theorem dX6_places_45 : decode cX6_places 45 = .ok (.if_icmp .lt 20, 3) := by decide +kernel
theorem dX6_places_48 : decode cX6_places 48 = .ok (.iload_n 3, 1) := by decide +kernel
theorem dX6_places_49 : decode cX6_places 49 = .ok (.ifCond .lt 13, 3) := by decide +kernel
theorem dX6_places_52 : decode cX6_places 52 = .ok (.iload 6, 2) := by decide +kernel
theorem dX6_places_54 : decode cX6_places 54 = .ok (.aload_n 0, 1) := by decide +kernel
theorem dX6_places_55 : decode cX6_places 55 = .ok (.iload_n 3, 1) := by decide +kernel
theorem dX6_places_56 : decode cX6_places 56 = .ok (.invokevirtual 98, 3) := by decide +kernel
theorem dX6_places_59 : decode cX6_places 59 = .ok (.if_icmp .ge 6, 3) := by decide +kernel
theorem dX6_places_62 : decode cX6_places 62 = .ok (.iload 5, 2) := by decide +kernel
theorem dX6_places_64 : decode cX6_places 64 = .ok (.istore_n 3, 1) := by decide +kernel
theorem dX6_places_65 : decode cX6_places 65 = .ok (.iload 6, 2) := by decide +kernel
theorem dX6_places_67 : decode cX6_places 67 = .ok (.ifCond .le 23, 3) := by decide +kernel
theorem dX6_places_70 : decode cX6_places 70 = .ok (.iload 4, 2) := by decide +kernel
theorem dX6_places_72 : decode cX6_places 72 = .ok (.ifCond .lt 14, 3) := by decide +kernel
theorem dX6_places_75 : decode cX6_places 75 = .ok (.iload 6, 2) := by decide +kernel
theorem dX6_places_77 : decode cX6_places 77 = .ok (.aload_n 0, 1) := by decide +kernel
theorem dX6_places_78 : decode cX6_places 78 = .ok (.iload 4, 2) := by decide +kernel
theorem dX6_places_80 : decode cX6_places 80 = .ok (.invokevirtual 98, 3) := by decide +kernel
theorem dX6_places_83 : decode cX6_places 83 = .ok (.if_icmp .le 7, 3) := by decide +kernel
theorem dX6_places_86 : decode cX6_places 86 = .ok (.iload 5, 2) := by decide +kernel
theorem dX6_places_88 : decode cX6_places 88 = .ok (.istore 4, 2) := by decide +kernel
theorem dX6_places_90 : decode cX6_places 90 = .ok (.iinc 5 1, 3) := by decide +kernel
theorem dX6_places_93 : decode cX6_places 93 = .ok (.goto (-70), 3) := by decide +kernel
theorem dX6_places_96 : decode cX6_places 96 = .ok (.iload_n 3, 1) := by decide +kernel
theorem dX6_places_97 : decode cX6_places 97 = .ok (.ifCond .lt 7, 3) := by decide +kernel
theorem dX6_places_100 : decode cX6_places 100 = .ok (.iload_n 3, 1) := by decide +kernel
theorem dX6_places_101 : decode cX6_places 101 = .ok (.goto 5, 3) := by decide +kernel
theorem dX6_places_104 : decode cX6_places 104 = .ok (.iload 4, 2) := by decide +kernel
theorem dX6_places_106 : decode cX6_places 106 = .ok (.istore 5, 2) := by decide +kernel
theorem dX6_places_108 : decode cX6_places 108 = .ok (.iload_n 3, 1) := by decide +kernel
theorem dX6_places_109 : decode cX6_places 109 = .ok (.ifCond .lt 7, 3) := by decide +kernel
theorem dX6_places_112 : decode cX6_places 112 = .ok (.iload_n 2, 1) := by decide +kernel
theorem dX6_places_113 : decode cX6_places 113 = .ok (.goto 9, 3) := by decide +kernel
theorem dX6_places_116 : decode cX6_places 116 = .ok (.aload_n 0, 1) := by decide +kernel
theorem dX6_places_117 : decode cX6_places 117 = .ok (.iload 4, 2) := by decide +kernel
theorem dX6_places_119 : decode cX6_places 119 = .ok (.invokevirtual 98, 3) := by decide +kernel
theorem dX6_places_122 : decode cX6_places 122 = .ok (.istore 6, 2) := by decide +kernel
theorem dX6_places_124 : decode cX6_places 124 = .ok (.aload_n 0, 1) := by decide +kernel
theorem dX6_places_125 : decode cX6_places 125 = .ok (.getfield 7, 3) := by decide +kernel
theorem dX6_places_128 : decode cX6_places 128 = .ok (.iload_n 1, 1) := by decide +kernel
theorem dX6_places_129 : decode cX6_places 129 = .ok (.iconst 2, 1) := by decide +kernel
theorem dX6_places_130 : decode cX6_places 130 = .ok (.invokestatic 92, 3) := by decide +kernel
theorem dX6_places_133 : decode cX6_places 133 = .ok (.iaload, 1) := by decide +kernel
theorem dX6_places_134 : decode cX6_places 134 = .ok (.istore 7, 2) := by decide +kernel
theorem dX6_places_136 : decode cX6_places 136 = .ok (.aload_n 0, 1) := by decide +kernel
theorem dX6_places_137 : decode cX6_places 137 = .ok (.getfield 7, 3) := by decide +kernel
theorem dX6_places_140 : decode cX6_places 140 = .ok (.iload_n 1, 1) := by decide +kernel
theorem dX6_places_141 : decode cX6_places 141 = .ok (.iconst 4, 1) := by decide +kernel
theorem dX6_places_142 : decode cX6_places 142 = .ok (.iload 7, 2) := by decide +kernel
theorem dX6_places_144 : decode cX6_places 144 = .ok (.iadd, 1) := by decide +kernel
theorem dX6_places_145 : decode cX6_places 145 = .ok (.invokestatic 92, 3) := by decide +kernel
theorem dX6_places_148 : decode cX6_places 148 = .ok (.iload 5, 2) := by decide +kernel
theorem dX6_places_150 : decode cX6_places 150 = .ok (.iastore, 1) := by decide +kernel
theorem dX6_places_151 : decode cX6_places 151 = .ok (.aload_n 0, 1) := by decide +kernel
theorem dX6_places_152 : decode cX6_places 152 = .ok (.getfield 7, 3) := by decide +kernel
theorem dX6_places_155 : decode cX6_places 155 = .ok (.iload_n 1, 1) := by decide +kernel
theorem dX6_places_156 : decode cX6_places 156 = .ok (.bipush 16, 2) := by decide +kernel
theorem dX6_places_158 : decode cX6_places 158 = .ok (.iload 7, 2) := by decide +kernel
theorem dX6_places_160 : decode cX6_places 160 = .ok (.iadd, 1) := by decide +kernel
theorem dX6_places_161 : decode cX6_places 161 = .ok (.invokestatic 92, 3) := by decide +kernel
theorem dX6_places_164 : decode cX6_places 164 = .ok (.iload 6, 2) := by decide +kernel
theorem dX6_places_166 : decode cX6_places 166 = .ok (.iastore, 1) := by decide +kernel
theorem dX6_places_167 : decode cX6_places 167 = .ok (.aload_n 0, 1) := by decide +kernel
theorem dX6_places_168 : decode cX6_places 168 = .ok (.getfield 7, 3) := by decide +kernel
theorem dX6_places_171 : decode cX6_places 171 = .ok (.iload_n 1, 1) := by decide +kernel
theorem dX6_places_172 : decode cX6_places 172 = .ok (.iconst 2, 1) := by decide +kernel
theorem dX6_places_173 : decode cX6_places 173 = .ok (.invokestatic 92, 3) := by decide +kernel
theorem dX6_places_176 : decode cX6_places 176 = .ok (.dup2, 1) := by decide +kernel
theorem dX6_places_177 : decode cX6_places 177 = .ok (.iaload, 1) := by decide +kernel
theorem dX6_places_178 : decode cX6_places 178 = .ok (.iconst 1, 1) := by decide +kernel
theorem dX6_places_179 : decode cX6_places 179 = .ok (.iadd, 1) := by decide +kernel
theorem dX6_places_180 : decode cX6_places 180 = .ok (.iastore, 1) := by decide +kernel
theorem dX6_places_181 : decode cX6_places 181 = .ok (.iload 5, 2) := by decide +kernel
theorem dX6_places_183 : decode cX6_places 183 = .ok (.istore 8, 2) := by decide +kernel
theorem dX6_places_185 : decode cX6_places 185 = .ok (.iload 8, 2) := by decide +kernel
theorem dX6_places_187 : decode cX6_places 187 = .ok (.iload 5, 2) := by decide +kernel
theorem dX6_places_189 : decode cX6_places 189 = .ok (.iload 6, 2) := by decide +kernel
theorem dX6_places_191 : decode cX6_places 191 = .ok (.iadd, 1) := by decide +kernel
theorem dX6_places_192 : decode cX6_places 192 = .ok (.if_icmp .ge 23, 3) := by decide +kernel
theorem dX6_places_195 : decode cX6_places 195 = .ok (.aload_n 0, 1) := by decide +kernel
theorem dX6_places_196 : decode cX6_places 196 = .ok (.getfield 7, 3) := by decide +kernel
theorem dX6_places_199 : decode cX6_places 199 = .ok (.sipush 6336, 3) := by decide +kernel
theorem dX6_places_202 : decode cX6_places 202 = .ok (.iload 8, 2) := by decide +kernel
theorem dX6_places_204 : decode cX6_places 204 = .ok (.iadd, 1) := by decide +kernel
theorem dX6_places_205 : decode cX6_places 205 = .ok (.iload_n 1, 1) := by decide +kernel
theorem dX6_places_206 : decode cX6_places 206 = .ok (.iconst 1, 1) := by decide +kernel
theorem dX6_places_207 : decode cX6_places 207 = .ok (.iadd, 1) := by decide +kernel
theorem dX6_places_208 : decode cX6_places 208 = .ok (.iastore, 1) := by decide +kernel
theorem dX6_places_209 : decode cX6_places 209 = .ok (.iinc 8 1, 3) := by decide +kernel
theorem dX6_places_212 : decode cX6_places 212 = .ok (.goto (-27), 3) := by decide +kernel
theorem dX6_places_215 : decode cX6_places 215 = .ok (.iload_n 2, 1) := by decide +kernel
theorem dX6_places_216 : decode cX6_places 216 = .ok (.iload 6, 2) := by decide +kernel
theorem dX6_places_218 : decode cX6_places 218 = .ok (.isub, 1) := by decide +kernel
theorem dX6_places_219 : decode cX6_places 219 = .ok (.istore_n 2, 1) := by decide +kernel
theorem dX6_places_220 : decode cX6_places 220 = .ok (.goto (-209), 3) := by decide +kernel
theorem dX6_places_223 : decode cX6_places 223 = .ok (.return_, 1) := by decide +kernel
theorem dX6_enters_0 : decode cX6_enters 0 = .ok (.aload_n 0, 1) := by decide +kernel
theorem dX6_enters_1 : decode cX6_enters 1 = .ok (.invokevirtual 101, 3) := by decide +kernel
theorem dX6_enters_4 : decode cX6_enters 4 = .ok (.istore_n 3, 1) := by decide +kernel
theorem dX6_enters_5 : decode cX6_enters 5 = .ok (.aload_n 0, 1) := by decide +kernel
theorem dX6_enters_6 : decode cX6_enters 6 = .ok (.getfield 7, 3) := by decide +kernel
theorem dX6_enters_9 : decode cX6_enters 9 = .ok (.iload_n 3, 1) := by decide +kernel
theorem dX6_enters_10 : decode cX6_enters 10 = .ok (.iconst 0, 1) := by decide +kernel
theorem dX6_enters_11 : decode cX6_enters 11 = .ok (.invokestatic 92, 3) := by decide +kernel
theorem dX6_enters_14 : decode cX6_enters 14 = .ok (.aload_n 0, 1) := by decide +kernel
theorem dX6_enters_15 : decode cX6_enters 15 = .ok (.getfield 7, 3) := by decide +kernel
theorem dX6_enters_18 : decode cX6_enters 18 = .ok (.iconst 4, 1) := by decide +kernel
theorem dX6_enters_19 : decode cX6_enters 19 = .ok (.iaload, 1) := by decide +kernel
theorem dX6_enters_20 : decode cX6_enters 20 = .ok (.iastore, 1) := by decide +kernel
theorem dX6_enters_21 : decode cX6_enters 21 = .ok (.aload_n 0, 1) := by decide +kernel
theorem dX6_enters_22 : decode cX6_enters 22 = .ok (.getfield 7, 3) := by decide +kernel
theorem dX6_enters_25 : decode cX6_enters 25 = .ok (.iload_n 3, 1) := by decide +kernel
theorem dX6_enters_26 : decode cX6_enters 26 = .ok (.iconst 1, 1) := by decide +kernel
theorem dX6_enters_27 : decode cX6_enters 27 = .ok (.invokestatic 92, 3) := by decide +kernel
theorem dX6_enters_30 : decode cX6_enters 30 = .ok (.iload_n 2, 1) := by decide +kernel
theorem dX6_enters_31 : decode cX6_enters 31 = .ok (.iastore, 1) := by decide +kernel
theorem dX6_enters_32 : decode cX6_enters 32 = .ok (.aload_n 0, 1) := by decide +kernel
theorem dX6_enters_33 : decode cX6_enters 33 = .ok (.getfield 7, 3) := by decide +kernel
theorem dX6_enters_36 : decode cX6_enters 36 = .ok (.iload_n 3, 1) := by decide +kernel
theorem dX6_enters_37 : decode cX6_enters 37 = .ok (.iconst 2, 1) := by decide +kernel
theorem dX6_enters_38 : decode cX6_enters 38 = .ok (.invokestatic 92, 3) := by decide +kernel
theorem dX6_enters_41 : decode cX6_enters 41 = .ok (.iconst 0, 1) := by decide +kernel
theorem dX6_enters_42 : decode cX6_enters 42 = .ok (.iastore, 1) := by decide +kernel
theorem dX6_enters_43 : decode cX6_enters 43 = .ok (.aload_n 0, 1) := by decide +kernel
theorem dX6_enters_44 : decode cX6_enters 44 = .ok (.getfield 7, 3) := by decide +kernel
theorem dX6_enters_47 : decode cX6_enters 47 = .ok (.iload_n 3, 1) := by decide +kernel
theorem dX6_enters_48 : decode cX6_enters 48 = .ok (.iconst 3, 1) := by decide +kernel
theorem dX6_enters_49 : decode cX6_enters 49 = .ok (.invokestatic 92, 3) := by decide +kernel
theorem dX6_enters_52 : decode cX6_enters 52 = .ok (.iconst 1, 1) := by decide +kernel
theorem dX6_enters_53 : decode cX6_enters 53 = .ok (.iastore, 1) := by decide +kernel
theorem dX6_enters_54 : decode cX6_enters 54 = .ok (.aload_n 0, 1) := by decide +kernel
theorem dX6_enters_55 : decode cX6_enters 55 = .ok (.getfield 7, 3) := by decide +kernel
theorem dX6_enters_58 : decode cX6_enters 58 = .ok (.iconst 4, 1) := by decide +kernel
theorem dX6_enters_59 : decode cX6_enters 59 = .ok (.dup2, 1) := by decide +kernel
theorem dX6_enters_60 : decode cX6_enters 60 = .ok (.iaload, 1) := by decide +kernel
theorem dX6_enters_61 : decode cX6_enters 61 = .ok (.iconst 1, 1) := by decide +kernel
theorem dX6_enters_62 : decode cX6_enters 62 = .ok (.iadd, 1) := by decide +kernel
theorem dX6_enters_63 : decode cX6_enters 63 = .ok (.iastore, 1) := by decide +kernel
theorem dX6_enters_64 : decode cX6_enters 64 = .ok (.aload_n 0, 1) := by decide +kernel
theorem dX6_enters_65 : decode cX6_enters 65 = .ok (.iload_n 3, 1) := by decide +kernel
theorem dX6_enters_66 : decode cX6_enters 66 = .ok (.invokevirtual 104, 3) := by decide +kernel
theorem dX6_enters_69 : decode cX6_enters 69 = .ok (.aload_n 0, 1) := by decide +kernel
theorem dX6_enters_70 : decode cX6_enters 70 = .ok (.getfield 7, 3) := by decide +kernel
theorem dX6_enters_73 : decode cX6_enters 73 = .ok (.iload_n 1, 1) := by decide +kernel
theorem dX6_enters_74 : decode cX6_enters 74 = .ok (.aload_n 0, 1) := by decide +kernel
theorem dX6_enters_75 : decode cX6_enters 75 = .ok (.getfield 7, 3) := by decide +kernel
theorem dX6_enters_78 : decode cX6_enters 78 = .ok (.iload_n 1, 1) := by decide +kernel
theorem dX6_enters_79 : decode cX6_enters 79 = .ok (.bipush 12, 2) := by decide +kernel
theorem dX6_enters_81 : decode cX6_enters 81 = .ok (.invokestatic 48, 3) := by decide +kernel
theorem dX6_enters_84 : decode cX6_enters 84 = .ok (.iaload, 1) := by decide +kernel
theorem dX6_enters_85 : decode cX6_enters 85 = .ok (.invokestatic 107, 3) := by decide +kernel
theorem dX6_enters_88 : decode cX6_enters 88 = .ok (.iload_n 3, 1) := by decide +kernel
theorem dX6_enters_89 : decode cX6_enters 89 = .ok (.iastore, 1) := by decide +kernel
theorem dX6_enters_90 : decode cX6_enters 90 = .ok (.aload_n 0, 1) := by decide +kernel
theorem dX6_enters_91 : decode cX6_enters 91 = .ok (.getfield 7, 3) := by decide +kernel
theorem dX6_enters_94 : decode cX6_enters 94 = .ok (.iload_n 1, 1) := by decide +kernel
theorem dX6_enters_95 : decode cX6_enters 95 = .ok (.bipush 12, 2) := by decide +kernel
theorem dX6_enters_97 : decode cX6_enters 97 = .ok (.invokestatic 48, 3) := by decide +kernel
theorem dX6_enters_100 : decode cX6_enters 100 = .ok (.dup2, 1) := by decide +kernel
theorem dX6_enters_101 : decode cX6_enters 101 = .ok (.iaload, 1) := by decide +kernel
theorem dX6_enters_102 : decode cX6_enters 102 = .ok (.iconst 1, 1) := by decide +kernel
theorem dX6_enters_103 : decode cX6_enters 103 = .ok (.iadd, 1) := by decide +kernel
theorem dX6_enters_104 : decode cX6_enters 104 = .ok (.iastore, 1) := by decide +kernel
theorem dX6_enters_105 : decode cX6_enters 105 = .ok (.return_, 1) := by decide +kernel
theorem dX6_hasPackets_0 : decode cX6_hasPackets 0 = .ok (.aload_n 0, 1) := by decide +kernel
theorem dX6_hasPackets_1 : decode cX6_hasPackets 1 = .ok (.iload_n 1, 1) := by decide +kernel
theorem dX6_hasPackets_2 : decode cX6_hasPackets 2 = .ok (.bipush 12, 2) := by decide +kernel
theorem dX6_hasPackets_4 : decode cX6_hasPackets 4 = .ok (.invokevirtual 59, 3) := by decide +kernel
theorem dX6_hasPackets_7 : decode cX6_hasPackets 7 = .ok (.ifCond .le 7, 3) := by decide +kernel
theorem dX6_hasPackets_10 : decode cX6_hasPackets 10 = .ok (.iconst 1, 1) := by decide +kernel
theorem dX6_hasPackets_11 : decode cX6_hasPackets 11 = .ok (.goto 4, 3) := by decide +kernel
theorem dX6_hasPackets_14 : decode cX6_hasPackets 14 = .ok (.iconst 0, 1) := by decide +kernel
theorem dX6_hasPackets_15 : decode cX6_hasPackets 15 = .ok (.ireturn, 1) := by decide +kernel
theorem dX6_leaves_0 : decode cX6_leaves 0 = .ok (.aload_n 0, 1) := by decide +kernel
theorem dX6_leaves_1 : decode cX6_leaves 1 = .ok (.getfield 7, 3) := by decide +kernel
theorem dX6_leaves_4 : decode cX6_leaves 4 = .ok (.iload_n 1, 1) := by decide +kernel
theorem dX6_leaves_5 : decode cX6_leaves 5 = .ok (.iload_n 2, 1) := by decide +kernel
theorem dX6_leaves_6 : decode cX6_leaves 6 = .ok (.invokestatic 107, 3) := by decide +kernel
theorem dX6_leaves_9 : decode cX6_leaves 9 = .ok (.iaload, 1) := by decide +kernel
theorem dX6_leaves_10 : decode cX6_leaves 10 = .ok (.istore_n 3, 1) := by decide +kernel
theorem dX6_leaves_11 : decode cX6_leaves 11 = .ok (.aload_n 0, 1) := by decide +kernel
theorem dX6_leaves_12 : decode cX6_leaves 12 = .ok (.getfield 7, 3) := by decide +kernel
theorem dX6_leaves_15 : decode cX6_leaves 15 = .ok (.iload_n 3, 1) := by decide +kernel
theorem dX6_leaves_16 : decode cX6_leaves 16 = .ok (.iconst 1, 1) := by decide +kernel
theorem dX6_leaves_17 : decode cX6_leaves 17 = .ok (.invokestatic 92, 3) := by decide +kernel
theorem dX6_leaves_20 : decode cX6_leaves 20 = .ok (.iaload, 1) := by decide +kernel
theorem dX6_leaves_21 : decode cX6_leaves 21 = .ok (.istore 4, 2) := by decide +kernel
theorem dX6_leaves_23 : decode cX6_leaves 23 = .ok (.iload_n 2, 1) := by decide +kernel
theorem dX6_leaves_24 : decode cX6_leaves 24 = .ok (.iconst 1, 1) := by decide +kernel
theorem dX6_leaves_25 : decode cX6_leaves 25 = .ok (.iadd, 1) := by decide +kernel
theorem dX6_leaves_26 : decode cX6_leaves 26 = .ok (.istore 5, 2) := by decide +kernel
theorem dX6_leaves_28 : decode cX6_leaves 28 = .ok (.iload 5, 2) := by decide +kernel
theorem dX6_leaves_30 : decode cX6_leaves 30 = .ok (.aload_n 0, 1) := by decide +kernel
theorem dX6_leaves_31 : decode cX6_leaves 31 = .ok (.getfield 7, 3) := by decide +kernel
theorem dX6_leaves_34 : decode cX6_leaves 34 = .ok (.iload_n 1, 1) := by decide +kernel
theorem dX6_leaves_35 : decode cX6_leaves 35 = .ok (.bipush 12, 2) := by decide +kernel
theorem dX6_leaves_37 : decode cX6_leaves 37 = .ok (.invokestatic 48, 3) := by decide +kernel
theorem dX6_leaves_40 : decode cX6_leaves 40 = .ok (.iaload, 1) := by decide +kernel
theorem dX6_leaves_41 : decode cX6_leaves 41 = .ok (.if_icmp .ge 33, 3) := by decide +kernel
theorem dX6_leaves_44 : decode cX6_leaves 44 = .ok (.aload_n 0, 1) := by decide +kernel
theorem dX6_leaves_45 : decode cX6_leaves 45 = .ok (.getfield 7, 3) := by decide +kernel
theorem dX6_leaves_48 : decode cX6_leaves 48 = .ok (.iload_n 1, 1) := by decide +kernel
theorem dX6_leaves_49 : decode cX6_leaves 49 = .ok (.iload 5, 2) := by decide +kernel
theorem dX6_leaves_51 : decode cX6_leaves 51 = .ok (.iconst 1, 1) := by decide +kernel
theorem dX6_leaves_52 : decode cX6_leaves 52 = .ok (.isub, 1) := by decide +kernel
theorem dX6_leaves_53 : decode cX6_leaves 53 = .ok (.invokestatic 107, 3) := by decide +kernel
theorem dX6_leaves_56 : decode cX6_leaves 56 = .ok (.aload_n 0, 1) := by decide +kernel
theorem dX6_leaves_57 : decode cX6_leaves 57 = .ok (.getfield 7, 3) := by decide +kernel
theorem dX6_leaves_60 : decode cX6_leaves 60 = .ok (.iload_n 1, 1) := by decide +kernel
theorem dX6_leaves_61 : decode cX6_leaves 61 = .ok (.iload 5, 2) := by decide +kernel
theorem dX6_leaves_63 : decode cX6_leaves 63 = .ok (.invokestatic 107, 3) := by decide +kernel
theorem dX6_leaves_66 : decode cX6_leaves 66 = .ok (.iaload, 1) := by decide +kernel
theorem dX6_leaves_67 : decode cX6_leaves 67 = .ok (.iastore, 1) := by decide +kernel
theorem dX6_leaves_68 : decode cX6_leaves 68 = .ok (.iinc 5 1, 3) := by decide +kernel
theorem dX6_leaves_71 : decode cX6_leaves 71 = .ok (.goto (-43), 3) := by decide +kernel
theorem dX6_leaves_74 : decode cX6_leaves 74 = .ok (.aload_n 0, 1) := by decide +kernel
theorem dX6_leaves_75 : decode cX6_leaves 75 = .ok (.getfield 7, 3) := by decide +kernel
theorem dX6_leaves_78 : decode cX6_leaves 78 = .ok (.iload_n 1, 1) := by decide +kernel
theorem dX6_leaves_79 : decode cX6_leaves 79 = .ok (.bipush 12, 2) := by decide +kernel
theorem dX6_leaves_81 : decode cX6_leaves 81 = .ok (.invokestatic 48, 3) := by decide +kernel
theorem dX6_leaves_84 : decode cX6_leaves 84 = .ok (.dup2, 1) := by decide +kernel
theorem dX6_leaves_85 : decode cX6_leaves 85 = .ok (.iaload, 1) := by decide +kernel
theorem dX6_leaves_86 : decode cX6_leaves 86 = .ok (.iconst 1, 1) := by decide +kernel
theorem dX6_leaves_87 : decode cX6_leaves 87 = .ok (.isub, 1) := by decide +kernel
theorem dX6_leaves_88 : decode cX6_leaves 88 = .ok (.iastore, 1) := by decide +kernel
theorem dX6_leaves_89 : decode cX6_leaves 89 = .ok (.aload_n 0, 1) := by decide +kernel
theorem dX6_leaves_90 : decode cX6_leaves 90 = .ok (.getfield 7, 3) := by decide +kernel
theorem dX6_leaves_93 : decode cX6_leaves 93 = .ok (.iload_n 3, 1) := by decide +kernel
theorem dX6_leaves_94 : decode cX6_leaves 94 = .ok (.iconst 3, 1) := by decide +kernel
theorem dX6_leaves_95 : decode cX6_leaves 95 = .ok (.invokestatic 92, 3) := by decide +kernel
theorem dX6_leaves_98 : decode cX6_leaves 98 = .ok (.iconst 0, 1) := by decide +kernel
theorem dX6_leaves_99 : decode cX6_leaves 99 = .ok (.iastore, 1) := by decide +kernel
theorem dX6_leaves_100 : decode cX6_leaves 100 = .ok (.iconst 0, 1) := by decide +kernel
theorem dX6_leaves_101 : decode cX6_leaves 101 = .ok (.istore 5, 2) := by decide +kernel
theorem dX6_leaves_103 : decode cX6_leaves 103 = .ok (.iload 5, 2) := by decide +kernel
theorem dX6_leaves_105 : decode cX6_leaves 105 = .ok (.aload_n 0, 1) := by decide +kernel
theorem dX6_leaves_106 : decode cX6_leaves 106 = .ok (.getfield 7, 3) := by decide +kernel
theorem dX6_leaves_109 : decode cX6_leaves 109 = .ok (.iconst 0, 1) := by decide +kernel
theorem dX6_leaves_110 : decode cX6_leaves 110 = .ok (.iaload, 1) := by decide +kernel
theorem dX6_leaves_111 : decode cX6_leaves 111 = .ok (.if_icmp .ge 52, 3) := by decide +kernel
theorem dX6_leaves_114 : decode cX6_leaves 114 = .ok (.aload_n 0, 1) := by decide +kernel
theorem dX6_leaves_115 : decode cX6_leaves 115 = .ok (.getfield 7, 3) := by decide +kernel
theorem dX6_leaves_118 : decode cX6_leaves 118 = .ok (.sipush 6336, 3) := by decide +kernel
theorem dX6_leaves_121 : decode cX6_leaves 121 = .ok (.iload 5, 2) := by decide +kernel
theorem dX6_leaves_123 : decode cX6_leaves 123 = .ok (.iadd, 1) := by decide +kernel
theorem dX6_leaves_124 : decode cX6_leaves 124 = .ok (.aload_n 0, 1) := by decide +kernel
theorem dX6_leaves_125 : decode cX6_leaves 125 = .ok (.getfield 7, 3) := by decide +kernel
theorem dX6_leaves_128 : decode cX6_leaves 128 = .ok (.sipush 6336, 3) := by decide +kernel
theorem dX6_leaves_131 : decode cX6_leaves 131 = .ok (.iload 5, 2) := by decide +kernel
theorem dX6_leaves_133 : decode cX6_leaves 133 = .ok (.iadd, 1) := by decide +kernel
theorem dX6_leaves_134 : decode cX6_leaves 134 = .ok (.iaload, 1) := by decide +kernel
theorem dX6_leaves_135 : decode cX6_leaves 135 = .ok (.iload_n 3, 1) := by decide +kernel
theorem dX6_leaves_136 : decode cX6_leaves 136 = .ok (.iconst 1, 1) := by decide +kernel
theorem dX6_leaves_137 : decode cX6_leaves 137 = .ok (.iadd, 1) := by decide +kernel
theorem dX6_leaves_138 : decode cX6_leaves 138 = .ok (.if_icmp .ne 7, 3) := by decide +kernel
theorem dX6_leaves_141 : decode cX6_leaves 141 = .ok (.iconst 0, 1) := by decide +kernel
theorem dX6_leaves_142 : decode cX6_leaves 142 = .ok (.goto 14, 3) := by decide +kernel
theorem dX6_leaves_145 : decode cX6_leaves 145 = .ok (.aload_n 0, 1) := by decide +kernel
theorem dX6_leaves_146 : decode cX6_leaves 146 = .ok (.getfield 7, 3) := by decide +kernel
theorem dX6_leaves_149 : decode cX6_leaves 149 = .ok (.sipush 6336, 3) := by decide +kernel
theorem dX6_leaves_152 : decode cX6_leaves 152 = .ok (.iload 5, 2) := by decide +kernel
theorem dX6_leaves_154 : decode cX6_leaves 154 = .ok (.iadd, 1) := by decide +kernel
theorem dX6_leaves_155 : decode cX6_leaves 155 = .ok (.iaload, 1) := by decide +kernel
theorem dX6_leaves_156 : decode cX6_leaves 156 = .ok (.iastore, 1) := by decide +kernel
theorem dX6_leaves_157 : decode cX6_leaves 157 = .ok (.iinc 5 1, 3) := by decide +kernel
theorem dX6_leaves_160 : decode cX6_leaves 160 = .ok (.goto (-57), 3) := by decide +kernel
theorem dX6_leaves_163 : decode cX6_leaves 163 = .ok (.iload 4, 2) := by decide +kernel
theorem dX6_leaves_165 : decode cX6_leaves 165 = .ok (.istore 5, 2) := by decide +kernel
theorem dX6_leaves_167 : decode cX6_leaves 167 = .ok (.bipush 8, 2) := by decide +kernel
theorem dX6_leaves_169 : decode cX6_leaves 169 = .ok (.istore 6, 2) := by decide +kernel
theorem dX6_leaves_171 : decode cX6_leaves 171 = .ok (.iload 6, 2) := by decide +kernel
theorem dX6_leaves_173 : decode cX6_leaves 173 = .ok (.bipush 6, 2) := by decide +kernel
theorem dX6_leaves_175 : decode cX6_leaves 175 = .ok (.if_icmp .lt 50, 3) := by decide +kernel
theorem dX6_leaves_178 : decode cX6_leaves 178 = .ok (.iload 5, 2) := by decide +kernel
theorem dX6_leaves_180 : decode cX6_leaves 180 = .ok (.aload_n 0, 1) := by decide +kernel
theorem dX6_leaves_181 : decode cX6_leaves 181 = .ok (.getfield 7, 3) := by decide +kernel
theorem dX6_leaves_184 : decode cX6_leaves 184 = .ok (.iload_n 1, 1) := by decide +kernel
theorem dX6_leaves_185 : decode cX6_leaves 185 = .ok (.iload 6, 2) := by decide +kernel
theorem dX6_leaves_187 : decode cX6_leaves 187 = .ok (.invokestatic 48, 3) := by decide +kernel
theorem dX6_leaves_190 : decode cX6_leaves 190 = .ok (.iaload, 1) := by decide +kernel
theorem dX6_leaves_191 : decode cX6_leaves 191 = .ok (.invokestatic 68, 3) := by decide +kernel
theorem dX6_leaves_194 : decode cX6_leaves 194 = .ok (.istore 7, 2) := by decide +kernel
theorem dX6_leaves_196 : decode cX6_leaves 196 = .ok (.aload_n 0, 1) := by decide +kernel
theorem dX6_leaves_197 : decode cX6_leaves 197 = .ok (.getfield 7, 3) := by decide +kernel
theorem dX6_leaves_200 : decode cX6_leaves 200 = .ok (.iload_n 1, 1) := by decide +kernel
theorem dX6_leaves_201 : decode cX6_leaves 201 = .ok (.iload 6, 2) := by decide +kernel
theorem dX6_leaves_203 : decode cX6_leaves 203 = .ok (.invokestatic 48, 3) := by decide +kernel
theorem dX6_leaves_206 : decode cX6_leaves 206 = .ok (.dup2, 1) := by decide +kernel
theorem dX6_leaves_207 : decode cX6_leaves 207 = .ok (.iaload, 1) := by decide +kernel
theorem dX6_leaves_208 : decode cX6_leaves 208 = .ok (.iload 7, 2) := by decide +kernel
theorem dX6_leaves_210 : decode cX6_leaves 210 = .ok (.isub, 1) := by decide +kernel
theorem dX6_leaves_211 : decode cX6_leaves 211 = .ok (.iastore, 1) := by decide +kernel
theorem dX6_leaves_212 : decode cX6_leaves 212 = .ok (.iload 5, 2) := by decide +kernel
theorem dX6_leaves_214 : decode cX6_leaves 214 = .ok (.iload 7, 2) := by decide +kernel
theorem dX6_leaves_216 : decode cX6_leaves 216 = .ok (.isub, 1) := by decide +kernel
theorem dX6_leaves_217 : decode cX6_leaves 217 = .ok (.istore 5, 2) := by decide +kernel
theorem dX6_leaves_219 : decode cX6_leaves 219 = .ok (.iinc 6 (-1), 3) := by decide +kernel
theorem dX6_leaves_222 : decode cX6_leaves 222 = .ok (.goto (-51), 3) := by decide +kernel
theorem dX6_leaves_225 : decode cX6_leaves 225 = .ok (.iload 4, 2) := by decide +kernel
theorem dX6_leaves_227 : decode cX6_leaves 227 = .ok (.ireturn, 1) := by decide +kernel
theorem dX6_settles_0 : decode cX6_settles 0 = .ok (.iload_n 1, 1) := by decide +kernel
theorem dX6_settles_1 : decode cX6_settles 1 = .ok (.iconst 3, 1) := by decide +kernel
theorem dX6_settles_2 : decode cX6_settles 2 = .ok (.idiv, 1) := by decide +kernel
theorem dX6_settles_3 : decode cX6_settles 3 = .ok (.istore_n 2, 1) := by decide +kernel
theorem dX6_settles_4 : decode cX6_settles 4 = .ok (.aload_n 0, 1) := by decide +kernel
theorem dX6_settles_5 : decode cX6_settles 5 = .ok (.getfield 7, 3) := by decide +kernel
theorem dX6_settles_8 : decode cX6_settles 8 = .ok (.iload_n 1, 1) := by decide +kernel
theorem dX6_settles_9 : decode cX6_settles 9 = .ok (.bipush 12, 2) := by decide +kernel
theorem dX6_settles_11 : decode cX6_settles 11 = .ok (.invokestatic 48, 3) := by decide +kernel
theorem dX6_settles_14 : decode cX6_settles 14 = .ok (.iaload, 1) := by decide +kernel
theorem dX6_settles_15 : decode cX6_settles 15 = .ok (.ifCond .ne 14, 3) := by decide +kernel
theorem dX6_settles_18 : decode cX6_settles 18 = .ok (.aload_n 0, 1) := by decide +kernel
theorem dX6_settles_19 : decode cX6_settles 19 = .ok (.getfield 7, 3) := by decide +kernel
theorem dX6_settles_22 : decode cX6_settles 22 = .ok (.iload_n 1, 1) := by decide +kernel
theorem dX6_settles_23 : decode cX6_settles 23 = .ok (.iconst 5, 1) := by decide +kernel
theorem dX6_settles_24 : decode cX6_settles 24 = .ok (.invokestatic 48, 3) := by decide +kernel
theorem dX6_settles_27 : decode cX6_settles 27 = .ok (.iconst 0, 1) := by decide +kernel
theorem dX6_settles_28 : decode cX6_settles 28 = .ok (.iastore, 1) := by decide +kernel
theorem dX6_settles_29 : decode cX6_settles 29 = .ok (.aload_n 0, 1) := by decide +kernel
theorem dX6_settles_30 : decode cX6_settles 30 = .ok (.iload_n 2, 1) := by decide +kernel
theorem dX6_settles_31 : decode cX6_settles 31 = .ok (.invokevirtual 110, 3) := by decide +kernel
theorem dX6_settles_34 : decode cX6_settles 34 = .ok (.ifCond .ne 38, 3) := by decide +kernel
theorem dX6_settles_37 : decode cX6_settles 37 = .ok (.aload_n 0, 1) := by decide +kernel
theorem dX6_settles_38 : decode cX6_settles 38 = .ok (.getfield 7, 3) := by decide +kernel
theorem dX6_settles_41 : decode cX6_settles 41 = .ok (.iload_n 2, 1) := by decide +kernel
theorem dX6_settles_42 : decode cX6_settles 42 = .ok (.iconst 4, 1) := by decide +kernel
theorem dX6_settles_43 : decode cX6_settles 43 = .ok (.invokestatic 44, 3) := by decide +kernel
theorem dX6_settles_46 : decode cX6_settles 46 = .ok (.iconst 0, 1) := by decide +kernel
theorem dX6_settles_47 : decode cX6_settles 47 = .ok (.iastore, 1) := by decide +kernel
theorem dX6_settles_48 : decode cX6_settles 48 = .ok (.aload_n 0, 1) := by decide +kernel
theorem dX6_settles_49 : decode cX6_settles 49 = .ok (.getfield 7, 3) := by decide +kernel
theorem dX6_settles_52 : decode cX6_settles 52 = .ok (.iload_n 2, 1) := by decide +kernel
theorem dX6_settles_53 : decode cX6_settles 53 = .ok (.bipush 6, 2) := by decide +kernel
theorem dX6_settles_55 : decode cX6_settles 55 = .ok (.invokestatic 44, 3) := by decide +kernel
theorem dX6_settles_58 : decode cX6_settles 58 = .ok (.iconst 0, 1) := by decide +kernel
theorem dX6_settles_59 : decode cX6_settles 59 = .ok (.iastore, 1) := by decide +kernel
theorem dX6_settles_60 : decode cX6_settles 60 = .ok (.aload_n 0, 1) := by decide +kernel
theorem dX6_settles_61 : decode cX6_settles 61 = .ok (.getfield 7, 3) := by decide +kernel
theorem dX6_settles_64 : decode cX6_settles 64 = .ok (.iload_n 2, 1) := by decide +kernel
theorem dX6_settles_65 : decode cX6_settles 65 = .ok (.bipush 7, 2) := by decide +kernel
theorem dX6_settles_67 : decode cX6_settles 67 = .ok (.invokestatic 44, 3) := by decide +kernel
theorem dX6_settles_70 : decode cX6_settles 70 = .ok (.iconst 1, 1) := by decide +kernel
theorem dX6_settles_71 : decode cX6_settles 71 = .ok (.iastore, 1) := by decide +kernel
theorem dX6_settles_72 : decode cX6_settles 72 = .ok (.return_, 1) := by decide +kernel
theorem dX6_loses_0 : decode cX6_loses 0 = .ok (.aload_n 0, 1) := by decide +kernel
theorem dX6_loses_1 : decode cX6_loses 1 = .ok (.getfield 7, 3) := by decide +kernel
theorem dX6_loses_4 : decode cX6_loses 4 = .ok (.iload_n 1, 1) := by decide +kernel
theorem dX6_loses_5 : decode cX6_loses 5 = .ok (.bipush 11, 2) := by decide +kernel
theorem dX6_loses_7 : decode cX6_loses 7 = .ok (.iload_n 2, 1) := by decide +kernel
theorem dX6_loses_8 : decode cX6_loses 8 = .ok (.iadd, 1) := by decide +kernel
theorem dX6_loses_9 : decode cX6_loses 9 = .ok (.invokestatic 44, 3) := by decide +kernel
theorem dX6_loses_12 : decode cX6_loses 12 = .ok (.dup2, 1) := by decide +kernel
theorem dX6_loses_13 : decode cX6_loses 13 = .ok (.iaload, 1) := by decide +kernel
theorem dX6_loses_14 : decode cX6_loses 14 = .ok (.iconst 1, 1) := by decide +kernel
theorem dX6_loses_15 : decode cX6_loses 15 = .ok (.iadd, 1) := by decide +kernel
theorem dX6_loses_16 : decode cX6_loses 16 = .ok (.iastore, 1) := by decide +kernel
theorem dX6_loses_17 : decode cX6_loses 17 = .ok (.aload_n 0, 1) := by decide +kernel
theorem dX6_loses_18 : decode cX6_loses 18 = .ok (.getfield 7, 3) := by decide +kernel
theorem dX6_loses_21 : decode cX6_loses 21 = .ok (.iload_n 1, 1) := by decide +kernel
theorem dX6_loses_22 : decode cX6_loses 22 = .ok (.bipush 10, 2) := by decide +kernel
theorem dX6_loses_24 : decode cX6_loses 24 = .ok (.invokestatic 44, 3) := by decide +kernel
theorem dX6_loses_27 : decode cX6_loses 27 = .ok (.dup2, 1) := by decide +kernel
theorem dX6_loses_28 : decode cX6_loses 28 = .ok (.iaload, 1) := by decide +kernel
theorem dX6_loses_29 : decode cX6_loses 29 = .ok (.iload_n 3, 1) := by decide +kernel
theorem dX6_loses_30 : decode cX6_loses 30 = .ok (.iadd, 1) := by decide +kernel
theorem dX6_loses_31 : decode cX6_loses 31 = .ok (.iastore, 1) := by decide +kernel
theorem dX6_loses_32 : decode cX6_loses 32 = .ok (.return_, 1) := by decide +kernel
theorem dX6_early_0 : decode cX6_early 0 = .ok (.iload_n 2, 1) := by decide +kernel
theorem dX6_early_1 : decode cX6_early 1 = .ok (.aload_n 0, 1) := by decide +kernel
theorem dX6_early_2 : decode cX6_early 2 = .ok (.iload_n 1, 1) := by decide +kernel
theorem dX6_early_3 : decode cX6_early 3 = .ok (.iconst 3, 1) := by decide +kernel
theorem dX6_early_4 : decode cX6_early 4 = .ok (.idiv, 1) := by decide +kernel
theorem dX6_early_5 : decode cX6_early 5 = .ok (.invokevirtual 65, 3) := by decide +kernel
theorem dX6_early_8 : decode cX6_early 8 = .ok (.invokestatic 68, 3) := by decide +kernel
theorem dX6_early_11 : decode cX6_early 11 = .ok (.istore_n 3, 1) := by decide +kernel
theorem dX6_early_12 : decode cX6_early 12 = .ok (.iload_n 3, 1) := by decide +kernel
theorem dX6_early_13 : decode cX6_early 13 = .ok (.iload_n 2, 1) := by decide +kernel
theorem dX6_early_14 : decode cX6_early 14 = .ok (.if_icmp .ne 5, 3) := by decide +kernel
theorem dX6_early_17 : decode cX6_early 17 = .ok (.iconst 1, 1) := by decide +kernel
theorem dX6_early_18 : decode cX6_early 18 = .ok (.ireturn, 1) := by decide +kernel
theorem dX6_early_19 : decode cX6_early 19 = .ok (.aload_n 0, 1) := by decide +kernel
theorem dX6_early_20 : decode cX6_early 20 = .ok (.getfield 26, 3) := by decide +kernel
theorem dX6_early_23 : decode cX6_early 23 = .ok (.iconst 1, 1) := by decide +kernel
theorem dX6_early_24 : decode cX6_early 24 = .ok (.iconst 1, 1) := by decide +kernel
theorem dX6_early_25 : decode cX6_early 25 = .ok (.iastore, 1) := by decide +kernel
theorem dX6_early_26 : decode cX6_early 26 = .ok (.iload_n 2, 1) := by decide +kernel
theorem dX6_early_27 : decode cX6_early 27 = .ok (.iload_n 3, 1) := by decide +kernel
theorem dX6_early_28 : decode cX6_early 28 = .ok (.isub, 1) := by decide +kernel
theorem dX6_early_29 : decode cX6_early 29 = .ok (.istore 4, 2) := by decide +kernel
theorem dX6_early_31 : decode cX6_early 31 = .ok (.iload 4, 2) := by decide +kernel
theorem dX6_early_33 : decode cX6_early 33 = .ok (.aload_n 0, 1) := by decide +kernel
theorem dX6_early_34 : decode cX6_early 34 = .ok (.invokevirtual 62, 3) := by decide +kernel
theorem dX6_early_37 : decode cX6_early 37 = .ok (.if_icmp .le 12, 3) := by decide +kernel
theorem dX6_early_40 : decode cX6_early 40 = .ok (.aload_n 0, 1) := by decide +kernel
theorem dX6_early_41 : decode cX6_early 41 = .ok (.getfield 26, 3) := by decide +kernel
theorem dX6_early_44 : decode cX6_early 44 = .ok (.iconst 2, 1) := by decide +kernel
theorem dX6_early_45 : decode cX6_early 45 = .ok (.iconst 2, 1) := by decide +kernel
theorem dX6_early_46 : decode cX6_early 46 = .ok (.iastore, 1) := by decide +kernel
theorem dX6_early_47 : decode cX6_early 47 = .ok (.iconst 0, 1) := by decide +kernel
theorem dX6_early_48 : decode cX6_early 48 = .ok (.ireturn, 1) := by decide +kernel
theorem dX6_early_49 : decode cX6_early 49 = .ok (.aload_n 0, 1) := by decide +kernel
theorem dX6_early_50 : decode cX6_early 50 = .ok (.getfield 7, 3) := by decide +kernel
theorem dX6_early_53 : decode cX6_early 53 = .ok (.iload_n 1, 1) := by decide +kernel
theorem dX6_early_54 : decode cX6_early 54 = .ok (.bipush 7, 2) := by decide +kernel
theorem dX6_early_56 : decode cX6_early 56 = .ok (.invokestatic 48, 3) := by decide +kernel
theorem dX6_early_59 : decode cX6_early 59 = .ok (.iaload, 1) := by decide +kernel
theorem dX6_early_60 : decode cX6_early 60 = .ok (.iload 4, 2) := by decide +kernel
theorem dX6_early_62 : decode cX6_early 62 = .ok (.iadd, 1) := by decide +kernel
theorem dX6_early_63 : decode cX6_early 63 = .ok (.aload_n 0, 1) := by decide +kernel
theorem dX6_early_64 : decode cX6_early 64 = .ok (.iload_n 1, 1) := by decide +kernel
theorem dX6_early_65 : decode cX6_early 65 = .ok (.invokevirtual 113, 3) := by decide +kernel
theorem dX6_early_68 : decode cX6_early 68 = .ok (.isub, 1) := by decide +kernel
theorem dX6_early_69 : decode cX6_early 69 = .ok (.istore 5, 2) := by decide +kernel
theorem dX6_early_71 : decode cX6_early 71 = .ok (.iload 5, 2) := by decide +kernel
theorem dX6_early_73 : decode cX6_early 73 = .ok (.aload_n 0, 1) := by decide +kernel
theorem dX6_early_74 : decode cX6_early 74 = .ok (.getfield 7, 3) := by decide +kernel
theorem dX6_early_77 : decode cX6_early 77 = .ok (.iload_n 1, 1) := by decide +kernel
theorem dX6_early_78 : decode cX6_early 78 = .ok (.iconst 3, 1) := by decide +kernel
theorem dX6_early_79 : decode cX6_early 79 = .ok (.invokestatic 48, 3) := by decide +kernel
theorem dX6_early_82 : decode cX6_early 82 = .ok (.iaload, 1) := by decide +kernel
theorem dX6_early_83 : decode cX6_early 83 = .ok (.if_icmp .gt 5, 3) := by decide +kernel
theorem dX6_early_86 : decode cX6_early 86 = .ok (.iconst 2, 1) := by decide +kernel
theorem dX6_early_87 : decode cX6_early 87 = .ok (.ireturn, 1) := by decide +kernel
theorem dX6_early_88 : decode cX6_early 88 = .ok (.aload_n 0, 1) := by decide +kernel
theorem dX6_early_89 : decode cX6_early 89 = .ok (.getfield 26, 3) := by decide +kernel
theorem dX6_early_92 : decode cX6_early 92 = .ok (.iconst 2, 1) := by decide +kernel
theorem dX6_early_93 : decode cX6_early 93 = .ok (.iconst 3, 1) := by decide +kernel
theorem dX6_early_94 : decode cX6_early 94 = .ok (.iastore, 1) := by decide +kernel
theorem dX6_early_95 : decode cX6_early 95 = .ok (.iconst 0, 1) := by decide +kernel
theorem dX6_early_96 : decode cX6_early 96 = .ok (.ireturn, 1) := by decide +kernel
theorem dX6_lessens_0 : decode cX6_lessens 0 = .ok (.iload_n 2, 1) := by decide +kernel
theorem dX6_lessens_1 : decode cX6_lessens 1 = .ok (.istore_n 3, 1) := by decide +kernel
theorem dX6_lessens_2 : decode cX6_lessens 2 = .ok (.bipush 8, 2) := by decide +kernel
theorem dX6_lessens_4 : decode cX6_lessens 4 = .ok (.istore 4, 2) := by decide +kernel
theorem dX6_lessens_6 : decode cX6_lessens 6 = .ok (.iload 4, 2) := by decide +kernel
theorem dX6_lessens_8 : decode cX6_lessens 8 = .ok (.bipush 6, 2) := by decide +kernel
theorem dX6_lessens_10 : decode cX6_lessens 10 = .ok (.if_icmp .lt 47, 3) := by decide +kernel
theorem dX6_lessens_13 : decode cX6_lessens 13 = .ok (.iload_n 3, 1) := by decide +kernel
theorem dX6_lessens_14 : decode cX6_lessens 14 = .ok (.aload_n 0, 1) := by decide +kernel
theorem dX6_lessens_15 : decode cX6_lessens 15 = .ok (.getfield 7, 3) := by decide +kernel
theorem dX6_lessens_18 : decode cX6_lessens 18 = .ok (.iload_n 1, 1) := by decide +kernel
theorem dX6_lessens_19 : decode cX6_lessens 19 = .ok (.iload 4, 2) := by decide +kernel
theorem dX6_lessens_21 : decode cX6_lessens 21 = .ok (.invokestatic 48, 3) := by decide +kernel
theorem dX6_lessens_24 : decode cX6_lessens 24 = .ok (.iaload, 1) := by decide +kernel
theorem dX6_lessens_25 : decode cX6_lessens 25 = .ok (.invokestatic 68, 3) := by decide +kernel
theorem dX6_lessens_28 : decode cX6_lessens 28 = .ok (.istore 5, 2) := by decide +kernel
theorem dX6_lessens_30 : decode cX6_lessens 30 = .ok (.aload_n 0, 1) := by decide +kernel
theorem dX6_lessens_31 : decode cX6_lessens 31 = .ok (.getfield 7, 3) := by decide +kernel
theorem dX6_lessens_34 : decode cX6_lessens 34 = .ok (.iload_n 1, 1) := by decide +kernel
theorem dX6_lessens_35 : decode cX6_lessens 35 = .ok (.iload 4, 2) := by decide +kernel
theorem dX6_lessens_37 : decode cX6_lessens 37 = .ok (.invokestatic 48, 3) := by decide +kernel
theorem dX6_lessens_40 : decode cX6_lessens 40 = .ok (.dup2, 1) := by decide +kernel
theorem dX6_lessens_41 : decode cX6_lessens 41 = .ok (.iaload, 1) := by decide +kernel
theorem dX6_lessens_42 : decode cX6_lessens 42 = .ok (.iload 5, 2) := by decide +kernel
theorem dX6_lessens_44 : decode cX6_lessens 44 = .ok (.isub, 1) := by decide +kernel
theorem dX6_lessens_45 : decode cX6_lessens 45 = .ok (.iastore, 1) := by decide +kernel
theorem dX6_lessens_46 : decode cX6_lessens 46 = .ok (.iload_n 3, 1) := by decide +kernel
theorem dX6_lessens_47 : decode cX6_lessens 47 = .ok (.iload 5, 2) := by decide +kernel
theorem dX6_lessens_49 : decode cX6_lessens 49 = .ok (.isub, 1) := by decide +kernel
theorem dX6_lessens_50 : decode cX6_lessens 50 = .ok (.istore_n 3, 1) := by decide +kernel
theorem dX6_lessens_51 : decode cX6_lessens 51 = .ok (.iinc 4 (-1), 3) := by decide +kernel
theorem dX6_lessens_54 : decode cX6_lessens 54 = .ok (.goto (-48), 3) := by decide +kernel
theorem dX6_lessens_57 : decode cX6_lessens 57 = .ok (.return_, 1) := by decide +kernel
theorem dX6_decides_0 : decode cX6_decides 0 = .ok (.aload_n 0, 1) := by decide +kernel
theorem dX6_decides_1 : decode cX6_decides 1 = .ok (.iload_n 1, 1) := by decide +kernel
theorem dX6_decides_2 : decode cX6_decides 2 = .ok (.iload_n 2, 1) := by decide +kernel
theorem dX6_decides_3 : decode cX6_decides 3 = .ok (.invokevirtual 116, 3) := by decide +kernel
theorem dX6_decides_6 : decode cX6_decides 6 = .ok (.istore_n 3, 1) := by decide +kernel
theorem dX6_decides_7 : decode cX6_decides 7 = .ok (.iload_n 3, 1) := by decide +kernel
theorem dX6_decides_8 : decode cX6_decides 8 = .ok (.ifCond .le 5, 3) := by decide +kernel
theorem dX6_decides_11 : decode cX6_decides 11 = .ok (.iload_n 3, 1) := by decide +kernel
theorem dX6_decides_12 : decode cX6_decides 12 = .ok (.ireturn, 1) := by decide +kernel
theorem dX6_decides_13 : decode cX6_decides 13 = .ok (.iload_n 1, 1) := by decide +kernel
theorem dX6_decides_14 : decode cX6_decides 14 = .ok (.iconst 3, 1) := by decide +kernel
theorem dX6_decides_15 : decode cX6_decides 15 = .ok (.idiv, 1) := by decide +kernel
theorem dX6_decides_16 : decode cX6_decides 16 = .ok (.istore 4, 2) := by decide +kernel
theorem dX6_decides_18 : decode cX6_decides 18 = .ok (.iload_n 2, 1) := by decide +kernel
theorem dX6_decides_19 : decode cX6_decides 19 = .ok (.iload_n 2, 1) := by decide +kernel
theorem dX6_decides_20 : decode cX6_decides 20 = .ok (.aload_n 0, 1) := by decide +kernel
theorem dX6_decides_21 : decode cX6_decides 21 = .ok (.iload 4, 2) := by decide +kernel
theorem dX6_decides_23 : decode cX6_decides 23 = .ok (.invokevirtual 65, 3) := by decide +kernel
theorem dX6_decides_26 : decode cX6_decides 26 = .ok (.invokestatic 68, 3) := by decide +kernel
theorem dX6_decides_29 : decode cX6_decides 29 = .ok (.isub, 1) := by decide +kernel
theorem dX6_decides_30 : decode cX6_decides 30 = .ok (.istore 5, 2) := by decide +kernel
theorem dX6_decides_32 : decode cX6_decides 32 = .ok (.aload_n 0, 1) := by decide +kernel
theorem dX6_decides_33 : decode cX6_decides 33 = .ok (.getfield 7, 3) := by decide +kernel
theorem dX6_decides_36 : decode cX6_decides 36 = .ok (.iload_n 1, 1) := by decide +kernel
theorem dX6_decides_37 : decode cX6_decides 37 = .ok (.bipush 9, 2) := by decide +kernel
theorem dX6_decides_39 : decode cX6_decides 39 = .ok (.invokestatic 48, 3) := by decide +kernel
theorem dX6_decides_42 : decode cX6_decides 42 = .ok (.iaload, 1) := by decide +kernel
theorem dX6_decides_43 : decode cX6_decides 43 = .ok (.ifCond .ne 13, 3) := by decide +kernel
theorem dX6_decides_46 : decode cX6_decides 46 = .ok (.aload_n 0, 1) := by decide +kernel
theorem dX6_decides_47 : decode cX6_decides 47 = .ok (.getfield 26, 3) := by decide +kernel
theorem dX6_decides_50 : decode cX6_decides 50 = .ok (.iconst 3, 1) := by decide +kernel
theorem dX6_decides_51 : decode cX6_decides 51 = .ok (.iconst 4, 1) := by decide +kernel
theorem dX6_decides_52 : decode cX6_decides 52 = .ok (.iastore, 1) := by decide +kernel
theorem dX6_decides_53 : decode cX6_decides 53 = .ok (.goto 40, 3) := by decide +kernel
theorem dX6_decides_56 : decode cX6_decides 56 = .ok (.iload 5, 2) := by decide +kernel
theorem dX6_decides_58 : decode cX6_decides 58 = .ok (.aload_n 0, 1) := by decide +kernel
theorem dX6_decides_59 : decode cX6_decides 59 = .ok (.getfield 7, 3) := by decide +kernel
theorem dX6_decides_62 : decode cX6_decides 62 = .ok (.iload 4, 2) := by decide +kernel
theorem dX6_decides_64 : decode cX6_decides 64 = .ok (.iconst 1, 1) := by decide +kernel
theorem dX6_decides_65 : decode cX6_decides 65 = .ok (.invokestatic 44, 3) := by decide +kernel
theorem dX6_decides_68 : decode cX6_decides 68 = .ok (.iaload, 1) := by decide +kernel
theorem dX6_decides_69 : decode cX6_decides 69 = .ok (.aload_n 0, 1) := by decide +kernel
theorem dX6_decides_70 : decode cX6_decides 70 = .ok (.iload 4, 2) := by decide +kernel
theorem dX6_decides_72 : decode cX6_decides 72 = .ok (.bipush 8, 2) := by decide +kernel
theorem dX6_decides_74 : decode cX6_decides 74 = .ok (.invokevirtual 59, 3) := by decide +kernel
theorem dX6_decides_77 : decode cX6_decides 77 = .ok (.isub, 1) := by decide +kernel
theorem dX6_decides_78 : decode cX6_decides 78 = .ok (.if_icmp .le 13, 3) := by decide +kernel
theorem dX6_decides_81 : decode cX6_decides 81 = .ok (.aload_n 0, 1) := by decide +kernel
theorem dX6_decides_82 : decode cX6_decides 82 = .ok (.getfield 26, 3) := by decide +kernel
theorem dX6_decides_85 : decode cX6_decides 85 = .ok (.iconst 3, 1) := by decide +kernel
theorem dX6_decides_86 : decode cX6_decides 86 = .ok (.iconst 5, 1) := by decide +kernel
theorem dX6_decides_87 : decode cX6_decides 87 = .ok (.iastore, 1) := by decide +kernel
theorem dX6_decides_88 : decode cX6_decides 88 = .ok (.goto 5, 3) := by decide +kernel
theorem dX6_decides_91 : decode cX6_decides 91 = .ok (.iconst 3, 1) := by decide +kernel
theorem dX6_decides_92 : decode cX6_decides 92 = .ok (.ireturn, 1) := by decide +kernel
theorem dX6_decides_93 : decode cX6_decides 93 = .ok (.aload_n 0, 1) := by decide +kernel
theorem dX6_decides_94 : decode cX6_decides 94 = .ok (.getfield 7, 3) := by decide +kernel
theorem dX6_decides_97 : decode cX6_decides 97 = .ok (.iconst 2, 1) := by decide +kernel
theorem dX6_decides_98 : decode cX6_decides 98 = .ok (.iaload, 1) := by decide +kernel
theorem dX6_decides_99 : decode cX6_decides 99 = .ok (.ifCond .ne 13, 3) := by decide +kernel
theorem dX6_decides_102 : decode cX6_decides 102 = .ok (.aload_n 0, 1) := by decide +kernel
theorem dX6_decides_103 : decode cX6_decides 103 = .ok (.getfield 26, 3) := by decide +kernel
theorem dX6_decides_106 : decode cX6_decides 106 = .ok (.iconst 4, 1) := by decide +kernel
theorem dX6_decides_107 : decode cX6_decides 107 = .ok (.bipush 6, 2) := by decide +kernel
theorem dX6_decides_109 : decode cX6_decides 109 = .ok (.iastore, 1) := by decide +kernel
theorem dX6_decides_110 : decode cX6_decides 110 = .ok (.iconst 0, 1) := by decide +kernel
theorem dX6_decides_111 : decode cX6_decides 111 = .ok (.ireturn, 1) := by decide +kernel
theorem dX6_decides_112 : decode cX6_decides 112 = .ok (.aload_n 0, 1) := by decide +kernel
theorem dX6_decides_113 : decode cX6_decides 113 = .ok (.iload_n 1, 1) := by decide +kernel
theorem dX6_decides_114 : decode cX6_decides 114 = .ok (.iload_n 2, 1) := by decide +kernel
theorem dX6_decides_115 : decode cX6_decides 115 = .ok (.invokevirtual 119, 3) := by decide +kernel
theorem dX6_decides_118 : decode cX6_decides 118 = .ok (.ifCond .eq 7, 3) := by decide +kernel
theorem dX6_decides_121 : decode cX6_decides 121 = .ok (.iconst 4, 1) := by decide +kernel
theorem dX6_decides_122 : decode cX6_decides 122 = .ok (.goto 4, 3) := by decide +kernel
theorem dX6_decides_125 : decode cX6_decides 125 = .ok (.iconst 0, 1) := by decide +kernel
theorem dX6_decides_126 : decode cX6_decides 126 = .ok (.ireturn, 1) := by decide +kernel
theorem dX6_pushes_0 : decode cX6_pushes 0 = .ok (.iload_n 1, 1) := by decide +kernel
theorem dX6_pushes_1 : decode cX6_pushes 1 = .ok (.iconst 3, 1) := by decide +kernel
theorem dX6_pushes_2 : decode cX6_pushes 2 = .ok (.idiv, 1) := by decide +kernel
theorem dX6_pushes_3 : decode cX6_pushes 3 = .ok (.istore_n 3, 1) := by decide +kernel
theorem dX6_pushes_4 : decode cX6_pushes 4 = .ok (.aload_n 0, 1) := by decide +kernel
theorem dX6_pushes_5 : decode cX6_pushes 5 = .ok (.getfield 26, 3) := by decide +kernel
theorem dX6_pushes_8 : decode cX6_pushes 8 = .ok (.iconst 1, 1) := by decide +kernel
theorem dX6_pushes_9 : decode cX6_pushes 9 = .ok (.iaload, 1) := by decide +kernel
theorem dX6_pushes_10 : decode cX6_pushes 10 = .ok (.istore 4, 2) := by decide +kernel
theorem dX6_pushes_12 : decode cX6_pushes 12 = .ok (.aload_n 0, 1) := by decide +kernel
theorem dX6_pushes_13 : decode cX6_pushes 13 = .ok (.getfield 26, 3) := by decide +kernel
theorem dX6_pushes_16 : decode cX6_pushes 16 = .ok (.iconst 2, 1) := by decide +kernel
theorem dX6_pushes_17 : decode cX6_pushes 17 = .ok (.iaload, 1) := by decide +kernel
theorem dX6_pushes_18 : decode cX6_pushes 18 = .ok (.istore 5, 2) := by decide +kernel
theorem dX6_pushes_20 : decode cX6_pushes 20 = .ok (.aload_n 0, 1) := by decide +kernel
theorem dX6_pushes_21 : decode cX6_pushes 21 = .ok (.getfield 29, 3) := by decide +kernel
theorem dX6_pushes_24 : decode cX6_pushes 24 = .ok (.astore 6, 2) := by decide +kernel
theorem dX6_pushes_26 : decode cX6_pushes 26 = .ok (.iconst 0, 1) := by decide +kernel
theorem dX6_pushes_27 : decode cX6_pushes 27 = .ok (.istore 7, 2) := by decide +kernel
theorem dX6_pushes_29 : decode cX6_pushes 29 = .ok (.iload 7, 2) := by decide +kernel
theorem dX6_pushes_31 : decode cX6_pushes 31 = .ok (.bipush 9, 2) := by decide +kernel
theorem dX6_pushes_33 : decode cX6_pushes 33 = .ok (.if_icmp .ge 37, 3) := by decide +kernel
theorem dX6_pushes_36 : decode cX6_pushes 36 = .ok (.aload 6, 2) := by decide +kernel
theorem dX6_pushes_38 : decode cX6_pushes 38 = .ok (.iload 7, 2) := by decide +kernel
theorem dX6_pushes_40 : decode cX6_pushes 40 = .ok (.aload_n 0, 1) := by decide +kernel
theorem dX6_pushes_41 : decode cX6_pushes 41 = .ok (.getfield 7, 3) := by decide +kernel
theorem dX6_pushes_44 : decode cX6_pushes 44 = .ok (.iconst 3, 1) := by decide +kernel
theorem dX6_pushes_45 : decode cX6_pushes 45 = .ok (.iload_n 3, 1) := by decide +kernel
theorem dX6_pushes_46 : decode cX6_pushes 46 = .ok (.imul, 1) := by decide +kernel
theorem dX6_pushes_47 : decode cX6_pushes 47 = .ok (.iload 7, 2) := by decide +kernel
theorem dX6_pushes_49 : decode cX6_pushes 49 = .ok (.iconst 3, 1) := by decide +kernel
theorem dX6_pushes_50 : decode cX6_pushes 50 = .ok (.idiv, 1) := by decide +kernel
theorem dX6_pushes_51 : decode cX6_pushes 51 = .ok (.iadd, 1) := by decide +kernel
theorem dX6_pushes_52 : decode cX6_pushes 52 = .ok (.bipush 6, 2) := by decide +kernel
theorem dX6_pushes_54 : decode cX6_pushes 54 = .ok (.iload 7, 2) := by decide +kernel
theorem dX6_pushes_56 : decode cX6_pushes 56 = .ok (.iconst 3, 1) := by decide +kernel
theorem dX6_pushes_57 : decode cX6_pushes 57 = .ok (.irem, 1) := by decide +kernel
theorem dX6_pushes_58 : decode cX6_pushes 58 = .ok (.iadd, 1) := by decide +kernel
theorem dX6_pushes_59 : decode cX6_pushes 59 = .ok (.invokestatic 48, 3) := by decide +kernel
theorem dX6_pushes_62 : decode cX6_pushes 62 = .ok (.iaload, 1) := by decide +kernel
theorem dX6_pushes_63 : decode cX6_pushes 63 = .ok (.iastore, 1) := by decide +kernel
theorem dX6_pushes_64 : decode cX6_pushes 64 = .ok (.iinc 7 1, 3) := by decide +kernel
theorem dX6_pushes_67 : decode cX6_pushes 67 = .ok (.goto (-38), 3) := by decide +kernel
theorem dX6_pushes_70 : decode cX6_pushes 70 = .ok (.iconst 0, 1) := by decide +kernel
theorem dX6_pushes_71 : decode cX6_pushes 71 = .ok (.istore 7, 2) := by decide +kernel
theorem dX6_pushes_73 : decode cX6_pushes 73 = .ok (.iconst 0, 1) := by decide +kernel
theorem dX6_pushes_74 : decode cX6_pushes 74 = .ok (.istore 8, 2) := by decide +kernel
theorem dX6_pushes_76 : decode cX6_pushes 76 = .ok (.iconst 3, 1) := by decide +kernel
theorem dX6_pushes_77 : decode cX6_pushes 77 = .ok (.iload_n 3, 1) := by decide +kernel
theorem dX6_pushes_78 : decode cX6_pushes 78 = .ok (.imul, 1) := by decide +kernel
theorem dX6_pushes_79 : decode cX6_pushes 79 = .ok (.iconst 2, 1) := by decide +kernel
theorem dX6_pushes_80 : decode cX6_pushes 80 = .ok (.iadd, 1) := by decide +kernel
theorem dX6_pushes_81 : decode cX6_pushes 81 = .ok (.istore 9, 2) := by decide +kernel
theorem dX6_pushes_83 : decode cX6_pushes 83 = .ok (.iload 9, 2) := by decide +kernel
theorem dX6_pushes_85 : decode cX6_pushes 85 = .ok (.iload_n 1, 1) := by decide +kernel
theorem dX6_pushes_86 : decode cX6_pushes 86 = .ok (.if_icmp .le 92, 3) := by decide +kernel
theorem dX6_pushes_89 : decode cX6_pushes 89 = .ok (.iload 8, 2) := by decide +kernel
theorem dX6_pushes_91 : decode cX6_pushes 91 = .ok (.ifCond .ne 87, 3) := by decide +kernel
theorem dX6_pushes_94 : decode cX6_pushes 94 = .ok (.aload_n 0, 1) := by decide +kernel
theorem dX6_pushes_95 : decode cX6_pushes 95 = .ok (.getfield 7, 3) := by decide +kernel
theorem dX6_pushes_98 : decode cX6_pushes 98 = .ok (.iload 9, 2) := by decide +kernel
theorem dX6_pushes_100 : decode cX6_pushes 100 = .ok (.bipush 12, 2) := by decide +kernel
theorem dX6_pushes_102 : decode cX6_pushes 102 = .ok (.invokestatic 48, 3) := by decide +kernel
theorem dX6_pushes_105 : decode cX6_pushes 105 = .ok (.iaload, 1) := by decide +kernel
theorem dX6_pushes_106 : decode cX6_pushes 106 = .ok (.iconst 1, 1) := by decide +kernel
theorem dX6_pushes_107 : decode cX6_pushes 107 = .ok (.isub, 1) := by decide +kernel
theorem dX6_pushes_108 : decode cX6_pushes 108 = .ok (.istore 10, 2) := by decide +kernel
theorem dX6_pushes_110 : decode cX6_pushes 110 = .ok (.iload 10, 2) := by decide +kernel
theorem dX6_pushes_112 : decode cX6_pushes 112 = .ok (.ifCond .lt 60, 3) := by decide +kernel
theorem dX6_pushes_115 : decode cX6_pushes 115 = .ok (.iload 8, 2) := by decide +kernel
theorem dX6_pushes_117 : decode cX6_pushes 117 = .ok (.ifCond .ne 55, 3) := by decide +kernel
theorem dX6_pushes_120 : decode cX6_pushes 120 = .ok (.aload_n 0, 1) := by decide +kernel
theorem dX6_pushes_121 : decode cX6_pushes 121 = .ok (.iload 9, 2) := by decide +kernel
theorem dX6_pushes_123 : decode cX6_pushes 123 = .ok (.aload_n 0, 1) := by decide +kernel
theorem dX6_pushes_124 : decode cX6_pushes 124 = .ok (.getfield 7, 3) := by decide +kernel
theorem dX6_pushes_127 : decode cX6_pushes 127 = .ok (.aload_n 0, 1) := by decide +kernel
theorem dX6_pushes_128 : decode cX6_pushes 128 = .ok (.getfield 7, 3) := by decide +kernel
theorem dX6_pushes_131 : decode cX6_pushes 131 = .ok (.iload 9, 2) := by decide +kernel
theorem dX6_pushes_133 : decode cX6_pushes 133 = .ok (.iload 10, 2) := by decide +kernel
theorem dX6_pushes_135 : decode cX6_pushes 135 = .ok (.invokestatic 107, 3) := by decide +kernel
theorem dX6_pushes_138 : decode cX6_pushes 138 = .ok (.iaload, 1) := by decide +kernel
theorem dX6_pushes_139 : decode cX6_pushes 139 = .ok (.iconst 1, 1) := by decide +kernel
theorem dX6_pushes_140 : decode cX6_pushes 140 = .ok (.invokestatic 92, 3) := by decide +kernel
theorem dX6_pushes_143 : decode cX6_pushes 143 = .ok (.iaload, 1) := by decide +kernel
theorem dX6_pushes_144 : decode cX6_pushes 144 = .ok (.invokevirtual 122, 3) := by decide +kernel
theorem dX6_pushes_147 : decode cX6_pushes 147 = .ok (.iinc 7 1, 3) := by decide +kernel
theorem dX6_pushes_150 : decode cX6_pushes 150 = .ok (.aload_n 0, 1) := by decide +kernel
theorem dX6_pushes_151 : decode cX6_pushes 151 = .ok (.iload_n 1, 1) := by decide +kernel
theorem dX6_pushes_152 : decode cX6_pushes 152 = .ok (.iload_n 2, 1) := by decide +kernel
theorem dX6_pushes_153 : decode cX6_pushes 153 = .ok (.invokevirtual 116, 3) := by decide +kernel
theorem dX6_pushes_156 : decode cX6_pushes 156 = .ok (.ifCond .le 7, 3) := by decide +kernel
theorem dX6_pushes_159 : decode cX6_pushes 159 = .ok (.iconst 1, 1) := by decide +kernel
theorem dX6_pushes_160 : decode cX6_pushes 160 = .ok (.goto 4, 3) := by decide +kernel
theorem dX6_pushes_163 : decode cX6_pushes 163 = .ok (.iconst 0, 1) := by decide +kernel
theorem dX6_pushes_164 : decode cX6_pushes 164 = .ok (.istore 8, 2) := by decide +kernel
theorem dX6_pushes_166 : decode cX6_pushes 166 = .ok (.iinc 10 (-1), 3) := by decide +kernel
theorem dX6_pushes_169 : decode cX6_pushes 169 = .ok (.goto (-59), 3) := by decide +kernel
theorem dX6_pushes_172 : decode cX6_pushes 172 = .ok (.iinc 9 (-1), 3) := by decide +kernel
theorem dX6_pushes_175 : decode cX6_pushes 175 = .ok (.goto (-92), 3) := by decide +kernel
theorem dX6_pushes_178 : decode cX6_pushes 178 = .ok (.iconst 0, 1) := by decide +kernel
theorem dX6_pushes_179 : decode cX6_pushes 179 = .ok (.istore 9, 2) := by decide +kernel
theorem dX6_pushes_181 : decode cX6_pushes 181 = .ok (.iload 9, 2) := by decide +kernel
theorem dX6_pushes_183 : decode cX6_pushes 183 = .ok (.bipush 9, 2) := by decide +kernel
theorem dX6_pushes_185 : decode cX6_pushes 185 = .ok (.if_icmp .ge 37, 3) := by decide +kernel
theorem dX6_pushes_188 : decode cX6_pushes 188 = .ok (.aload_n 0, 1) := by decide +kernel
theorem dX6_pushes_189 : decode cX6_pushes 189 = .ok (.getfield 7, 3) := by decide +kernel
theorem dX6_pushes_192 : decode cX6_pushes 192 = .ok (.iconst 3, 1) := by decide +kernel
theorem dX6_pushes_193 : decode cX6_pushes 193 = .ok (.iload_n 3, 1) := by decide +kernel
theorem dX6_pushes_194 : decode cX6_pushes 194 = .ok (.imul, 1) := by decide +kernel
theorem dX6_pushes_195 : decode cX6_pushes 195 = .ok (.iload 9, 2) := by decide +kernel
theorem dX6_pushes_197 : decode cX6_pushes 197 = .ok (.iconst 3, 1) := by decide +kernel
theorem dX6_pushes_198 : decode cX6_pushes 198 = .ok (.idiv, 1) := by decide +kernel
theorem dX6_pushes_199 : decode cX6_pushes 199 = .ok (.iadd, 1) := by decide +kernel
theorem dX6_pushes_200 : decode cX6_pushes 200 = .ok (.bipush 6, 2) := by decide +kernel
theorem dX6_pushes_202 : decode cX6_pushes 202 = .ok (.iload 9, 2) := by decide +kernel
theorem dX6_pushes_204 : decode cX6_pushes 204 = .ok (.iconst 3, 1) := by decide +kernel
theorem dX6_pushes_205 : decode cX6_pushes 205 = .ok (.irem, 1) := by decide +kernel
theorem dX6_pushes_206 : decode cX6_pushes 206 = .ok (.iadd, 1) := by decide +kernel
theorem dX6_pushes_207 : decode cX6_pushes 207 = .ok (.invokestatic 48, 3) := by decide +kernel
theorem dX6_pushes_210 : decode cX6_pushes 210 = .ok (.aload 6, 2) := by decide +kernel
theorem dX6_pushes_212 : decode cX6_pushes 212 = .ok (.iload 9, 2) := by decide +kernel
theorem dX6_pushes_214 : decode cX6_pushes 214 = .ok (.iaload, 1) := by decide +kernel
theorem dX6_pushes_215 : decode cX6_pushes 215 = .ok (.iastore, 1) := by decide +kernel
theorem dX6_pushes_216 : decode cX6_pushes 216 = .ok (.iinc 9 1, 3) := by decide +kernel
theorem dX6_pushes_219 : decode cX6_pushes 219 = .ok (.goto (-38), 3) := by decide +kernel
theorem dX6_pushes_222 : decode cX6_pushes 222 = .ok (.aload_n 0, 1) := by decide +kernel
theorem dX6_pushes_223 : decode cX6_pushes 223 = .ok (.getfield 26, 3) := by decide +kernel
theorem dX6_pushes_226 : decode cX6_pushes 226 = .ok (.iconst 1, 1) := by decide +kernel
theorem dX6_pushes_227 : decode cX6_pushes 227 = .ok (.iload 4, 2) := by decide +kernel
theorem dX6_pushes_229 : decode cX6_pushes 229 = .ok (.iastore, 1) := by decide +kernel
theorem dX6_pushes_230 : decode cX6_pushes 230 = .ok (.aload_n 0, 1) := by decide +kernel
theorem dX6_pushes_231 : decode cX6_pushes 231 = .ok (.getfield 26, 3) := by decide +kernel
theorem dX6_pushes_234 : decode cX6_pushes 234 = .ok (.iconst 2, 1) := by decide +kernel
theorem dX6_pushes_235 : decode cX6_pushes 235 = .ok (.iload 5, 2) := by decide +kernel
theorem dX6_pushes_237 : decode cX6_pushes 237 = .ok (.iastore, 1) := by decide +kernel
theorem dX6_pushes_238 : decode cX6_pushes 238 = .ok (.aload_n 0, 1) := by decide +kernel
theorem dX6_pushes_239 : decode cX6_pushes 239 = .ok (.getfield 26, 3) := by decide +kernel
theorem dX6_pushes_242 : decode cX6_pushes 242 = .ok (.iconst 4, 1) := by decide +kernel
theorem dX6_pushes_243 : decode cX6_pushes 243 = .ok (.bipush 7, 2) := by decide +kernel
theorem dX6_pushes_245 : decode cX6_pushes 245 = .ok (.iastore, 1) := by decide +kernel
theorem dX6_pushes_246 : decode cX6_pushes 246 = .ok (.aload_n 0, 1) := by decide +kernel
theorem dX6_pushes_247 : decode cX6_pushes 247 = .ok (.iload 7, 2) := by decide +kernel
theorem dX6_pushes_249 : decode cX6_pushes 249 = .ok (.putfield 125, 3) := by decide +kernel
theorem dX6_pushes_252 : decode cX6_pushes 252 = .ok (.iload 8, 2) := by decide +kernel
theorem dX6_pushes_254 : decode cX6_pushes 254 = .ok (.ireturn, 1) := by decide +kernel
theorem dX6_counts_0 : decode cX6_counts 0 = .ok (.iload_n 2, 1) := by decide +kernel
theorem dX6_counts_1 : decode cX6_counts 1 = .ok (.aload_n 0, 1) := by decide +kernel
theorem dX6_counts_2 : decode cX6_counts 2 = .ok (.iload_n 1, 1) := by decide +kernel
theorem dX6_counts_3 : decode cX6_counts 3 = .ok (.iconst 3, 1) := by decide +kernel
theorem dX6_counts_4 : decode cX6_counts 4 = .ok (.idiv, 1) := by decide +kernel
theorem dX6_counts_5 : decode cX6_counts 5 = .ok (.invokevirtual 65, 3) := by decide +kernel
theorem dX6_counts_8 : decode cX6_counts 8 = .ok (.invokestatic 68, 3) := by decide +kernel
theorem dX6_counts_11 : decode cX6_counts 11 = .ok (.istore 4, 2) := by decide +kernel
theorem dX6_counts_13 : decode cX6_counts 13 = .ok (.iload_n 2, 1) := by decide +kernel
theorem dX6_counts_14 : decode cX6_counts 14 = .ok (.iload 4, 2) := by decide +kernel
theorem dX6_counts_16 : decode cX6_counts 16 = .ok (.isub, 1) := by decide +kernel
theorem dX6_counts_17 : decode cX6_counts 17 = .ok (.istore 5, 2) := by decide +kernel
theorem dX6_counts_19 : decode cX6_counts 19 = .ok (.iload_n 3, 1) := by decide +kernel
theorem dX6_counts_20 : decode cX6_counts 20 = .ok (.iconst 2, 1) := by decide +kernel
theorem dX6_counts_21 : decode cX6_counts 21 = .ok (.if_icmp .ne 44, 3) := by decide +kernel
theorem dX6_counts_24 : decode cX6_counts 24 = .ok (.aload_n 0, 1) := by decide +kernel
theorem dX6_counts_25 : decode cX6_counts 25 = .ok (.getfield 7, 3) := by decide +kernel
theorem dX6_counts_28 : decode cX6_counts 28 = .ok (.iload_n 1, 1) := by decide +kernel
theorem dX6_counts_29 : decode cX6_counts 29 = .ok (.bipush 7, 2) := by decide +kernel
theorem dX6_counts_31 : decode cX6_counts 31 = .ok (.invokestatic 48, 3) := by decide +kernel
theorem dX6_counts_34 : decode cX6_counts 34 = .ok (.iaload, 1) := by decide +kernel
theorem dX6_counts_35 : decode cX6_counts 35 = .ok (.iload 5, 2) := by decide +kernel
theorem dX6_counts_37 : decode cX6_counts 37 = .ok (.iadd, 1) := by decide +kernel
theorem dX6_counts_38 : decode cX6_counts 38 = .ok (.aload_n 0, 1) := by decide +kernel
theorem dX6_counts_39 : decode cX6_counts 39 = .ok (.iload_n 1, 1) := by decide +kernel
theorem dX6_counts_40 : decode cX6_counts 40 = .ok (.invokevirtual 113, 3) := by decide +kernel
theorem dX6_counts_43 : decode cX6_counts 43 = .ok (.isub, 1) := by decide +kernel
theorem dX6_counts_44 : decode cX6_counts 44 = .ok (.istore 6, 2) := by decide +kernel
theorem dX6_counts_46 : decode cX6_counts 46 = .ok (.aload_n 0, 1) := by decide +kernel
theorem dX6_counts_47 : decode cX6_counts 47 = .ok (.getfield 7, 3) := by decide +kernel
theorem dX6_counts_50 : decode cX6_counts 50 = .ok (.iload_n 1, 1) := by decide +kernel
theorem dX6_counts_51 : decode cX6_counts 51 = .ok (.iconst 3, 1) := by decide +kernel
theorem dX6_counts_52 : decode cX6_counts 52 = .ok (.invokestatic 48, 3) := by decide +kernel
theorem dX6_counts_55 : decode cX6_counts 55 = .ok (.dup2, 1) := by decide +kernel
theorem dX6_counts_56 : decode cX6_counts 56 = .ok (.iaload, 1) := by decide +kernel
theorem dX6_counts_57 : decode cX6_counts 57 = .ok (.iconst 0, 1) := by decide +kernel
theorem dX6_counts_58 : decode cX6_counts 58 = .ok (.iload 6, 2) := by decide +kernel
theorem dX6_counts_60 : decode cX6_counts 60 = .ok (.invokestatic 129, 3) := by decide +kernel
theorem dX6_counts_63 : decode cX6_counts 63 = .ok (.isub, 1) := by decide +kernel
theorem dX6_counts_64 : decode cX6_counts 64 = .ok (.iastore, 1) := by decide +kernel
theorem dX6_counts_65 : decode cX6_counts 65 = .ok (.aload_n 0, 1) := by decide +kernel
theorem dX6_counts_66 : decode cX6_counts 66 = .ok (.getfield 7, 3) := by decide +kernel
theorem dX6_counts_69 : decode cX6_counts 69 = .ok (.iload_n 1, 1) := by decide +kernel
theorem dX6_counts_70 : decode cX6_counts 70 = .ok (.bipush 6, 2) := by decide +kernel
theorem dX6_counts_72 : decode cX6_counts 72 = .ok (.invokestatic 48, 3) := by decide +kernel
theorem dX6_counts_75 : decode cX6_counts 75 = .ok (.dup2, 1) := by decide +kernel
theorem dX6_counts_76 : decode cX6_counts 76 = .ok (.iaload, 1) := by decide +kernel
theorem dX6_counts_77 : decode cX6_counts 77 = .ok (.iload 4, 2) := by decide +kernel
theorem dX6_counts_79 : decode cX6_counts 79 = .ok (.iadd, 1) := by decide +kernel
theorem dX6_counts_80 : decode cX6_counts 80 = .ok (.iastore, 1) := by decide +kernel
theorem dX6_counts_81 : decode cX6_counts 81 = .ok (.iload_n 3, 1) := by decide +kernel
theorem dX6_counts_82 : decode cX6_counts 82 = .ok (.iconst 3, 1) := by decide +kernel
theorem dX6_counts_83 : decode cX6_counts 83 = .ok (.if_icmp .ne 61, 3) := by decide +kernel
theorem dX6_counts_86 : decode cX6_counts 86 = .ok (.aload_n 0, 1) := by decide +kernel
theorem dX6_counts_87 : decode cX6_counts 87 = .ok (.getfield 7, 3) := by decide +kernel
theorem dX6_counts_90 : decode cX6_counts 90 = .ok (.iload_n 1, 1) := by decide +kernel
theorem dX6_counts_91 : decode cX6_counts 91 = .ok (.bipush 8, 2) := by decide +kernel
theorem dX6_counts_93 : decode cX6_counts 93 = .ok (.invokestatic 48, 3) := by decide +kernel
theorem dX6_counts_96 : decode cX6_counts 96 = .ok (.dup2, 1) := by decide +kernel
theorem dX6_counts_97 : decode cX6_counts 97 = .ok (.iaload, 1) := by decide +kernel
theorem dX6_counts_98 : decode cX6_counts 98 = .ok (.iload 5, 2) := by decide +kernel
theorem dX6_counts_100 : decode cX6_counts 100 = .ok (.iadd, 1) := by decide +kernel
theorem dX6_counts_101 : decode cX6_counts 101 = .ok (.iastore, 1) := by decide +kernel
theorem dX6_counts_102 : decode cX6_counts 102 = .ok (.aload_n 0, 1) := by decide +kernel
theorem dX6_counts_103 : decode cX6_counts 103 = .ok (.getfield 7, 3) := by decide +kernel
theorem dX6_counts_106 : decode cX6_counts 106 = .ok (.iload_n 1, 1) := by decide +kernel
theorem dX6_counts_107 : decode cX6_counts 107 = .ok (.bipush 11, 2) := by decide +kernel
theorem dX6_counts_109 : decode cX6_counts 109 = .ok (.invokestatic 48, 3) := by decide +kernel
theorem dX6_counts_112 : decode cX6_counts 112 = .ok (.dup2, 1) := by decide +kernel
theorem dX6_counts_113 : decode cX6_counts 113 = .ok (.iaload, 1) := by decide +kernel
theorem dX6_counts_114 : decode cX6_counts 114 = .ok (.iconst 1, 1) := by decide +kernel
theorem dX6_counts_115 : decode cX6_counts 115 = .ok (.aload_n 0, 1) := by decide +kernel
theorem dX6_counts_116 : decode cX6_counts 116 = .ok (.getfield 7, 3) := by decide +kernel
theorem dX6_counts_119 : decode cX6_counts 119 = .ok (.iload_n 1, 1) := by decide +kernel
theorem dX6_counts_120 : decode cX6_counts 120 = .ok (.bipush 10, 2) := by decide +kernel
theorem dX6_counts_122 : decode cX6_counts 122 = .ok (.invokestatic 48, 3) := by decide +kernel
theorem dX6_counts_125 : decode cX6_counts 125 = .ok (.iaload, 1) := by decide +kernel
theorem dX6_counts_126 : decode cX6_counts 126 = .ok (.isub, 1) := by decide +kernel
theorem dX6_counts_127 : decode cX6_counts 127 = .ok (.iadd, 1) := by decide +kernel
theorem dX6_counts_128 : decode cX6_counts 128 = .ok (.iastore, 1) := by decide +kernel
theorem dX6_counts_129 : decode cX6_counts 129 = .ok (.aload_n 0, 1) := by decide +kernel
theorem dX6_counts_130 : decode cX6_counts 130 = .ok (.getfield 7, 3) := by decide +kernel
theorem dX6_counts_133 : decode cX6_counts 133 = .ok (.iload_n 1, 1) := by decide +kernel
theorem dX6_counts_134 : decode cX6_counts 134 = .ok (.bipush 10, 2) := by decide +kernel
theorem dX6_counts_136 : decode cX6_counts 136 = .ok (.invokestatic 48, 3) := by decide +kernel
theorem dX6_counts_139 : decode cX6_counts 139 = .ok (.iconst 1, 1) := by decide +kernel
theorem dX6_counts_140 : decode cX6_counts 140 = .ok (.iastore, 1) := by decide +kernel
theorem dX6_counts_141 : decode cX6_counts 141 = .ok (.goto 19, 3) := by decide +kernel
theorem dX6_counts_144 : decode cX6_counts 144 = .ok (.aload_n 0, 1) := by decide +kernel
theorem dX6_counts_145 : decode cX6_counts 145 = .ok (.getfield 7, 3) := by decide +kernel
theorem dX6_counts_148 : decode cX6_counts 148 = .ok (.iload_n 1, 1) := by decide +kernel
theorem dX6_counts_149 : decode cX6_counts 149 = .ok (.bipush 7, 2) := by decide +kernel
theorem dX6_counts_151 : decode cX6_counts 151 = .ok (.invokestatic 48, 3) := by decide +kernel
theorem dX6_counts_154 : decode cX6_counts 154 = .ok (.dup2, 1) := by decide +kernel
theorem dX6_counts_155 : decode cX6_counts 155 = .ok (.iaload, 1) := by decide +kernel
theorem dX6_counts_156 : decode cX6_counts 156 = .ok (.iload 5, 2) := by decide +kernel
theorem dX6_counts_158 : decode cX6_counts 158 = .ok (.iadd, 1) := by decide +kernel
theorem dX6_counts_159 : decode cX6_counts 159 = .ok (.iastore, 1) := by decide +kernel
theorem dX6_counts_160 : decode cX6_counts 160 = .ok (.return_, 1) := by decide +kernel
theorem dX6_removesVictims_0 : decode cX6_removesVictims 0 = .ok (.aload_n 0, 1) := by decide +kernel
theorem dX6_removesVictims_1 : decode cX6_removesVictims 1 = .ok (.getfield 125, 3) := by decide +kernel
theorem dX6_removesVictims_4 : decode cX6_removesVictims 4 = .ok (.istore_n 2, 1) := by decide +kernel
theorem dX6_removesVictims_5 : decode cX6_removesVictims 5 = .ok (.iconst 3, 1) := by decide +kernel
theorem dX6_removesVictims_6 : decode cX6_removesVictims 6 = .ok (.iload_n 1, 1) := by decide +kernel
theorem dX6_removesVictims_7 : decode cX6_removesVictims 7 = .ok (.iconst 3, 1) := by decide +kernel
theorem dX6_removesVictims_8 : decode cX6_removesVictims 8 = .ok (.idiv, 1) := by decide +kernel
theorem dX6_removesVictims_9 : decode cX6_removesVictims 9 = .ok (.imul, 1) := by decide +kernel
theorem dX6_removesVictims_10 : decode cX6_removesVictims 10 = .ok (.iconst 2, 1) := by decide +kernel
theorem dX6_removesVictims_11 : decode cX6_removesVictims 11 = .ok (.iadd, 1) := by decide +kernel
theorem dX6_removesVictims_12 : decode cX6_removesVictims 12 = .ok (.istore_n 3, 1) := by decide +kernel
theorem dX6_removesVictims_13 : decode cX6_removesVictims 13 = .ok (.iload_n 2, 1) := by decide +kernel
theorem dX6_removesVictims_14 : decode cX6_removesVictims 14 = .ok (.ifCond .le 69, 3) := by decide +kernel
theorem dX6_removesVictims_17 : decode cX6_removesVictims 17 = .ok (.iload_n 2, 1) := by decide +kernel
theorem dX6_removesVictims_18 : decode cX6_removesVictims 18 = .ok (.ifCond .le 59, 3) := by decide +kernel
theorem dX6_removesVictims_21 : decode cX6_removesVictims 21 = .ok (.aload_n 0, 1) := by decide +kernel
theorem dX6_removesVictims_22 : decode cX6_removesVictims 22 = .ok (.getfield 7, 3) := by decide +kernel
theorem dX6_removesVictims_25 : decode cX6_removesVictims 25 = .ok (.iload_n 3, 1) := by decide +kernel
theorem dX6_removesVictims_26 : decode cX6_removesVictims 26 = .ok (.bipush 12, 2) := by decide +kernel
theorem dX6_removesVictims_28 : decode cX6_removesVictims 28 = .ok (.invokestatic 48, 3) := by decide +kernel
theorem dX6_removesVictims_31 : decode cX6_removesVictims 31 = .ok (.iaload, 1) := by decide +kernel
theorem dX6_removesVictims_32 : decode cX6_removesVictims 32 = .ok (.ifCond .le 45, 3) := by decide +kernel
theorem dX6_removesVictims_35 : decode cX6_removesVictims 35 = .ok (.aload_n 0, 1) := by decide +kernel
theorem dX6_removesVictims_36 : decode cX6_removesVictims 36 = .ok (.iload_n 3, 1) := by decide +kernel
theorem dX6_removesVictims_37 : decode cX6_removesVictims 37 = .ok (.aload_n 0, 1) := by decide +kernel
theorem dX6_removesVictims_38 : decode cX6_removesVictims 38 = .ok (.getfield 7, 3) := by decide +kernel
theorem dX6_removesVictims_41 : decode cX6_removesVictims 41 = .ok (.iload_n 3, 1) := by decide +kernel
theorem dX6_removesVictims_42 : decode cX6_removesVictims 42 = .ok (.bipush 12, 2) := by decide +kernel
theorem dX6_removesVictims_44 : decode cX6_removesVictims 44 = .ok (.invokestatic 48, 3) := by decide +kernel
theorem dX6_removesVictims_47 : decode cX6_removesVictims 47 = .ok (.iaload, 1) := by decide +kernel
theorem dX6_removesVictims_48 : decode cX6_removesVictims 48 = .ok (.iconst 1, 1) := by decide +kernel
theorem dX6_removesVictims_49 : decode cX6_removesVictims 49 = .ok (.isub, 1) := by decide +kernel
theorem dX6_removesVictims_50 : decode cX6_removesVictims 50 = .ok (.invokevirtual 132, 3) := by decide +kernel
theorem dX6_removesVictims_53 : decode cX6_removesVictims 53 = .ok (.istore 4, 2) := by decide +kernel
theorem dX6_removesVictims_55 : decode cX6_removesVictims 55 = .ok (.aload_n 0, 1) := by decide +kernel
theorem dX6_removesVictims_56 : decode cX6_removesVictims 56 = .ok (.iload_n 3, 1) := by decide +kernel
theorem dX6_removesVictims_57 : decode cX6_removesVictims 57 = .ok (.invokevirtual 135, 3) := by decide +kernel
theorem dX6_removesVictims_60 : decode cX6_removesVictims 60 = .ok (.aload_n 0, 1) := by decide +kernel
theorem dX6_removesVictims_61 : decode cX6_removesVictims 61 = .ok (.iload_n 1, 1) := by decide +kernel
theorem dX6_removesVictims_62 : decode cX6_removesVictims 62 = .ok (.iconst 3, 1) := by decide +kernel
theorem dX6_removesVictims_63 : decode cX6_removesVictims 63 = .ok (.idiv, 1) := by decide +kernel
theorem dX6_removesVictims_64 : decode cX6_removesVictims 64 = .ok (.bipush 8, 2) := by decide +kernel
theorem dX6_removesVictims_66 : decode cX6_removesVictims 66 = .ok (.iload 4, 2) := by decide +kernel
theorem dX6_removesVictims_68 : decode cX6_removesVictims 68 = .ok (.invokevirtual 138, 3) := by decide +kernel
theorem dX6_removesVictims_71 : decode cX6_removesVictims 71 = .ok (.iinc 2 (-1), 3) := by decide +kernel
theorem dX6_removesVictims_74 : decode cX6_removesVictims 74 = .ok (.goto (-57), 3) := by decide +kernel
theorem dX6_removesVictims_77 : decode cX6_removesVictims 77 = .ok (.iinc 3 (-1), 3) := by decide +kernel
theorem dX6_removesVictims_80 : decode cX6_removesVictims 80 = .ok (.goto (-67), 3) := by decide +kernel
theorem dX6_removesVictims_83 : decode cX6_removesVictims 83 = .ok (.return_, 1) := by decide +kernel
theorem dX6_arrives_0 : decode cX6_arrives 0 = .ok (.aload_n 0, 1) := by decide +kernel
theorem dX6_arrives_1 : decode cX6_arrives 1 = .ok (.iload_n 1, 1) := by decide +kernel
theorem dX6_arrives_2 : decode cX6_arrives 2 = .ok (.iload_n 2, 1) := by decide +kernel
theorem dX6_arrives_3 : decode cX6_arrives 3 = .ok (.invokevirtual 142, 3) := by decide +kernel
theorem dX6_arrives_6 : decode cX6_arrives 6 = .ok (.istore_n 3, 1) := by decide +kernel
theorem dX6_arrives_7 : decode cX6_arrives 7 = .ok (.iload_n 3, 1) := by decide +kernel
theorem dX6_arrives_8 : decode cX6_arrives 8 = .ok (.ifCond .ne 80, 3) := by decide +kernel
theorem dX6_arrives_11 : decode cX6_arrives 11 = .ok (.aload_n 0, 1) := by decide +kernel
theorem dX6_arrives_12 : decode cX6_arrives 12 = .ok (.getfield 7, 3) := by decide +kernel
theorem dX6_arrives_15 : decode cX6_arrives 15 = .ok (.iconst 5, 1) := by decide +kernel
theorem dX6_arrives_16 : decode cX6_arrives 16 = .ok (.iconst 1, 1) := by decide +kernel
theorem dX6_arrives_17 : decode cX6_arrives 17 = .ok (.iastore, 1) := by decide +kernel
theorem dX6_arrives_18 : decode cX6_arrives 18 = .ok (.iconst 0, 1) := by decide +kernel
theorem dX6_arrives_19 : decode cX6_arrives 19 = .ok (.istore 4, 2) := by decide +kernel
theorem dX6_arrives_21 : decode cX6_arrives 21 = .ok (.iload 4, 2) := by decide +kernel
theorem dX6_arrives_23 : decode cX6_arrives 23 = .ok (.iconst 4, 1) := by decide +kernel
theorem dX6_arrives_24 : decode cX6_arrives 24 = .ok (.if_icmp .ge 28, 3) := by decide +kernel
theorem dX6_arrives_27 : decode cX6_arrives 27 = .ok (.aload_n 0, 1) := by decide +kernel
theorem dX6_arrives_28 : decode cX6_arrives 28 = .ok (.getfield 7, 3) := by decide +kernel
theorem dX6_arrives_31 : decode cX6_arrives 31 = .ok (.bipush 6, 2) := by decide +kernel
theorem dX6_arrives_33 : decode cX6_arrives 33 = .ok (.iload 4, 2) := by decide +kernel
theorem dX6_arrives_35 : decode cX6_arrives 35 = .ok (.iadd, 1) := by decide +kernel
theorem dX6_arrives_36 : decode cX6_arrives 36 = .ok (.aload_n 0, 1) := by decide +kernel
theorem dX6_arrives_37 : decode cX6_arrives 37 = .ok (.getfield 26, 3) := by decide +kernel
theorem dX6_arrives_40 : decode cX6_arrives 40 = .ok (.iconst 4, 1) := by decide +kernel
theorem dX6_arrives_41 : decode cX6_arrives 41 = .ok (.iload 4, 2) := by decide +kernel
theorem dX6_arrives_43 : decode cX6_arrives 43 = .ok (.isub, 1) := by decide +kernel
theorem dX6_arrives_44 : decode cX6_arrives 44 = .ok (.iaload, 1) := by decide +kernel
theorem dX6_arrives_45 : decode cX6_arrives 45 = .ok (.iastore, 1) := by decide +kernel
theorem dX6_arrives_46 : decode cX6_arrives 46 = .ok (.iinc 4 1, 3) := by decide +kernel
theorem dX6_arrives_49 : decode cX6_arrives 49 = .ok (.goto (-28), 3) := by decide +kernel
theorem dX6_arrives_52 : decode cX6_arrives 52 = .ok (.aload_n 0, 1) := by decide +kernel
theorem dX6_arrives_53 : decode cX6_arrives 53 = .ok (.iload_n 1, 1) := by decide +kernel
theorem dX6_arrives_54 : decode cX6_arrives 54 = .ok (.iconst 3, 1) := by decide +kernel
theorem dX6_arrives_55 : decode cX6_arrives 55 = .ok (.idiv, 1) := by decide +kernel
theorem dX6_arrives_56 : decode cX6_arrives 56 = .ok (.aload_n 0, 1) := by decide +kernel
theorem dX6_arrives_57 : decode cX6_arrives 57 = .ok (.getfield 7, 3) := by decide +kernel
theorem dX6_arrives_60 : decode cX6_arrives 60 = .ok (.iload_n 1, 1) := by decide +kernel
theorem dX6_arrives_61 : decode cX6_arrives 61 = .ok (.bipush 9, 2) := by decide +kernel
theorem dX6_arrives_63 : decode cX6_arrives 63 = .ok (.invokestatic 48, 3) := by decide +kernel
theorem dX6_arrives_66 : decode cX6_arrives 66 = .ok (.iaload, 1) := by decide +kernel
theorem dX6_arrives_67 : decode cX6_arrives 67 = .ok (.iconst 1, 1) := by decide +kernel
theorem dX6_arrives_68 : decode cX6_arrives 68 = .ok (.if_icmp .ne 7, 3) := by decide +kernel
theorem dX6_arrives_71 : decode cX6_arrives 71 = .ok (.iconst 5, 1) := by decide +kernel
theorem dX6_arrives_72 : decode cX6_arrives 72 = .ok (.goto 9, 3) := by decide +kernel
theorem dX6_arrives_75 : decode cX6_arrives 75 = .ok (.aload_n 0, 1) := by decide +kernel
theorem dX6_arrives_76 : decode cX6_arrives 76 = .ok (.getfield 26, 3) := by decide +kernel
theorem dX6_arrives_79 : decode cX6_arrives 79 = .ok (.iconst 2, 1) := by decide +kernel
theorem dX6_arrives_80 : decode cX6_arrives 80 = .ok (.iaload, 1) := by decide +kernel
theorem dX6_arrives_81 : decode cX6_arrives 81 = .ok (.iload_n 2, 1) := by decide +kernel
theorem dX6_arrives_82 : decode cX6_arrives 82 = .ok (.invokevirtual 138, 3) := by decide +kernel
theorem dX6_arrives_85 : decode cX6_arrives 85 = .ok (.bipush (-6), 2) := by decide +kernel
theorem dX6_arrives_87 : decode cX6_arrives 87 = .ok (.ireturn, 1) := by decide +kernel
theorem dX6_arrives_88 : decode cX6_arrives 88 = .ok (.iload_n 3, 1) := by decide +kernel
theorem dX6_arrives_89 : decode cX6_arrives 89 = .ok (.iconst 4, 1) := by decide +kernel
theorem dX6_arrives_90 : decode cX6_arrives 90 = .ok (.if_icmp .ne 15, 3) := by decide +kernel
theorem dX6_arrives_93 : decode cX6_arrives 93 = .ok (.aload_n 0, 1) := by decide +kernel
theorem dX6_arrives_94 : decode cX6_arrives 94 = .ok (.iload_n 1, 1) := by decide +kernel
theorem dX6_arrives_95 : decode cX6_arrives 95 = .ok (.invokevirtual 145, 3) := by decide +kernel
theorem dX6_arrives_98 : decode cX6_arrives 98 = .ok (.aload_n 0, 1) := by decide +kernel
theorem dX6_arrives_99 : decode cX6_arrives 99 = .ok (.iload_n 1, 1) := by decide +kernel
theorem dX6_arrives_100 : decode cX6_arrives 100 = .ok (.iload_n 2, 1) := by decide +kernel
theorem dX6_arrives_101 : decode cX6_arrives 101 = .ok (.invokevirtual 116, 3) := by decide +kernel
theorem dX6_arrives_104 : decode cX6_arrives 104 = .ok (.istore_n 3, 1) := by decide +kernel
theorem dX6_arrives_105 : decode cX6_arrives 105 = .ok (.aload_n 0, 1) := by decide +kernel
theorem dX6_arrives_106 : decode cX6_arrives 106 = .ok (.iload_n 1, 1) := by decide +kernel
theorem dX6_arrives_107 : decode cX6_arrives 107 = .ok (.iload_n 2, 1) := by decide +kernel
end
section
theorem dX6_arrives_108 : decode cX6_arrives 108 = .ok (.iload_n 3, 1) := by decide +kernel
theorem dX6_arrives_109 : decode cX6_arrives 109 = .ok (.invokevirtual 148, 3) := by decide +kernel
theorem dX6_arrives_112 : decode cX6_arrives 112 = .ok (.aload_n 0, 1) := by decide +kernel
theorem dX6_arrives_113 : decode cX6_arrives 113 = .ok (.iload_n 1, 1) := by decide +kernel
theorem dX6_arrives_114 : decode cX6_arrives 114 = .ok (.iload_n 2, 1) := by decide +kernel
theorem dX6_arrives_115 : decode cX6_arrives 115 = .ok (.invokevirtual 151, 3) := by decide +kernel
theorem dX6_arrives_118 : decode cX6_arrives 118 = .ok (.aload_n 0, 1) := by decide +kernel
theorem dX6_arrives_119 : decode cX6_arrives 119 = .ok (.getfield 7, 3) := by decide +kernel
theorem dX6_arrives_122 : decode cX6_arrives 122 = .ok (.iconst 4, 1) := by decide +kernel
theorem dX6_arrives_123 : decode cX6_arrives 123 = .ok (.iaload, 1) := by decide +kernel
theorem dX6_arrives_124 : decode cX6_arrives 124 = .ok (.iconst 1, 1) := by decide +kernel
theorem dX6_arrives_125 : decode cX6_arrives 125 = .ok (.isub, 1) := by decide +kernel
theorem dX6_arrives_126 : decode cX6_arrives 126 = .ok (.ireturn, 1) := by decide +kernel
theorem dX6_arrive_0 : decode cX6_arrive 0 = .ok (.aload_n 0, 1) := by decide +kernel
theorem dX6_arrive_1 : decode cX6_arrive 1 = .ok (.iload_n 1, 1) := by decide +kernel
theorem dX6_arrive_2 : decode cX6_arrive 2 = .ok (.iload_n 2, 1) := by decide +kernel
theorem dX6_arrive_3 : decode cX6_arrive 3 = .ok (.invokevirtual 75, 3) := by decide +kernel
theorem dX6_arrive_6 : decode cX6_arrive 6 = .ok (.ifCond .ne 5, 3) := by decide +kernel
theorem dX6_arrive_9 : decode cX6_arrive 9 = .ok (.iconst (-1), 1) := by decide +kernel
theorem dX6_arrive_10 : decode cX6_arrive 10 = .ok (.ireturn, 1) := by decide +kernel
theorem dX6_arrive_11 : decode cX6_arrive 11 = .ok (.iload_n 3, 1) := by decide +kernel
theorem dX6_arrive_12 : decode cX6_arrive 12 = .ok (.iconst 1, 1) := by decide +kernel
theorem dX6_arrive_13 : decode cX6_arrive 13 = .ok (.bipush 12, 2) := by decide +kernel
theorem dX6_arrive_15 : decode cX6_arrive 15 = .ok (.invokestatic 36, 3) := by decide +kernel
theorem dX6_arrive_18 : decode cX6_arrive 18 = .ok (.ifCond .eq 16, 3) := by decide +kernel
theorem dX6_arrive_21 : decode cX6_arrive 21 = .ok (.aload_n 0, 1) := by decide +kernel
theorem dX6_arrive_22 : decode cX6_arrive 22 = .ok (.iconst 3, 1) := by decide +kernel
theorem dX6_arrive_23 : decode cX6_arrive 23 = .ok (.iload_n 1, 1) := by decide +kernel
theorem dX6_arrive_24 : decode cX6_arrive 24 = .ok (.imul, 1) := by decide +kernel
theorem dX6_arrive_25 : decode cX6_arrive 25 = .ok (.iload_n 2, 1) := by decide +kernel
theorem dX6_arrive_26 : decode cX6_arrive 26 = .ok (.iadd, 1) := by decide +kernel
theorem dX6_arrive_27 : decode cX6_arrive 27 = .ok (.iload_n 3, 1) := by decide +kernel
theorem dX6_arrive_28 : decode cX6_arrive 28 = .ok (.invokevirtual 154, 3) := by decide +kernel
theorem dX6_arrive_31 : decode cX6_arrive 31 = .ok (.goto 5, 3) := by decide +kernel
theorem dX6_arrive_34 : decode cX6_arrive 34 = .ok (.bipush (-2), 2) := by decide +kernel
theorem dX6_arrive_36 : decode cX6_arrive 36 = .ok (.ireturn, 1) := by decide +kernel
theorem dX6_firstSize_0 : decode cX6_firstSize 0 = .ok (.aload_n 0, 1) := by decide +kernel
theorem dX6_firstSize_1 : decode cX6_firstSize 1 = .ok (.getfield 7, 3) := by decide +kernel
theorem dX6_firstSize_4 : decode cX6_firstSize 4 = .ok (.aload_n 0, 1) := by decide +kernel
theorem dX6_firstSize_5 : decode cX6_firstSize 5 = .ok (.getfield 7, 3) := by decide +kernel
theorem dX6_firstSize_8 : decode cX6_firstSize 8 = .ok (.iload_n 1, 1) := by decide +kernel
theorem dX6_firstSize_9 : decode cX6_firstSize 9 = .ok (.iconst 0, 1) := by decide +kernel
theorem dX6_firstSize_10 : decode cX6_firstSize 10 = .ok (.invokestatic 107, 3) := by decide +kernel
theorem dX6_firstSize_13 : decode cX6_firstSize 13 = .ok (.iaload, 1) := by decide +kernel
theorem dX6_firstSize_14 : decode cX6_firstSize 14 = .ok (.iconst 1, 1) := by decide +kernel
theorem dX6_firstSize_15 : decode cX6_firstSize 15 = .ok (.invokestatic 92, 3) := by decide +kernel
theorem dX6_firstSize_18 : decode cX6_firstSize 18 = .ok (.iaload, 1) := by decide +kernel
theorem dX6_firstSize_19 : decode cX6_firstSize 19 = .ok (.ireturn, 1) := by decide +kernel
theorem dX6_departs_0 : decode cX6_departs 0 = .ok (.aload_n 0, 1) := by decide +kernel
theorem dX6_departs_1 : decode cX6_departs 1 = .ok (.iload_n 2, 1) := by decide +kernel
theorem dX6_departs_2 : decode cX6_departs 2 = .ok (.iconst 0, 1) := by decide +kernel
theorem dX6_departs_3 : decode cX6_departs 3 = .ok (.invokevirtual 132, 3) := by decide +kernel
theorem dX6_departs_6 : decode cX6_departs 6 = .ok (.istore_n 3, 1) := by decide +kernel
theorem dX6_departs_7 : decode cX6_departs 7 = .ok (.aload_n 0, 1) := by decide +kernel
theorem dX6_departs_8 : decode cX6_departs 8 = .ok (.getfield 7, 3) := by decide +kernel
theorem dX6_departs_11 : decode cX6_departs 11 = .ok (.iload_n 1, 1) := by decide +kernel
theorem dX6_departs_12 : decode cX6_departs 12 = .ok (.iconst 4, 1) := by decide +kernel
theorem dX6_departs_13 : decode cX6_departs 13 = .ok (.invokestatic 44, 3) := by decide +kernel
theorem dX6_departs_16 : decode cX6_departs 16 = .ok (.dup2, 1) := by decide +kernel
theorem dX6_departs_17 : decode cX6_departs 17 = .ok (.iaload, 1) := by decide +kernel
theorem dX6_departs_18 : decode cX6_departs 18 = .ok (.iload_n 3, 1) := by decide +kernel
theorem dX6_departs_19 : decode cX6_departs 19 = .ok (.isub, 1) := by decide +kernel
theorem dX6_departs_20 : decode cX6_departs 20 = .ok (.iastore, 1) := by decide +kernel
theorem dX6_departs_21 : decode cX6_departs 21 = .ok (.aload_n 0, 1) := by decide +kernel
theorem dX6_departs_22 : decode cX6_departs 22 = .ok (.getfield 7, 3) := by decide +kernel
theorem dX6_departs_25 : decode cX6_departs 25 = .ok (.iload_n 1, 1) := by decide +kernel
theorem dX6_departs_26 : decode cX6_departs 26 = .ok (.bipush 9, 2) := by decide +kernel
theorem dX6_departs_28 : decode cX6_departs 28 = .ok (.invokestatic 44, 3) := by decide +kernel
theorem dX6_departs_31 : decode cX6_departs 31 = .ok (.dup2, 1) := by decide +kernel
theorem dX6_departs_32 : decode cX6_departs 32 = .ok (.iaload, 1) := by decide +kernel
theorem dX6_departs_33 : decode cX6_departs 33 = .ok (.iconst 1, 1) := by decide +kernel
theorem dX6_departs_34 : decode cX6_departs 34 = .ok (.iadd, 1) := by decide +kernel
theorem dX6_departs_35 : decode cX6_departs 35 = .ok (.iastore, 1) := by decide +kernel
theorem dX6_departs_36 : decode cX6_departs 36 = .ok (.return_, 1) := by decide +kernel
theorem dX6_sends_0 : decode cX6_sends 0 = .ok (.iconst 0, 1) := by decide +kernel
theorem dX6_sends_1 : decode cX6_sends 1 = .ok (.istore_n 2, 1) := by decide +kernel
theorem dX6_sends_2 : decode cX6_sends 2 = .ok (.aload_n 0, 1) := by decide +kernel
theorem dX6_sends_3 : decode cX6_sends 3 = .ok (.iload_n 1, 1) := by decide +kernel
theorem dX6_sends_4 : decode cX6_sends 4 = .ok (.invokevirtual 110, 3) := by decide +kernel
theorem dX6_sends_7 : decode cX6_sends 7 = .ok (.ifCond .ne 5, 3) := by decide +kernel
theorem dX6_sends_10 : decode cX6_sends 10 = .ok (.iconst 0, 1) := by decide +kernel
theorem dX6_sends_11 : decode cX6_sends 11 = .ok (.ireturn, 1) := by decide +kernel
theorem dX6_sends_12 : decode cX6_sends 12 = .ok (.aload_n 0, 1) := by decide +kernel
theorem dX6_sends_13 : decode cX6_sends 13 = .ok (.getfield 7, 3) := by decide +kernel
theorem dX6_sends_16 : decode cX6_sends 16 = .ok (.iload_n 1, 1) := by decide +kernel
theorem dX6_sends_17 : decode cX6_sends 17 = .ok (.iconst 4, 1) := by decide +kernel
theorem dX6_sends_18 : decode cX6_sends 18 = .ok (.invokestatic 44, 3) := by decide +kernel
theorem dX6_sends_21 : decode cX6_sends 21 = .ok (.dup2, 1) := by decide +kernel
theorem dX6_sends_22 : decode cX6_sends 22 = .ok (.iaload, 1) := by decide +kernel
theorem dX6_sends_23 : decode cX6_sends 23 = .ok (.aload_n 0, 1) := by decide +kernel
theorem dX6_sends_24 : decode cX6_sends 24 = .ok (.getfield 7, 3) := by decide +kernel
theorem dX6_sends_27 : decode cX6_sends 27 = .ok (.iload_n 1, 1) := by decide +kernel
theorem dX6_sends_28 : decode cX6_sends 28 = .ok (.iconst 5, 1) := by decide +kernel
theorem dX6_sends_29 : decode cX6_sends 29 = .ok (.invokestatic 44, 3) := by decide +kernel
theorem dX6_sends_32 : decode cX6_sends 32 = .ok (.iaload, 1) := by decide +kernel
theorem dX6_sends_33 : decode cX6_sends 33 = .ok (.iadd, 1) := by decide +kernel
theorem dX6_sends_34 : decode cX6_sends 34 = .ok (.iastore, 1) := by decide +kernel
theorem dX6_sends_35 : decode cX6_sends 35 = .ok (.iconst 1, 1) := by decide +kernel
theorem dX6_sends_36 : decode cX6_sends 36 = .ok (.istore_n 3, 1) := by decide +kernel
theorem dX6_sends_37 : decode cX6_sends 37 = .ok (.iload_n 3, 1) := by decide +kernel
theorem dX6_sends_38 : decode cX6_sends 38 = .ok (.ifCond .eq 323, 3) := by decide +kernel
theorem dX6_sends_41 : decode cX6_sends 41 = .ok (.aload_n 0, 1) := by decide +kernel
theorem dX6_sends_42 : decode cX6_sends 42 = .ok (.iload_n 1, 1) := by decide +kernel
theorem dX6_sends_43 : decode cX6_sends 43 = .ok (.invokevirtual 110, 3) := by decide +kernel
theorem dX6_sends_46 : decode cX6_sends 46 = .ok (.ifCond .eq 315, 3) := by decide +kernel
theorem dX6_sends_49 : decode cX6_sends 49 = .ok (.aload_n 0, 1) := by decide +kernel
theorem dX6_sends_50 : decode cX6_sends 50 = .ok (.getfield 7, 3) := by decide +kernel
theorem dX6_sends_53 : decode cX6_sends 53 = .ok (.iload_n 1, 1) := by decide +kernel
theorem dX6_sends_54 : decode cX6_sends 54 = .ok (.bipush 8, 2) := by decide +kernel
theorem dX6_sends_56 : decode cX6_sends 56 = .ok (.invokestatic 44, 3) := by decide +kernel
theorem dX6_sends_59 : decode cX6_sends 59 = .ok (.iaload, 1) := by decide +kernel
theorem dX6_sends_60 : decode cX6_sends 60 = .ok (.iconst 1, 1) := by decide +kernel
theorem dX6_sends_61 : decode cX6_sends 61 = .ok (.if_icmp .ne 226, 3) := by decide +kernel
theorem dX6_sends_64 : decode cX6_sends 64 = .ok (.iconst 3, 1) := by decide +kernel
theorem dX6_sends_65 : decode cX6_sends 65 = .ok (.iload_n 1, 1) := by decide +kernel
theorem dX6_sends_66 : decode cX6_sends 66 = .ok (.imul, 1) := by decide +kernel
theorem dX6_sends_67 : decode cX6_sends 67 = .ok (.aload_n 0, 1) := by decide +kernel
theorem dX6_sends_68 : decode cX6_sends 68 = .ok (.getfield 7, 3) := by decide +kernel
theorem dX6_sends_71 : decode cX6_sends 71 = .ok (.iload_n 1, 1) := by decide +kernel
theorem dX6_sends_72 : decode cX6_sends 72 = .ok (.bipush 6, 2) := by decide +kernel
theorem dX6_sends_74 : decode cX6_sends 74 = .ok (.invokestatic 44, 3) := by decide +kernel
theorem dX6_sends_77 : decode cX6_sends 77 = .ok (.iaload, 1) := by decide +kernel
theorem dX6_sends_78 : decode cX6_sends 78 = .ok (.iadd, 1) := by decide +kernel
theorem dX6_sends_79 : decode cX6_sends 79 = .ok (.istore 4, 2) := by decide +kernel
theorem dX6_sends_81 : decode cX6_sends 81 = .ok (.aload_n 0, 1) := by decide +kernel
theorem dX6_sends_82 : decode cX6_sends 82 = .ok (.getfield 7, 3) := by decide +kernel
theorem dX6_sends_85 : decode cX6_sends 85 = .ok (.iload 4, 2) := by decide +kernel
theorem dX6_sends_87 : decode cX6_sends 87 = .ok (.bipush 12, 2) := by decide +kernel
theorem dX6_sends_89 : decode cX6_sends 89 = .ok (.invokestatic 48, 3) := by decide +kernel
theorem dX6_sends_92 : decode cX6_sends 92 = .ok (.iaload, 1) := by decide +kernel
theorem dX6_sends_93 : decode cX6_sends 93 = .ok (.ifCond .le 55, 3) := by decide +kernel
theorem dX6_sends_96 : decode cX6_sends 96 = .ok (.aload_n 0, 1) := by decide +kernel
theorem dX6_sends_97 : decode cX6_sends 97 = .ok (.getfield 7, 3) := by decide +kernel
theorem dX6_sends_100 : decode cX6_sends 100 = .ok (.iload_n 1, 1) := by decide +kernel
theorem dX6_sends_101 : decode cX6_sends 101 = .ok (.bipush 7, 2) := by decide +kernel
theorem dX6_sends_103 : decode cX6_sends 103 = .ok (.invokestatic 44, 3) := by decide +kernel
theorem dX6_sends_106 : decode cX6_sends 106 = .ok (.iaload, 1) := by decide +kernel
theorem dX6_sends_107 : decode cX6_sends 107 = .ok (.iconst 1, 1) := by decide +kernel
theorem dX6_sends_108 : decode cX6_sends 108 = .ok (.if_icmp .ne 40, 3) := by decide +kernel
theorem dX6_sends_111 : decode cX6_sends 111 = .ok (.aload_n 0, 1) := by decide +kernel
theorem dX6_sends_112 : decode cX6_sends 112 = .ok (.getfield 7, 3) := by decide +kernel
theorem dX6_sends_115 : decode cX6_sends 115 = .ok (.iload 4, 2) := by decide +kernel
theorem dX6_sends_117 : decode cX6_sends 117 = .ok (.iconst 5, 1) := by decide +kernel
theorem dX6_sends_118 : decode cX6_sends 118 = .ok (.invokestatic 48, 3) := by decide +kernel
theorem dX6_sends_121 : decode cX6_sends 121 = .ok (.dup2, 1) := by decide +kernel
theorem dX6_sends_122 : decode cX6_sends 122 = .ok (.iaload, 1) := by decide +kernel
theorem dX6_sends_123 : decode cX6_sends 123 = .ok (.aload_n 0, 1) := by decide +kernel
theorem dX6_sends_124 : decode cX6_sends 124 = .ok (.getfield 7, 3) := by decide +kernel
theorem dX6_sends_127 : decode cX6_sends 127 = .ok (.iload 4, 2) := by decide +kernel
theorem dX6_sends_129 : decode cX6_sends 129 = .ok (.iconst 4, 1) := by decide +kernel
theorem dX6_sends_130 : decode cX6_sends 130 = .ok (.invokestatic 48, 3) := by decide +kernel
theorem dX6_sends_133 : decode cX6_sends 133 = .ok (.iaload, 1) := by decide +kernel
theorem dX6_sends_134 : decode cX6_sends 134 = .ok (.iadd, 1) := by decide +kernel
theorem dX6_sends_135 : decode cX6_sends 135 = .ok (.iastore, 1) := by decide +kernel
theorem dX6_sends_136 : decode cX6_sends 136 = .ok (.aload_n 0, 1) := by decide +kernel
theorem dX6_sends_137 : decode cX6_sends 137 = .ok (.getfield 7, 3) := by decide +kernel
theorem dX6_sends_140 : decode cX6_sends 140 = .ok (.iload_n 1, 1) := by decide +kernel
theorem dX6_sends_141 : decode cX6_sends 141 = .ok (.bipush 7, 2) := by decide +kernel
theorem dX6_sends_143 : decode cX6_sends 143 = .ok (.invokestatic 44, 3) := by decide +kernel
theorem dX6_sends_146 : decode cX6_sends 146 = .ok (.iconst 0, 1) := by decide +kernel
theorem dX6_sends_147 : decode cX6_sends 147 = .ok (.iastore, 1) := by decide +kernel
theorem dX6_sends_148 : decode cX6_sends 148 = .ok (.aload_n 0, 1) := by decide +kernel
theorem dX6_sends_149 : decode cX6_sends 149 = .ok (.getfield 7, 3) := by decide +kernel
theorem dX6_sends_152 : decode cX6_sends 152 = .ok (.iload 4, 2) := by decide +kernel
theorem dX6_sends_154 : decode cX6_sends 154 = .ok (.bipush 12, 2) := by decide +kernel
theorem dX6_sends_156 : decode cX6_sends 156 = .ok (.invokestatic 48, 3) := by decide +kernel
theorem dX6_sends_159 : decode cX6_sends 159 = .ok (.iaload, 1) := by decide +kernel
theorem dX6_sends_160 : decode cX6_sends 160 = .ok (.ifCond .eq 23, 3) := by decide +kernel
theorem dX6_sends_163 : decode cX6_sends 163 = .ok (.aload_n 0, 1) := by decide +kernel
theorem dX6_sends_164 : decode cX6_sends 164 = .ok (.iload 4, 2) := by decide +kernel
theorem dX6_sends_166 : decode cX6_sends 166 = .ok (.invokevirtual 157, 3) := by decide +kernel
theorem dX6_sends_169 : decode cX6_sends 169 = .ok (.aload_n 0, 1) := by decide +kernel
theorem dX6_sends_170 : decode cX6_sends 170 = .ok (.getfield 7, 3) := by decide +kernel
theorem dX6_sends_173 : decode cX6_sends 173 = .ok (.iload 4, 2) := by decide +kernel
theorem dX6_sends_175 : decode cX6_sends 175 = .ok (.iconst 5, 1) := by decide +kernel
theorem dX6_sends_176 : decode cX6_sends 176 = .ok (.invokestatic 48, 3) := by decide +kernel
theorem dX6_sends_179 : decode cX6_sends 179 = .ok (.iaload, 1) := by decide +kernel
theorem dX6_sends_180 : decode cX6_sends 180 = .ok (.if_icmp .le 44, 3) := by decide +kernel
theorem dX6_sends_183 : decode cX6_sends 183 = .ok (.aload_n 0, 1) := by decide +kernel
theorem dX6_sends_184 : decode cX6_sends 184 = .ok (.getfield 7, 3) := by decide +kernel
theorem dX6_sends_187 : decode cX6_sends 187 = .ok (.iload_n 1, 1) := by decide +kernel
theorem dX6_sends_188 : decode cX6_sends 188 = .ok (.bipush 6, 2) := by decide +kernel
theorem dX6_sends_190 : decode cX6_sends 190 = .ok (.invokestatic 44, 3) := by decide +kernel
theorem dX6_sends_193 : decode cX6_sends 193 = .ok (.aload_n 0, 1) := by decide +kernel
theorem dX6_sends_194 : decode cX6_sends 194 = .ok (.getfield 7, 3) := by decide +kernel
theorem dX6_sends_197 : decode cX6_sends 197 = .ok (.iload_n 1, 1) := by decide +kernel
theorem dX6_sends_198 : decode cX6_sends 198 = .ok (.bipush 6, 2) := by decide +kernel
theorem dX6_sends_200 : decode cX6_sends 200 = .ok (.invokestatic 44, 3) := by decide +kernel
theorem dX6_sends_203 : decode cX6_sends 203 = .ok (.iaload, 1) := by decide +kernel
theorem dX6_sends_204 : decode cX6_sends 204 = .ok (.iconst 1, 1) := by decide +kernel
theorem dX6_sends_205 : decode cX6_sends 205 = .ok (.iadd, 1) := by decide +kernel
theorem dX6_sends_206 : decode cX6_sends 206 = .ok (.iconst 3, 1) := by decide +kernel
theorem dX6_sends_207 : decode cX6_sends 207 = .ok (.irem, 1) := by decide +kernel
theorem dX6_sends_208 : decode cX6_sends 208 = .ok (.iastore, 1) := by decide +kernel
theorem dX6_sends_209 : decode cX6_sends 209 = .ok (.aload_n 0, 1) := by decide +kernel
theorem dX6_sends_210 : decode cX6_sends 210 = .ok (.getfield 7, 3) := by decide +kernel
theorem dX6_sends_213 : decode cX6_sends 213 = .ok (.iload_n 1, 1) := by decide +kernel
theorem dX6_sends_214 : decode cX6_sends 214 = .ok (.bipush 7, 2) := by decide +kernel
theorem dX6_sends_216 : decode cX6_sends 216 = .ok (.invokestatic 44, 3) := by decide +kernel
theorem dX6_sends_219 : decode cX6_sends 219 = .ok (.iconst 1, 1) := by decide +kernel
theorem dX6_sends_220 : decode cX6_sends 220 = .ok (.iastore, 1) := by decide +kernel
theorem dX6_sends_221 : decode cX6_sends 221 = .ok (.goto 63, 3) := by decide +kernel
theorem dX6_sends_224 : decode cX6_sends 224 = .ok (.aload_n 0, 1) := by decide +kernel
theorem dX6_sends_225 : decode cX6_sends 225 = .ok (.iload 4, 2) := by decide +kernel
theorem dX6_sends_227 : decode cX6_sends 227 = .ok (.invokevirtual 157, 3) := by decide +kernel
theorem dX6_sends_230 : decode cX6_sends 230 = .ok (.aload_n 0, 1) := by decide +kernel
theorem dX6_sends_231 : decode cX6_sends 231 = .ok (.getfield 7, 3) := by decide +kernel
theorem dX6_sends_234 : decode cX6_sends 234 = .ok (.iload_n 1, 1) := by decide +kernel
theorem dX6_sends_235 : decode cX6_sends 235 = .ok (.iconst 4, 1) := by decide +kernel
theorem dX6_sends_236 : decode cX6_sends 236 = .ok (.invokestatic 44, 3) := by decide +kernel
theorem dX6_sends_239 : decode cX6_sends 239 = .ok (.iaload, 1) := by decide +kernel
theorem dX6_sends_240 : decode cX6_sends 240 = .ok (.if_icmp .le 8, 3) := by decide +kernel
theorem dX6_sends_243 : decode cX6_sends 243 = .ok (.iconst 0, 1) := by decide +kernel
theorem dX6_sends_244 : decode cX6_sends 244 = .ok (.istore_n 3, 1) := by decide +kernel
theorem dX6_sends_245 : decode cX6_sends 245 = .ok (.goto 39, 3) := by decide +kernel
theorem dX6_sends_248 : decode cX6_sends 248 = .ok (.aload_n 0, 1) := by decide +kernel
theorem dX6_sends_249 : decode cX6_sends 249 = .ok (.getfield 7, 3) := by decide +kernel
theorem dX6_sends_252 : decode cX6_sends 252 = .ok (.iload 4, 2) := by decide +kernel
theorem dX6_sends_254 : decode cX6_sends 254 = .ok (.iconst 5, 1) := by decide +kernel
theorem dX6_sends_255 : decode cX6_sends 255 = .ok (.invokestatic 48, 3) := by decide +kernel
theorem dX6_sends_258 : decode cX6_sends 258 = .ok (.dup2, 1) := by decide +kernel
theorem dX6_sends_259 : decode cX6_sends 259 = .ok (.iaload, 1) := by decide +kernel
theorem dX6_sends_260 : decode cX6_sends 260 = .ok (.aload_n 0, 1) := by decide +kernel
theorem dX6_sends_261 : decode cX6_sends 261 = .ok (.iload 4, 2) := by decide +kernel
theorem dX6_sends_263 : decode cX6_sends 263 = .ok (.invokevirtual 157, 3) := by decide +kernel
theorem dX6_sends_266 : decode cX6_sends 266 = .ok (.isub, 1) := by decide +kernel
theorem dX6_sends_267 : decode cX6_sends 267 = .ok (.iastore, 1) := by decide +kernel
theorem dX6_sends_268 : decode cX6_sends 268 = .ok (.aload_n 0, 1) := by decide +kernel
theorem dX6_sends_269 : decode cX6_sends 269 = .ok (.iload_n 1, 1) := by decide +kernel
theorem dX6_sends_270 : decode cX6_sends 270 = .ok (.iload 4, 2) := by decide +kernel
theorem dX6_sends_272 : decode cX6_sends 272 = .ok (.invokevirtual 160, 3) := by decide +kernel
theorem dX6_sends_275 : decode cX6_sends 275 = .ok (.aload_n 0, 1) := by decide +kernel
theorem dX6_sends_276 : decode cX6_sends 276 = .ok (.iload 4, 2) := by decide +kernel
theorem dX6_sends_278 : decode cX6_sends 278 = .ok (.invokevirtual 135, 3) := by decide +kernel
theorem dX6_sends_281 : decode cX6_sends 281 = .ok (.iinc 2 1, 3) := by decide +kernel
theorem dX6_sends_284 : decode cX6_sends 284 = .ok (.goto (-247), 3) := by decide +kernel
theorem dX6_sends_287 : decode cX6_sends 287 = .ok (.iconst 3, 1) := by decide +kernel
theorem dX6_sends_288 : decode cX6_sends 288 = .ok (.iload_n 1, 1) := by decide +kernel
theorem dX6_sends_289 : decode cX6_sends 289 = .ok (.imul, 1) := by decide +kernel
theorem dX6_sends_290 : decode cX6_sends 290 = .ok (.istore 4, 2) := by decide +kernel
theorem dX6_sends_292 : decode cX6_sends 292 = .ok (.aload_n 0, 1) := by decide +kernel
theorem dX6_sends_293 : decode cX6_sends 293 = .ok (.getfield 7, 3) := by decide +kernel
theorem dX6_sends_296 : decode cX6_sends 296 = .ok (.iload 4, 2) := by decide +kernel
theorem dX6_sends_298 : decode cX6_sends 298 = .ok (.bipush 12, 2) := by decide +kernel
theorem dX6_sends_300 : decode cX6_sends 300 = .ok (.invokestatic 48, 3) := by decide +kernel
theorem dX6_sends_303 : decode cX6_sends 303 = .ok (.iaload, 1) := by decide +kernel
theorem dX6_sends_304 : decode cX6_sends 304 = .ok (.ifCond .ne 9, 3) := by decide +kernel
theorem dX6_sends_307 : decode cX6_sends 307 = .ok (.iinc 4 1, 3) := by decide +kernel
theorem dX6_sends_310 : decode cX6_sends 310 = .ok (.goto (-18), 3) := by decide +kernel
theorem dX6_sends_313 : decode cX6_sends 313 = .ok (.aload_n 0, 1) := by decide +kernel
theorem dX6_sends_314 : decode cX6_sends 314 = .ok (.iload 4, 2) := by decide +kernel
theorem dX6_sends_316 : decode cX6_sends 316 = .ok (.invokevirtual 157, 3) := by decide +kernel
theorem dX6_sends_319 : decode cX6_sends 319 = .ok (.aload_n 0, 1) := by decide +kernel
theorem dX6_sends_320 : decode cX6_sends 320 = .ok (.getfield 7, 3) := by decide +kernel
theorem dX6_sends_323 : decode cX6_sends 323 = .ok (.iload_n 1, 1) := by decide +kernel
theorem dX6_sends_324 : decode cX6_sends 324 = .ok (.iconst 4, 1) := by decide +kernel
theorem dX6_sends_325 : decode cX6_sends 325 = .ok (.invokestatic 44, 3) := by decide +kernel
theorem dX6_sends_328 : decode cX6_sends 328 = .ok (.iaload, 1) := by decide +kernel
theorem dX6_sends_329 : decode cX6_sends 329 = .ok (.if_icmp .gt 7, 3) := by decide +kernel
theorem dX6_sends_332 : decode cX6_sends 332 = .ok (.iconst 1, 1) := by decide +kernel
theorem dX6_sends_333 : decode cX6_sends 333 = .ok (.goto 4, 3) := by decide +kernel
theorem dX6_sends_336 : decode cX6_sends 336 = .ok (.iconst 0, 1) := by decide +kernel
theorem dX6_sends_337 : decode cX6_sends 337 = .ok (.istore_n 3, 1) := by decide +kernel
theorem dX6_sends_338 : decode cX6_sends 338 = .ok (.iload_n 3, 1) := by decide +kernel
theorem dX6_sends_339 : decode cX6_sends 339 = .ok (.ifCond .eq 19, 3) := by decide +kernel
theorem dX6_sends_342 : decode cX6_sends 342 = .ok (.aload_n 0, 1) := by decide +kernel
theorem dX6_sends_343 : decode cX6_sends 343 = .ok (.iload_n 1, 1) := by decide +kernel
theorem dX6_sends_344 : decode cX6_sends 344 = .ok (.iload 4, 2) := by decide +kernel
theorem dX6_sends_346 : decode cX6_sends 346 = .ok (.invokevirtual 160, 3) := by decide +kernel
theorem dX6_sends_349 : decode cX6_sends 349 = .ok (.aload_n 0, 1) := by decide +kernel
theorem dX6_sends_350 : decode cX6_sends 350 = .ok (.iload 4, 2) := by decide +kernel
theorem dX6_sends_352 : decode cX6_sends 352 = .ok (.invokevirtual 135, 3) := by decide +kernel
theorem dX6_sends_355 : decode cX6_sends 355 = .ok (.iinc 2 1, 3) := by decide +kernel
theorem dX6_sends_358 : decode cX6_sends 358 = .ok (.goto (-321), 3) := by decide +kernel
theorem dX6_sends_361 : decode cX6_sends 361 = .ok (.iload_n 2, 1) := by decide +kernel
theorem dX6_sends_362 : decode cX6_sends 362 = .ok (.ireturn, 1) := by decide +kernel
theorem dX6_tick_0 : decode cX6_tick 0 = .ok (.iconst 0, 1) := by decide +kernel
theorem dX6_tick_1 : decode cX6_tick 1 = .ok (.istore_n 1, 1) := by decide +kernel
theorem dX6_tick_2 : decode cX6_tick 2 = .ok (.iconst 0, 1) := by decide +kernel
theorem dX6_tick_3 : decode cX6_tick 3 = .ok (.istore_n 2, 1) := by decide +kernel
theorem dX6_tick_4 : decode cX6_tick 4 = .ok (.iload_n 2, 1) := by decide +kernel
theorem dX6_tick_5 : decode cX6_tick 5 = .ok (.aload_n 0, 1) := by decide +kernel
theorem dX6_tick_6 : decode cX6_tick 6 = .ok (.getfield 7, 3) := by decide +kernel
theorem dX6_tick_9 : decode cX6_tick 9 = .ok (.iconst 1, 1) := by decide +kernel
theorem dX6_tick_10 : decode cX6_tick 10 = .ok (.iaload, 1) := by decide +kernel
theorem dX6_tick_11 : decode cX6_tick 11 = .ok (.if_icmp .ge 17, 3) := by decide +kernel
theorem dX6_tick_14 : decode cX6_tick 14 = .ok (.iload_n 1, 1) := by decide +kernel
theorem dX6_tick_15 : decode cX6_tick 15 = .ok (.aload_n 0, 1) := by decide +kernel
theorem dX6_tick_16 : decode cX6_tick 16 = .ok (.iload_n 2, 1) := by decide +kernel
theorem dX6_tick_17 : decode cX6_tick 17 = .ok (.invokevirtual 163, 3) := by decide +kernel
theorem dX6_tick_20 : decode cX6_tick 20 = .ok (.iadd, 1) := by decide +kernel
theorem dX6_tick_21 : decode cX6_tick 21 = .ok (.istore_n 1, 1) := by decide +kernel
theorem dX6_tick_22 : decode cX6_tick 22 = .ok (.iinc 2 1, 3) := by decide +kernel
theorem dX6_tick_25 : decode cX6_tick 25 = .ok (.goto (-21), 3) := by decide +kernel
theorem dX6_tick_28 : decode cX6_tick 28 = .ok (.iconst 0, 1) := by decide +kernel
theorem dX6_tick_29 : decode cX6_tick 29 = .ok (.istore_n 2, 1) := by decide +kernel
theorem dX6_tick_30 : decode cX6_tick 30 = .ok (.iload_n 2, 1) := by decide +kernel
theorem dX6_tick_31 : decode cX6_tick 31 = .ok (.iconst 3, 1) := by decide +kernel
theorem dX6_tick_32 : decode cX6_tick 32 = .ok (.aload_n 0, 1) := by decide +kernel
theorem dX6_tick_33 : decode cX6_tick 33 = .ok (.getfield 7, 3) := by decide +kernel
theorem dX6_tick_36 : decode cX6_tick 36 = .ok (.iconst 1, 1) := by decide +kernel
theorem dX6_tick_37 : decode cX6_tick 37 = .ok (.iaload, 1) := by decide +kernel
theorem dX6_tick_38 : decode cX6_tick 38 = .ok (.imul, 1) := by decide +kernel
theorem dX6_tick_39 : decode cX6_tick 39 = .ok (.if_icmp .ge 53, 3) := by decide +kernel
theorem dX6_tick_42 : decode cX6_tick 42 = .ok (.aload_n 0, 1) := by decide +kernel
theorem dX6_tick_43 : decode cX6_tick 43 = .ok (.getfield 7, 3) := by decide +kernel
theorem dX6_tick_46 : decode cX6_tick 46 = .ok (.iload_n 2, 1) := by decide +kernel
theorem dX6_tick_47 : decode cX6_tick 47 = .ok (.iconst 3, 1) := by decide +kernel
theorem dX6_tick_48 : decode cX6_tick 48 = .ok (.invokestatic 48, 3) := by decide +kernel
theorem dX6_tick_51 : decode cX6_tick 51 = .ok (.aload_n 0, 1) := by decide +kernel
theorem dX6_tick_52 : decode cX6_tick 52 = .ok (.getfield 7, 3) := by decide +kernel
theorem dX6_tick_55 : decode cX6_tick 55 = .ok (.iload_n 2, 1) := by decide +kernel
theorem dX6_tick_56 : decode cX6_tick 56 = .ok (.iconst 1, 1) := by decide +kernel
theorem dX6_tick_57 : decode cX6_tick 57 = .ok (.invokestatic 48, 3) := by decide +kernel
theorem dX6_tick_60 : decode cX6_tick 60 = .ok (.iaload, 1) := by decide +kernel
theorem dX6_tick_61 : decode cX6_tick 61 = .ok (.aload_n 0, 1) := by decide +kernel
theorem dX6_tick_62 : decode cX6_tick 62 = .ok (.getfield 7, 3) := by decide +kernel
theorem dX6_tick_65 : decode cX6_tick 65 = .ok (.iload_n 2, 1) := by decide +kernel
theorem dX6_tick_66 : decode cX6_tick 66 = .ok (.iconst 3, 1) := by decide +kernel
theorem dX6_tick_67 : decode cX6_tick 67 = .ok (.invokestatic 48, 3) := by decide +kernel
theorem dX6_tick_70 : decode cX6_tick 70 = .ok (.iaload, 1) := by decide +kernel
theorem dX6_tick_71 : decode cX6_tick 71 = .ok (.aload_n 0, 1) := by decide +kernel
theorem dX6_tick_72 : decode cX6_tick 72 = .ok (.getfield 7, 3) := by decide +kernel
theorem dX6_tick_75 : decode cX6_tick 75 = .ok (.iload_n 2, 1) := by decide +kernel
theorem dX6_tick_76 : decode cX6_tick 76 = .ok (.iconst 2, 1) := by decide +kernel
theorem dX6_tick_77 : decode cX6_tick 77 = .ok (.invokestatic 48, 3) := by decide +kernel
theorem dX6_tick_80 : decode cX6_tick 80 = .ok (.iaload, 1) := by decide +kernel
theorem dX6_tick_81 : decode cX6_tick 81 = .ok (.iadd, 1) := by decide +kernel
theorem dX6_tick_82 : decode cX6_tick 82 = .ok (.invokestatic 68, 3) := by decide +kernel
theorem dX6_tick_85 : decode cX6_tick 85 = .ok (.iastore, 1) := by decide +kernel
theorem dX6_tick_86 : decode cX6_tick 86 = .ok (.iinc 2 1, 3) := by decide +kernel
theorem dX6_tick_89 : decode cX6_tick 89 = .ok (.goto (-59), 3) := by decide +kernel
theorem dX6_tick_92 : decode cX6_tick 92 = .ok (.iconst 0, 1) := by decide +kernel
theorem dX6_tick_93 : decode cX6_tick 93 = .ok (.istore_n 2, 1) := by decide +kernel
theorem dX6_tick_94 : decode cX6_tick 94 = .ok (.iload_n 2, 1) := by decide +kernel
theorem dX6_tick_95 : decode cX6_tick 95 = .ok (.iconst 3, 1) := by decide +kernel
theorem dX6_tick_96 : decode cX6_tick 96 = .ok (.aload_n 0, 1) := by decide +kernel
theorem dX6_tick_97 : decode cX6_tick 97 = .ok (.getfield 7, 3) := by decide +kernel
theorem dX6_tick_100 : decode cX6_tick 100 = .ok (.iconst 1, 1) := by decide +kernel
theorem dX6_tick_101 : decode cX6_tick 101 = .ok (.iaload, 1) := by decide +kernel
theorem dX6_tick_102 : decode cX6_tick 102 = .ok (.imul, 1) := by decide +kernel
theorem dX6_tick_103 : decode cX6_tick 103 = .ok (.if_icmp .ge 71, 3) := by decide +kernel
theorem dX6_tick_106 : decode cX6_tick 106 = .ok (.aload_n 0, 1) := by decide +kernel
theorem dX6_tick_107 : decode cX6_tick 107 = .ok (.getfield 7, 3) := by decide +kernel
theorem dX6_tick_110 : decode cX6_tick 110 = .ok (.iload_n 2, 1) := by decide +kernel
theorem dX6_tick_111 : decode cX6_tick 111 = .ok (.bipush 10, 2) := by decide +kernel
theorem dX6_tick_113 : decode cX6_tick 113 = .ok (.invokestatic 48, 3) := by decide +kernel
theorem dX6_tick_116 : decode cX6_tick 116 = .ok (.iaload, 1) := by decide +kernel
theorem dX6_tick_117 : decode cX6_tick 117 = .ok (.iconst 1, 1) := by decide +kernel
theorem dX6_tick_118 : decode cX6_tick 118 = .ok (.if_icmp .ne 50, 3) := by decide +kernel
theorem dX6_tick_121 : decode cX6_tick 121 = .ok (.aload_n 0, 1) := by decide +kernel
theorem dX6_tick_122 : decode cX6_tick 122 = .ok (.getfield 7, 3) := by decide +kernel
theorem dX6_tick_125 : decode cX6_tick 125 = .ok (.iload_n 2, 1) := by decide +kernel
theorem dX6_tick_126 : decode cX6_tick 126 = .ok (.bipush 8, 2) := by decide +kernel
theorem dX6_tick_128 : decode cX6_tick 128 = .ok (.invokestatic 48, 3) := by decide +kernel
theorem dX6_tick_131 : decode cX6_tick 131 = .ok (.iaload, 1) := by decide +kernel
theorem dX6_tick_132 : decode cX6_tick 132 = .ok (.ifCond .ne 36, 3) := by decide +kernel
theorem dX6_tick_135 : decode cX6_tick 135 = .ok (.aload_n 0, 1) := by decide +kernel
theorem dX6_tick_136 : decode cX6_tick 136 = .ok (.getfield 7, 3) := by decide +kernel
theorem dX6_tick_139 : decode cX6_tick 139 = .ok (.iload_n 2, 1) := by decide +kernel
theorem dX6_tick_140 : decode cX6_tick 140 = .ok (.bipush 7, 2) := by decide +kernel
theorem dX6_tick_142 : decode cX6_tick 142 = .ok (.invokestatic 48, 3) := by decide +kernel
theorem dX6_tick_145 : decode cX6_tick 145 = .ok (.iaload, 1) := by decide +kernel
theorem dX6_tick_146 : decode cX6_tick 146 = .ok (.iconst 2, 1) := by decide +kernel
theorem dX6_tick_147 : decode cX6_tick 147 = .ok (.iadd, 1) := by decide +kernel
theorem dX6_tick_148 : decode cX6_tick 148 = .ok (.aload_n 0, 1) := by decide +kernel
theorem dX6_tick_149 : decode cX6_tick 149 = .ok (.iload_n 2, 1) := by decide +kernel
theorem dX6_tick_150 : decode cX6_tick 150 = .ok (.invokevirtual 113, 3) := by decide +kernel
theorem dX6_tick_153 : decode cX6_tick 153 = .ok (.if_icmp .gt 15, 3) := by decide +kernel
theorem dX6_tick_156 : decode cX6_tick 156 = .ok (.aload_n 0, 1) := by decide +kernel
theorem dX6_tick_157 : decode cX6_tick 157 = .ok (.getfield 7, 3) := by decide +kernel
theorem dX6_tick_160 : decode cX6_tick 160 = .ok (.iload_n 2, 1) := by decide +kernel
theorem dX6_tick_161 : decode cX6_tick 161 = .ok (.bipush 10, 2) := by decide +kernel
theorem dX6_tick_163 : decode cX6_tick 163 = .ok (.invokestatic 48, 3) := by decide +kernel
theorem dX6_tick_166 : decode cX6_tick 166 = .ok (.iconst 0, 1) := by decide +kernel
theorem dX6_tick_167 : decode cX6_tick 167 = .ok (.iastore, 1) := by decide +kernel
theorem dX6_tick_168 : decode cX6_tick 168 = .ok (.iinc 2 1, 3) := by decide +kernel
theorem dX6_tick_171 : decode cX6_tick 171 = .ok (.goto (-77), 3) := by decide +kernel
theorem dX6_tick_174 : decode cX6_tick 174 = .ok (.aload_n 0, 1) := by decide +kernel
theorem dX6_tick_175 : decode cX6_tick 175 = .ok (.getfield 7, 3) := by decide +kernel
theorem dX6_tick_178 : decode cX6_tick 178 = .ok (.iconst 3, 1) := by decide +kernel
theorem dX6_tick_179 : decode cX6_tick 179 = .ok (.dup2, 1) := by decide +kernel
theorem dX6_tick_180 : decode cX6_tick 180 = .ok (.iaload, 1) := by decide +kernel
theorem dX6_tick_181 : decode cX6_tick 181 = .ok (.iconst 1, 1) := by decide +kernel
theorem dX6_tick_182 : decode cX6_tick 182 = .ok (.iadd, 1) := by decide +kernel
theorem dX6_tick_183 : decode cX6_tick 183 = .ok (.iastore, 1) := by decide +kernel
theorem dX6_tick_184 : decode cX6_tick 184 = .ok (.iload_n 1, 1) := by decide +kernel
theorem dX6_tick_185 : decode cX6_tick 185 = .ok (.ireturn, 1) := by decide +kernel
theorem dX6_ticking_0 : decode cX6_ticking 0 = .ok (.iconst 0, 1) := by decide +kernel
theorem dX6_ticking_1 : decode cX6_ticking 1 = .ok (.istore_n 2, 1) := by decide +kernel
theorem dX6_ticking_2 : decode cX6_ticking 2 = .ok (.iconst 0, 1) := by decide +kernel
theorem dX6_ticking_3 : decode cX6_ticking 3 = .ok (.istore_n 3, 1) := by decide +kernel
theorem dX6_ticking_4 : decode cX6_ticking 4 = .ok (.iload_n 3, 1) := by decide +kernel
theorem dX6_ticking_5 : decode cX6_ticking 5 = .ok (.iload_n 1, 1) := by decide +kernel
theorem dX6_ticking_6 : decode cX6_ticking 6 = .ok (.if_icmp .ge 16, 3) := by decide +kernel
theorem dX6_ticking_9 : decode cX6_ticking 9 = .ok (.iload_n 2, 1) := by decide +kernel
theorem dX6_ticking_10 : decode cX6_ticking 10 = .ok (.aload_n 0, 1) := by decide +kernel
theorem dX6_ticking_11 : decode cX6_ticking 11 = .ok (.invokevirtual 166, 3) := by decide +kernel
theorem dX6_ticking_14 : decode cX6_ticking 14 = .ok (.iadd, 1) := by decide +kernel
theorem dX6_ticking_15 : decode cX6_ticking 15 = .ok (.istore_n 2, 1) := by decide +kernel
theorem dX6_ticking_16 : decode cX6_ticking 16 = .ok (.iinc 3 1, 3) := by decide +kernel
theorem dX6_ticking_19 : decode cX6_ticking 19 = .ok (.goto (-15), 3) := by decide +kernel
theorem dX6_ticking_22 : decode cX6_ticking 22 = .ok (.iload_n 2, 1) := by decide +kernel
theorem dX6_ticking_23 : decode cX6_ticking 23 = .ok (.ireturn, 1) := by decide +kernel
theorem dX6_ticks_0 : decode cX6_ticks 0 = .ok (.iload_n 1, 1) := by decide +kernel
theorem dX6_ticks_1 : decode cX6_ticks 1 = .ok (.iconst 1, 1) := by decide +kernel
theorem dX6_ticks_2 : decode cX6_ticks 2 = .ok (.bipush 20, 2) := by decide +kernel
theorem dX6_ticks_4 : decode cX6_ticks 4 = .ok (.invokestatic 36, 3) := by decide +kernel
theorem dX6_ticks_7 : decode cX6_ticks 7 = .ok (.ifCond .eq 11, 3) := by decide +kernel
theorem dX6_ticks_10 : decode cX6_ticks 10 = .ok (.aload_n 0, 1) := by decide +kernel
theorem dX6_ticks_11 : decode cX6_ticks 11 = .ok (.iload_n 1, 1) := by decide +kernel
theorem dX6_ticks_12 : decode cX6_ticks 12 = .ok (.invokevirtual 169, 3) := by decide +kernel
theorem dX6_ticks_15 : decode cX6_ticks 15 = .ok (.goto 5, 3) := by decide +kernel
theorem dX6_ticks_18 : decode cX6_ticks 18 = .ok (.bipush (-2), 2) := by decide +kernel
theorem dX6_ticks_20 : decode cX6_ticks 20 = .ok (.ireturn, 1) := by decide +kernel
theorem dX6_flushes_0 : decode cX6_flushes 0 = .ok (.iconst 0, 1) := by decide +kernel
theorem dX6_flushes_1 : decode cX6_flushes 1 = .ok (.istore_n 2, 1) := by decide +kernel
theorem dX6_flushes_2 : decode cX6_flushes 2 = .ok (.iconst 3, 1) := by decide +kernel
theorem dX6_flushes_3 : decode cX6_flushes 3 = .ok (.iload_n 1, 1) := by decide +kernel
theorem dX6_flushes_4 : decode cX6_flushes 4 = .ok (.imul, 1) := by decide +kernel
theorem dX6_flushes_5 : decode cX6_flushes 5 = .ok (.istore_n 3, 1) := by decide +kernel
theorem dX6_flushes_6 : decode cX6_flushes 6 = .ok (.iload_n 3, 1) := by decide +kernel
theorem dX6_flushes_7 : decode cX6_flushes 7 = .ok (.iconst 3, 1) := by decide +kernel
theorem dX6_flushes_8 : decode cX6_flushes 8 = .ok (.iload_n 1, 1) := by decide +kernel
theorem dX6_flushes_9 : decode cX6_flushes 9 = .ok (.imul, 1) := by decide +kernel
theorem dX6_flushes_10 : decode cX6_flushes 10 = .ok (.iconst 3, 1) := by decide +kernel
theorem dX6_flushes_11 : decode cX6_flushes 11 = .ok (.iadd, 1) := by decide +kernel
theorem dX6_flushes_12 : decode cX6_flushes 12 = .ok (.if_icmp .ge 47, 3) := by decide +kernel
theorem dX6_flushes_15 : decode cX6_flushes 15 = .ok (.aload_n 0, 1) := by decide +kernel
theorem dX6_flushes_16 : decode cX6_flushes 16 = .ok (.getfield 7, 3) := by decide +kernel
theorem dX6_flushes_19 : decode cX6_flushes 19 = .ok (.iload_n 3, 1) := by decide +kernel
theorem dX6_flushes_20 : decode cX6_flushes 20 = .ok (.bipush 12, 2) := by decide +kernel
theorem dX6_flushes_22 : decode cX6_flushes 22 = .ok (.invokestatic 48, 3) := by decide +kernel
theorem dX6_flushes_25 : decode cX6_flushes 25 = .ok (.iaload, 1) := by decide +kernel
theorem dX6_flushes_26 : decode cX6_flushes 26 = .ok (.ifCond .le 27, 3) := by decide +kernel
theorem dX6_flushes_29 : decode cX6_flushes 29 = .ok (.aload_n 0, 1) := by decide +kernel
theorem dX6_flushes_30 : decode cX6_flushes 30 = .ok (.iload_n 1, 1) := by decide +kernel
theorem dX6_flushes_31 : decode cX6_flushes 31 = .ok (.bipush 9, 2) := by decide +kernel
theorem dX6_flushes_33 : decode cX6_flushes 33 = .ok (.aload_n 0, 1) := by decide +kernel
theorem dX6_flushes_34 : decode cX6_flushes 34 = .ok (.iload_n 3, 1) := by decide +kernel
theorem dX6_flushes_35 : decode cX6_flushes 35 = .ok (.iconst 0, 1) := by decide +kernel
theorem dX6_flushes_36 : decode cX6_flushes 36 = .ok (.invokevirtual 132, 3) := by decide +kernel
theorem dX6_flushes_39 : decode cX6_flushes 39 = .ok (.invokevirtual 138, 3) := by decide +kernel
theorem dX6_flushes_42 : decode cX6_flushes 42 = .ok (.aload_n 0, 1) := by decide +kernel
theorem dX6_flushes_43 : decode cX6_flushes 43 = .ok (.iload_n 3, 1) := by decide +kernel
theorem dX6_flushes_44 : decode cX6_flushes 44 = .ok (.invokevirtual 135, 3) := by decide +kernel
theorem dX6_flushes_47 : decode cX6_flushes 47 = .ok (.iinc 2 1, 3) := by decide +kernel
theorem dX6_flushes_50 : decode cX6_flushes 50 = .ok (.goto (-35), 3) := by decide +kernel
theorem dX6_flushes_53 : decode cX6_flushes 53 = .ok (.iinc 3 1, 3) := by decide +kernel
theorem dX6_flushes_56 : decode cX6_flushes 56 = .ok (.goto (-50), 3) := by decide +kernel
theorem dX6_flushes_59 : decode cX6_flushes 59 = .ok (.iload_n 2, 1) := by decide +kernel
theorem dX6_flushes_60 : decode cX6_flushes 60 = .ok (.ireturn, 1) := by decide +kernel
theorem dX6_flush_0 : decode cX6_flush 0 = .ok (.aload_n 0, 1) := by decide +kernel
theorem dX6_flush_1 : decode cX6_flush 1 = .ok (.iload_n 1, 1) := by decide +kernel
theorem dX6_flush_2 : decode cX6_flush 2 = .ok (.invokevirtual 40, 3) := by decide +kernel
theorem dX6_flush_5 : decode cX6_flush 5 = .ok (.ifCond .eq 11, 3) := by decide +kernel
theorem dX6_flush_8 : decode cX6_flush 8 = .ok (.aload_n 0, 1) := by decide +kernel
theorem dX6_flush_9 : decode cX6_flush 9 = .ok (.iload_n 1, 1) := by decide +kernel
theorem dX6_flush_10 : decode cX6_flush 10 = .ok (.invokevirtual 172, 3) := by decide +kernel
theorem dX6_flush_13 : decode cX6_flush 13 = .ok (.goto 4, 3) := by decide +kernel
theorem dX6_flush_16 : decode cX6_flush 16 = .ok (.iconst (-1), 1) := by decide +kernel
theorem dX6_flush_17 : decode cX6_flush 17 = .ok (.ireturn, 1) := by decide +kernel
theorem dX6_traffic_0 : decode cX6_traffic 0 = .ok (.iload_n 1, 1) := by decide +kernel
theorem dX6_traffic_1 : decode cX6_traffic 1 = .ok (.ifCond .lt 22, 3) := by decide +kernel
theorem dX6_traffic_4 : decode cX6_traffic 4 = .ok (.iload_n 2, 1) := by decide +kernel
theorem dX6_traffic_5 : decode cX6_traffic 5 = .ok (.iconst 1, 1) := by decide +kernel
theorem dX6_traffic_6 : decode cX6_traffic 6 = .ok (.bipush 16, 2) := by decide +kernel
theorem dX6_traffic_8 : decode cX6_traffic 8 = .ok (.invokestatic 36, 3) := by decide +kernel
theorem dX6_traffic_11 : decode cX6_traffic 11 = .ok (.ifCond .eq 12, 3) := by decide +kernel
theorem dX6_traffic_14 : decode cX6_traffic 14 = .ok (.iload_n 3, 1) := by decide +kernel
theorem dX6_traffic_15 : decode cX6_traffic 15 = .ok (.iconst 1, 1) := by decide +kernel
theorem dX6_traffic_16 : decode cX6_traffic 16 = .ok (.iconst 3, 1) := by decide +kernel
theorem dX6_traffic_17 : decode cX6_traffic 17 = .ok (.invokestatic 36, 3) := by decide +kernel
theorem dX6_traffic_20 : decode cX6_traffic 20 = .ok (.ifCond .ne 6, 3) := by decide +kernel
theorem dX6_traffic_23 : decode cX6_traffic 23 = .ok (.bipush (-2), 2) := by decide +kernel
theorem dX6_traffic_25 : decode cX6_traffic 25 = .ok (.ireturn, 1) := by decide +kernel
theorem dX6_traffic_26 : decode cX6_traffic 26 = .ok (.iload_n 1, 1) := by decide +kernel
theorem dX6_traffic_27 : decode cX6_traffic 27 = .ok (.i2l, 1) := by decide +kernel
theorem dX6_traffic_28 : decode cX6_traffic 28 = .ok (.lstore 4, 2) := by decide +kernel
theorem dX6_traffic_30 : decode cX6_traffic 30 = .ok (.iconst 0, 1) := by decide +kernel
theorem dX6_traffic_31 : decode cX6_traffic 31 = .ok (.istore 6, 2) := by decide +kernel
theorem dX6_traffic_33 : decode cX6_traffic 33 = .ok (.iconst 0, 1) := by decide +kernel
theorem dX6_traffic_34 : decode cX6_traffic 34 = .ok (.istore 7, 2) := by decide +kernel
theorem dX6_traffic_36 : decode cX6_traffic 36 = .ok (.iload 7, 2) := by decide +kernel
theorem dX6_traffic_38 : decode cX6_traffic 38 = .ok (.iload_n 2, 1) := by decide +kernel
theorem dX6_traffic_39 : decode cX6_traffic 39 = .ok (.if_icmp .ge 106, 3) := by decide +kernel
theorem dX6_traffic_42 : decode cX6_traffic 42 = .ok (.iconst 0, 1) := by decide +kernel
theorem dX6_traffic_43 : decode cX6_traffic 43 = .ok (.istore 8, 2) := by decide +kernel
theorem dX6_traffic_45 : decode cX6_traffic 45 = .ok (.iload 8, 2) := by decide +kernel
theorem dX6_traffic_47 : decode cX6_traffic 47 = .ok (.iload_n 3, 1) := by decide +kernel
theorem dX6_traffic_48 : decode cX6_traffic 48 = .ok (.if_icmp .ge 86, 3) := by decide +kernel
theorem dX6_traffic_51 : decode cX6_traffic 51 = .ok (.lload 4, 2) := by decide +kernel
theorem dX6_traffic_53 : decode cX6_traffic 53 = .ok (.ldc2_w 175, 3) := by decide +kernel
theorem dX6_traffic_56 : decode cX6_traffic 56 = .ok (.lmul, 1) := by decide +kernel
theorem dX6_traffic_57 : decode cX6_traffic 57 = .ok (.ldc2_w 177, 3) := by decide +kernel
theorem dX6_traffic_60 : decode cX6_traffic 60 = .ok (.ladd, 1) := by decide +kernel
theorem dX6_traffic_61 : decode cX6_traffic 61 = .ok (.ldc2_w 179, 3) := by decide +kernel
theorem dX6_traffic_64 : decode cX6_traffic 64 = .ok (.lrem, 1) := by decide +kernel
theorem dX6_traffic_65 : decode cX6_traffic 65 = .ok (.lstore 4, 2) := by decide +kernel
theorem dX6_traffic_67 : decode cX6_traffic 67 = .ok (.lload 4, 2) := by decide +kernel
theorem dX6_traffic_69 : decode cX6_traffic 69 = .ok (.ldc2_w 181, 3) := by decide +kernel
theorem dX6_traffic_72 : decode cX6_traffic 72 = .ok (.ldiv, 1) := by decide +kernel
theorem dX6_traffic_73 : decode cX6_traffic 73 = .ok (.l2i, 1) := by decide +kernel
theorem dX6_traffic_74 : decode cX6_traffic 74 = .ok (.istore 9, 2) := by decide +kernel
theorem dX6_traffic_76 : decode cX6_traffic 76 = .ok (.iconst 3, 1) := by decide +kernel
theorem dX6_traffic_77 : decode cX6_traffic 77 = .ok (.iload 9, 2) := by decide +kernel
theorem dX6_traffic_79 : decode cX6_traffic 79 = .ok (.aload_n 0, 1) := by decide +kernel
theorem dX6_traffic_80 : decode cX6_traffic 80 = .ok (.getfield 7, 3) := by decide +kernel
theorem dX6_traffic_83 : decode cX6_traffic 83 = .ok (.iconst 1, 1) := by decide +kernel
theorem dX6_traffic_84 : decode cX6_traffic 84 = .ok (.iaload, 1) := by decide +kernel
theorem dX6_traffic_85 : decode cX6_traffic 85 = .ok (.irem, 1) := by decide +kernel
theorem dX6_traffic_86 : decode cX6_traffic 86 = .ok (.imul, 1) := by decide +kernel
theorem dX6_traffic_87 : decode cX6_traffic 87 = .ok (.iload 9, 2) := by decide +kernel
theorem dX6_traffic_89 : decode cX6_traffic 89 = .ok (.bipush 8, 2) := by decide +kernel
theorem dX6_traffic_91 : decode cX6_traffic 91 = .ok (.idiv, 1) := by decide +kernel
theorem dX6_traffic_92 : decode cX6_traffic 92 = .ok (.iconst 3, 1) := by decide +kernel
theorem dX6_traffic_93 : decode cX6_traffic 93 = .ok (.irem, 1) := by decide +kernel
theorem dX6_traffic_94 : decode cX6_traffic 94 = .ok (.iadd, 1) := by decide +kernel
theorem dX6_traffic_95 : decode cX6_traffic 95 = .ok (.istore 10, 2) := by decide +kernel
theorem dX6_traffic_97 : decode cX6_traffic 97 = .ok (.iload 6, 2) := by decide +kernel
theorem dX6_traffic_99 : decode cX6_traffic 99 = .ok (.aload_n 0, 1) := by decide +kernel
theorem dX6_traffic_100 : decode cX6_traffic 100 = .ok (.iload 10, 2) := by decide +kernel
theorem dX6_traffic_102 : decode cX6_traffic 102 = .ok (.iload 9, 2) := by decide +kernel
theorem dX6_traffic_104 : decode cX6_traffic 104 = .ok (.bipush 32, 2) := by decide +kernel
theorem dX6_traffic_106 : decode cX6_traffic 106 = .ok (.idiv, 1) := by decide +kernel
theorem dX6_traffic_107 : decode cX6_traffic 107 = .ok (.bipush 12, 2) := by decide +kernel
theorem dX6_traffic_109 : decode cX6_traffic 109 = .ok (.irem, 1) := by decide +kernel
theorem dX6_traffic_110 : decode cX6_traffic 110 = .ok (.iconst 1, 1) := by decide +kernel
theorem dX6_traffic_111 : decode cX6_traffic 111 = .ok (.iadd, 1) := by decide +kernel
theorem dX6_traffic_112 : decode cX6_traffic 112 = .ok (.invokevirtual 154, 3) := by decide +kernel
theorem dX6_traffic_115 : decode cX6_traffic 115 = .ok (.bipush (-6), 2) := by decide +kernel
theorem dX6_traffic_117 : decode cX6_traffic 117 = .ok (.if_icmp .ne 7, 3) := by decide +kernel
theorem dX6_traffic_120 : decode cX6_traffic 120 = .ok (.iconst 1, 1) := by decide +kernel
theorem dX6_traffic_121 : decode cX6_traffic 121 = .ok (.goto 4, 3) := by decide +kernel
theorem dX6_traffic_124 : decode cX6_traffic 124 = .ok (.iconst 0, 1) := by decide +kernel
theorem dX6_traffic_125 : decode cX6_traffic 125 = .ok (.iadd, 1) := by decide +kernel
theorem dX6_traffic_126 : decode cX6_traffic 126 = .ok (.istore 6, 2) := by decide +kernel
theorem dX6_traffic_128 : decode cX6_traffic 128 = .ok (.iinc 8 1, 3) := by decide +kernel
theorem dX6_traffic_131 : decode cX6_traffic 131 = .ok (.goto (-86), 3) := by decide +kernel
theorem dX6_traffic_134 : decode cX6_traffic 134 = .ok (.aload_n 0, 1) := by decide +kernel
theorem dX6_traffic_135 : decode cX6_traffic 135 = .ok (.invokevirtual 166, 3) := by decide +kernel
theorem dX6_traffic_138 : decode cX6_traffic 138 = .ok (.pop, 1) := by decide +kernel
theorem dX6_traffic_139 : decode cX6_traffic 139 = .ok (.iinc 7 1, 3) := by decide +kernel
theorem dX6_traffic_142 : decode cX6_traffic 142 = .ok (.goto (-106), 3) := by decide +kernel
theorem dX6_traffic_145 : decode cX6_traffic 145 = .ok (.iload 6, 2) := by decide +kernel
theorem dX6_traffic_147 : decode cX6_traffic 147 = .ok (.ireturn, 1) := by decide +kernel
theorem dX6_freeShared_0 : decode cX6_freeShared 0 = .ok (.aload_n 0, 1) := by decide +kernel
theorem dX6_freeShared_1 : decode cX6_freeShared 1 = .ok (.invokevirtual 62, 3) := by decide +kernel
theorem dX6_freeShared_4 : decode cX6_freeShared 4 = .ok (.ireturn, 1) := by decide +kernel
theorem dX6_sharedPool_0 : decode cX6_sharedPool 0 = .ok (.aload_n 0, 1) := by decide +kernel
theorem dX6_sharedPool_1 : decode cX6_sharedPool 1 = .ok (.invokevirtual 55, 3) := by decide +kernel
theorem dX6_sharedPool_4 : decode cX6_sharedPool 4 = .ok (.ireturn, 1) := by decide +kernel
theorem dX6_freeGuarantee_0 : decode cX6_freeGuarantee 0 = .ok (.aload_n 0, 1) := by decide +kernel
theorem dX6_freeGuarantee_1 : decode cX6_freeGuarantee 1 = .ok (.iload_n 1, 1) := by decide +kernel
theorem dX6_freeGuarantee_2 : decode cX6_freeGuarantee 2 = .ok (.invokevirtual 40, 3) := by decide +kernel
theorem dX6_freeGuarantee_5 : decode cX6_freeGuarantee 5 = .ok (.ifCond .eq 11, 3) := by decide +kernel
theorem dX6_freeGuarantee_8 : decode cX6_freeGuarantee 8 = .ok (.aload_n 0, 1) := by decide +kernel
theorem dX6_freeGuarantee_9 : decode cX6_freeGuarantee 9 = .ok (.iload_n 1, 1) := by decide +kernel
theorem dX6_freeGuarantee_10 : decode cX6_freeGuarantee 10 = .ok (.invokevirtual 65, 3) := by decide +kernel
theorem dX6_freeGuarantee_13 : decode cX6_freeGuarantee 13 = .ok (.goto 4, 3) := by decide +kernel
theorem dX6_freeGuarantee_16 : decode cX6_freeGuarantee 16 = .ok (.iconst (-1), 1) := by decide +kernel
theorem dX6_freeGuarantee_17 : decode cX6_freeGuarantee 17 = .ok (.ireturn, 1) := by decide +kernel
theorem dX6_ofPort_0 : decode cX6_ofPort 0 = .ok (.aload_n 0, 1) := by decide +kernel
theorem dX6_ofPort_1 : decode cX6_ofPort 1 = .ok (.iload_n 1, 1) := by decide +kernel
theorem dX6_ofPort_2 : decode cX6_ofPort 2 = .ok (.invokevirtual 40, 3) := by decide +kernel
theorem dX6_ofPort_5 : decode cX6_ofPort 5 = .ok (.ifCond .eq 16, 3) := by decide +kernel
theorem dX6_ofPort_8 : decode cX6_ofPort 8 = .ok (.aload_n 0, 1) := by decide +kernel
theorem dX6_ofPort_9 : decode cX6_ofPort 9 = .ok (.getfield 7, 3) := by decide +kernel
theorem dX6_ofPort_12 : decode cX6_ofPort 12 = .ok (.iload_n 1, 1) := by decide +kernel
theorem dX6_ofPort_13 : decode cX6_ofPort 13 = .ok (.iload_n 2, 1) := by decide +kernel
theorem dX6_ofPort_14 : decode cX6_ofPort 14 = .ok (.invokestatic 44, 3) := by decide +kernel
theorem dX6_ofPort_17 : decode cX6_ofPort 17 = .ok (.iaload, 1) := by decide +kernel
theorem dX6_ofPort_18 : decode cX6_ofPort 18 = .ok (.goto 4, 3) := by decide +kernel
theorem dX6_ofPort_21 : decode cX6_ofPort 21 = .ok (.iconst (-1), 1) := by decide +kernel
theorem dX6_ofPort_22 : decode cX6_ofPort 22 = .ok (.ireturn, 1) := by decide +kernel
theorem dX6_ofQueue_0 : decode cX6_ofQueue 0 = .ok (.aload_n 0, 1) := by decide +kernel
theorem dX6_ofQueue_1 : decode cX6_ofQueue 1 = .ok (.iload_n 1, 1) := by decide +kernel
theorem dX6_ofQueue_2 : decode cX6_ofQueue 2 = .ok (.iload_n 2, 1) := by decide +kernel
theorem dX6_ofQueue_3 : decode cX6_ofQueue 3 = .ok (.invokevirtual 75, 3) := by decide +kernel
theorem dX6_ofQueue_6 : decode cX6_ofQueue 6 = .ok (.ifCond .eq 20, 3) := by decide +kernel
theorem dX6_ofQueue_9 : decode cX6_ofQueue 9 = .ok (.aload_n 0, 1) := by decide +kernel
theorem dX6_ofQueue_10 : decode cX6_ofQueue 10 = .ok (.getfield 7, 3) := by decide +kernel
theorem dX6_ofQueue_13 : decode cX6_ofQueue 13 = .ok (.iconst 3, 1) := by decide +kernel
theorem dX6_ofQueue_14 : decode cX6_ofQueue 14 = .ok (.iload_n 1, 1) := by decide +kernel
theorem dX6_ofQueue_15 : decode cX6_ofQueue 15 = .ok (.imul, 1) := by decide +kernel
theorem dX6_ofQueue_16 : decode cX6_ofQueue 16 = .ok (.iload_n 2, 1) := by decide +kernel
theorem dX6_ofQueue_17 : decode cX6_ofQueue 17 = .ok (.iadd, 1) := by decide +kernel
theorem dX6_ofQueue_18 : decode cX6_ofQueue 18 = .ok (.iload_n 3, 1) := by decide +kernel
theorem dX6_ofQueue_19 : decode cX6_ofQueue 19 = .ok (.invokestatic 48, 3) := by decide +kernel
theorem dX6_ofQueue_22 : decode cX6_ofQueue 22 = .ok (.iaload, 1) := by decide +kernel
theorem dX6_ofQueue_23 : decode cX6_ofQueue 23 = .ok (.goto 4, 3) := by decide +kernel
theorem dX6_ofQueue_26 : decode cX6_ofQueue 26 = .ok (.iconst (-1), 1) := by decide +kernel
theorem dX6_ofQueue_27 : decode cX6_ofQueue 27 = .ok (.ireturn, 1) := by decide +kernel
theorem dX6_grantOf_0 : decode cX6_grantOf 0 = .ok (.aload_n 0, 1) := by decide +kernel
theorem dX6_grantOf_1 : decode cX6_grantOf 1 = .ok (.iload_n 1, 1) := by decide +kernel
theorem dX6_grantOf_2 : decode cX6_grantOf 2 = .ok (.iconst 2, 1) := by decide +kernel
theorem dX6_grantOf_3 : decode cX6_grantOf 3 = .ok (.invokevirtual 183, 3) := by decide +kernel
theorem dX6_grantOf_6 : decode cX6_grantOf 6 = .ok (.ireturn, 1) := by decide +kernel
theorem dX6_threshold_0 : decode cX6_threshold 0 = .ok (.aload_n 0, 1) := by decide +kernel
theorem dX6_threshold_1 : decode cX6_threshold 1 = .ok (.iload_n 1, 1) := by decide +kernel
theorem dX6_threshold_2 : decode cX6_threshold 2 = .ok (.iload_n 2, 1) := by decide +kernel
theorem dX6_threshold_3 : decode cX6_threshold 3 = .ok (.invokevirtual 75, 3) := by decide +kernel
theorem dX6_threshold_6 : decode cX6_threshold 6 = .ok (.ifCond .eq 15, 3) := by decide +kernel
theorem dX6_threshold_9 : decode cX6_threshold 9 = .ok (.aload_n 0, 1) := by decide +kernel
theorem dX6_threshold_10 : decode cX6_threshold 10 = .ok (.iconst 3, 1) := by decide +kernel
theorem dX6_threshold_11 : decode cX6_threshold 11 = .ok (.iload_n 1, 1) := by decide +kernel
theorem dX6_threshold_12 : decode cX6_threshold 12 = .ok (.imul, 1) := by decide +kernel
theorem dX6_threshold_13 : decode cX6_threshold 13 = .ok (.iload_n 2, 1) := by decide +kernel
theorem dX6_threshold_14 : decode cX6_threshold 14 = .ok (.iadd, 1) := by decide +kernel
theorem dX6_threshold_15 : decode cX6_threshold 15 = .ok (.invokevirtual 113, 3) := by decide +kernel
theorem dX6_threshold_18 : decode cX6_threshold 18 = .ok (.goto 4, 3) := by decide +kernel
theorem dX6_threshold_21 : decode cX6_threshold 21 = .ok (.iconst (-1), 1) := by decide +kernel
theorem dX6_threshold_22 : decode cX6_threshold 22 = .ok (.ireturn, 1) := by decide +kernel
theorem dX6_guaranteedCells_0 : decode cX6_guaranteedCells 0 = .ok (.aload_n 0, 1) := by decide +kernel
theorem dX6_guaranteedCells_1 : decode cX6_guaranteedCells 1 = .ok (.iload_n 1, 1) := by decide +kernel
theorem dX6_guaranteedCells_2 : decode cX6_guaranteedCells 2 = .ok (.iload_n 2, 1) := by decide +kernel
theorem dX6_guaranteedCells_3 : decode cX6_guaranteedCells 3 = .ok (.bipush 6, 2) := by decide +kernel
theorem dX6_guaranteedCells_5 : decode cX6_guaranteedCells 5 = .ok (.invokevirtual 186, 3) := by decide +kernel
theorem dX6_guaranteedCells_8 : decode cX6_guaranteedCells 8 = .ok (.ireturn, 1) := by decide +kernel
theorem dX6_sharedCells_0 : decode cX6_sharedCells 0 = .ok (.aload_n 0, 1) := by decide +kernel
theorem dX6_sharedCells_1 : decode cX6_sharedCells 1 = .ok (.iload_n 1, 1) := by decide +kernel
theorem dX6_sharedCells_2 : decode cX6_sharedCells 2 = .ok (.iload_n 2, 1) := by decide +kernel
theorem dX6_sharedCells_3 : decode cX6_sharedCells 3 = .ok (.bipush 7, 2) := by decide +kernel
theorem dX6_sharedCells_5 : decode cX6_sharedCells 5 = .ok (.invokevirtual 186, 3) := by decide +kernel
theorem dX6_sharedCells_8 : decode cX6_sharedCells 8 = .ok (.ireturn, 1) := by decide +kernel
theorem dX6_headroomCells_0 : decode cX6_headroomCells 0 = .ok (.aload_n 0, 1) := by decide +kernel
theorem dX6_headroomCells_1 : decode cX6_headroomCells 1 = .ok (.iload_n 1, 1) := by decide +kernel
theorem dX6_headroomCells_2 : decode cX6_headroomCells 2 = .ok (.iload_n 2, 1) := by decide +kernel
theorem dX6_headroomCells_3 : decode cX6_headroomCells 3 = .ok (.bipush 8, 2) := by decide +kernel
theorem dX6_headroomCells_5 : decode cX6_headroomCells 5 = .ok (.invokevirtual 186, 3) := by decide +kernel
theorem dX6_headroomCells_8 : decode cX6_headroomCells 8 = .ok (.ireturn, 1) := by decide +kernel
theorem dX6_burstTank_0 : decode cX6_burstTank 0 = .ok (.aload_n 0, 1) := by decide +kernel
theorem dX6_burstTank_1 : decode cX6_burstTank 1 = .ok (.iload_n 1, 1) := by decide +kernel
theorem dX6_burstTank_2 : decode cX6_burstTank 2 = .ok (.iload_n 2, 1) := by decide +kernel
theorem dX6_burstTank_3 : decode cX6_burstTank 3 = .ok (.iconst 3, 1) := by decide +kernel
theorem dX6_burstTank_4 : decode cX6_burstTank 4 = .ok (.invokevirtual 186, 3) := by decide +kernel
theorem dX6_burstTank_7 : decode cX6_burstTank 7 = .ok (.ireturn, 1) := by decide +kernel
theorem dX6_isPaused_0 : decode cX6_isPaused 0 = .ok (.aload_n 0, 1) := by decide +kernel
theorem dX6_isPaused_1 : decode cX6_isPaused 1 = .ok (.iload_n 1, 1) := by decide +kernel
theorem dX6_isPaused_2 : decode cX6_isPaused 2 = .ok (.iload_n 2, 1) := by decide +kernel
theorem dX6_isPaused_3 : decode cX6_isPaused 3 = .ok (.bipush 10, 2) := by decide +kernel
theorem dX6_isPaused_5 : decode cX6_isPaused 5 = .ok (.invokevirtual 186, 3) := by decide +kernel
theorem dX6_isPaused_8 : decode cX6_isPaused 8 = .ok (.ireturn, 1) := by decide +kernel
theorem dX6_pauses_0 : decode cX6_pauses 0 = .ok (.aload_n 0, 1) := by decide +kernel
theorem dX6_pauses_1 : decode cX6_pauses 1 = .ok (.iload_n 1, 1) := by decide +kernel
theorem dX6_pauses_2 : decode cX6_pauses 2 = .ok (.iload_n 2, 1) := by decide +kernel
theorem dX6_pauses_3 : decode cX6_pauses 3 = .ok (.bipush 11, 2) := by decide +kernel
theorem dX6_pauses_5 : decode cX6_pauses 5 = .ok (.invokevirtual 186, 3) := by decide +kernel
theorem dX6_pauses_8 : decode cX6_pauses 8 = .ok (.ireturn, 1) := by decide +kernel
theorem dX6_credit_0 : decode cX6_credit 0 = .ok (.aload_n 0, 1) := by decide +kernel
theorem dX6_credit_1 : decode cX6_credit 1 = .ok (.iload_n 1, 1) := by decide +kernel
theorem dX6_credit_2 : decode cX6_credit 2 = .ok (.iconst 4, 1) := by decide +kernel
theorem dX6_credit_3 : decode cX6_credit 3 = .ok (.invokevirtual 183, 3) := by decide +kernel
theorem dX6_credit_6 : decode cX6_credit 6 = .ok (.ireturn, 1) := by decide +kernel
theorem dX6_deficit_0 : decode cX6_deficit 0 = .ok (.aload_n 0, 1) := by decide +kernel
theorem dX6_deficit_1 : decode cX6_deficit 1 = .ok (.iload_n 1, 1) := by decide +kernel
theorem dX6_deficit_2 : decode cX6_deficit 2 = .ok (.iload_n 2, 1) := by decide +kernel
theorem dX6_deficit_3 : decode cX6_deficit 3 = .ok (.iconst 5, 1) := by decide +kernel
theorem dX6_deficit_4 : decode cX6_deficit 4 = .ok (.invokevirtual 186, 3) := by decide +kernel
theorem dX6_deficit_7 : decode cX6_deficit 7 = .ok (.ireturn, 1) := by decide +kernel
theorem dX6_losses_0 : decode cX6_losses 0 = .ok (.aload_n 0, 1) := by decide +kernel
theorem dX6_losses_1 : decode cX6_losses 1 = .ok (.iload_n 1, 1) := by decide +kernel
theorem dX6_losses_2 : decode cX6_losses 2 = .ok (.invokevirtual 40, 3) := by decide +kernel
theorem dX6_losses_5 : decode cX6_losses 5 = .ok (.ifCond .ne 5, 3) := by decide +kernel
theorem dX6_losses_8 : decode cX6_losses 8 = .ok (.iconst (-1), 1) := by decide +kernel
theorem dX6_losses_9 : decode cX6_losses 9 = .ok (.ireturn, 1) := by decide +kernel
theorem dX6_losses_10 : decode cX6_losses 10 = .ok (.iload_n 2, 1) := by decide +kernel
theorem dX6_losses_11 : decode cX6_losses 11 = .ok (.iconst 2, 1) := by decide +kernel
theorem dX6_losses_12 : decode cX6_losses 12 = .ok (.if_icmp .eq 25, 3) := by decide +kernel
theorem dX6_losses_15 : decode cX6_losses 15 = .ok (.iload_n 2, 1) := by decide +kernel
theorem dX6_losses_16 : decode cX6_losses 16 = .ok (.iconst 3, 1) := by decide +kernel
theorem dX6_losses_17 : decode cX6_losses 17 = .ok (.if_icmp .eq 20, 3) := by decide +kernel
theorem dX6_losses_20 : decode cX6_losses 20 = .ok (.iload_n 2, 1) := by decide +kernel
theorem dX6_losses_21 : decode cX6_losses 21 = .ok (.iconst 5, 1) := by decide +kernel
theorem dX6_losses_22 : decode cX6_losses 22 = .ok (.if_icmp .eq 15, 3) := by decide +kernel
theorem dX6_losses_25 : decode cX6_losses 25 = .ok (.iload_n 2, 1) := by decide +kernel
theorem dX6_losses_26 : decode cX6_losses 26 = .ok (.bipush 8, 2) := by decide +kernel
theorem dX6_losses_28 : decode cX6_losses 28 = .ok (.if_icmp .eq 9, 3) := by decide +kernel
theorem dX6_losses_31 : decode cX6_losses 31 = .ok (.iload_n 2, 1) := by decide +kernel
theorem dX6_losses_32 : decode cX6_losses 32 = .ok (.bipush 9, 2) := by decide +kernel
theorem dX6_losses_34 : decode cX6_losses 34 = .ok (.if_icmp .ne 7, 3) := by decide +kernel
theorem dX6_losses_37 : decode cX6_losses 37 = .ok (.iconst 1, 1) := by decide +kernel
theorem dX6_losses_38 : decode cX6_losses 38 = .ok (.goto 4, 3) := by decide +kernel
theorem dX6_losses_41 : decode cX6_losses 41 = .ok (.iconst 0, 1) := by decide +kernel
theorem dX6_losses_42 : decode cX6_losses 42 = .ok (.istore_n 3, 1) := by decide +kernel
theorem dX6_losses_43 : decode cX6_losses 43 = .ok (.iload_n 3, 1) := by decide +kernel
theorem dX6_losses_44 : decode cX6_losses 44 = .ok (.ifCond .eq 19, 3) := by decide +kernel
theorem dX6_losses_47 : decode cX6_losses 47 = .ok (.aload_n 0, 1) := by decide +kernel
theorem dX6_losses_48 : decode cX6_losses 48 = .ok (.getfield 7, 3) := by decide +kernel
theorem dX6_losses_51 : decode cX6_losses 51 = .ok (.iload_n 1, 1) := by decide +kernel
theorem dX6_losses_52 : decode cX6_losses 52 = .ok (.bipush 11, 2) := by decide +kernel
theorem dX6_losses_54 : decode cX6_losses 54 = .ok (.iload_n 2, 1) := by decide +kernel
theorem dX6_losses_55 : decode cX6_losses 55 = .ok (.iadd, 1) := by decide +kernel
theorem dX6_losses_56 : decode cX6_losses 56 = .ok (.invokestatic 44, 3) := by decide +kernel
theorem dX6_losses_59 : decode cX6_losses 59 = .ok (.iaload, 1) := by decide +kernel
theorem dX6_losses_60 : decode cX6_losses 60 = .ok (.goto 5, 3) := by decide +kernel
theorem dX6_losses_63 : decode cX6_losses 63 = .ok (.bipush (-2), 2) := by decide +kernel
theorem dX6_losses_65 : decode cX6_losses 65 = .ok (.ireturn, 1) := by decide +kernel
theorem dX6_lostCells_0 : decode cX6_lostCells 0 = .ok (.aload_n 0, 1) := by decide +kernel
theorem dX6_lostCells_1 : decode cX6_lostCells 1 = .ok (.iload_n 1, 1) := by decide +kernel
theorem dX6_lostCells_2 : decode cX6_lostCells 2 = .ok (.bipush 10, 2) := by decide +kernel
theorem dX6_lostCells_4 : decode cX6_lostCells 4 = .ok (.invokevirtual 183, 3) := by decide +kernel
theorem dX6_lostCells_7 : decode cX6_lostCells 7 = .ok (.ireturn, 1) := by decide +kernel
theorem dX6_lossCause_0 : decode cX6_lossCause 0 = .ok (.iload_n 1, 1) := by decide +kernel
theorem dX6_lossCause_1 : decode cX6_lossCause 1 = .ok (.iconst 0, 1) := by decide +kernel
theorem dX6_lossCause_2 : decode cX6_lossCause 2 = .ok (.iconst 3, 1) := by decide +kernel
theorem dX6_lossCause_3 : decode cX6_lossCause 3 = .ok (.invokestatic 36, 3) := by decide +kernel
theorem dX6_lossCause_6 : decode cX6_lossCause 6 = .ok (.ifCond .ne 5, 3) := by decide +kernel
theorem dX6_lossCause_9 : decode cX6_lossCause 9 = .ok (.iconst (-1), 1) := by decide +kernel
theorem dX6_lossCause_10 : decode cX6_lossCause 10 = .ok (.ireturn, 1) := by decide +kernel
theorem dX6_lossCause_11 : decode cX6_lossCause 11 = .ok (.aload_n 0, 1) := by decide +kernel
theorem dX6_lossCause_12 : decode cX6_lossCause 12 = .ok (.getfield 7, 3) := by decide +kernel
theorem dX6_lossCause_15 : decode cX6_lossCause 15 = .ok (.iconst 5, 1) := by decide +kernel
theorem dX6_lossCause_16 : decode cX6_lossCause 16 = .ok (.iaload, 1) := by decide +kernel
theorem dX6_lossCause_17 : decode cX6_lossCause 17 = .ok (.iconst 1, 1) := by decide +kernel
theorem dX6_lossCause_18 : decode cX6_lossCause 18 = .ok (.if_icmp .ne 15, 3) := by decide +kernel
theorem dX6_lossCause_21 : decode cX6_lossCause 21 = .ok (.aload_n 0, 1) := by decide +kernel
theorem dX6_lossCause_22 : decode cX6_lossCause 22 = .ok (.getfield 7, 3) := by decide +kernel
theorem dX6_lossCause_25 : decode cX6_lossCause 25 = .ok (.bipush 6, 2) := by decide +kernel
theorem dX6_lossCause_27 : decode cX6_lossCause 27 = .ok (.iload_n 1, 1) := by decide +kernel
theorem dX6_lossCause_28 : decode cX6_lossCause 28 = .ok (.iadd, 1) := by decide +kernel
theorem dX6_lossCause_29 : decode cX6_lossCause 29 = .ok (.iaload, 1) := by decide +kernel
theorem dX6_lossCause_30 : decode cX6_lossCause 30 = .ok (.goto 5, 3) := by decide +kernel
theorem dX6_lossCause_33 : decode cX6_lossCause 33 = .ok (.bipush (-5), 2) := by decide +kernel
theorem dX6_lossCause_35 : decode cX6_lossCause 35 = .ok (.ireturn, 1) := by decide +kernel
theorem dX6_departed_0 : decode cX6_departed 0 = .ok (.aload_n 0, 1) := by decide +kernel
theorem dX6_departed_1 : decode cX6_departed 1 = .ok (.iload_n 1, 1) := by decide +kernel
theorem dX6_departed_2 : decode cX6_departed 2 = .ok (.bipush 9, 2) := by decide +kernel
theorem dX6_departed_4 : decode cX6_departed 4 = .ok (.invokevirtual 183, 3) := by decide +kernel
theorem dX6_departed_7 : decode cX6_departed 7 = .ok (.ireturn, 1) := by decide +kernel
theorem dX6_admitted_0 : decode cX6_admitted 0 = .ok (.aload_n 0, 1) := by decide +kernel
theorem dX6_admitted_1 : decode cX6_admitted 1 = .ok (.getfield 7, 3) := by decide +kernel
theorem dX6_admitted_4 : decode cX6_admitted 4 = .ok (.iconst 4, 1) := by decide +kernel
theorem dX6_admitted_5 : decode cX6_admitted 5 = .ok (.iaload, 1) := by decide +kernel
theorem dX6_admitted_6 : decode cX6_admitted 6 = .ok (.ireturn, 1) := by decide +kernel
theorem dX6_time_0 : decode cX6_time 0 = .ok (.aload_n 0, 1) := by decide +kernel
theorem dX6_time_1 : decode cX6_time 1 = .ok (.getfield 7, 3) := by decide +kernel
theorem dX6_time_4 : decode cX6_time 4 = .ok (.iconst 3, 1) := by decide +kernel
theorem dX6_time_5 : decode cX6_time 5 = .ok (.iaload, 1) := by decide +kernel
theorem dX6_time_6 : decode cX6_time 6 = .ok (.ireturn, 1) := by decide +kernel
theorem dX6_queueLength_0 : decode cX6_queueLength 0 = .ok (.aload_n 0, 1) := by decide +kernel
theorem dX6_queueLength_1 : decode cX6_queueLength 1 = .ok (.iload_n 1, 1) := by decide +kernel
theorem dX6_queueLength_2 : decode cX6_queueLength 2 = .ok (.iload_n 2, 1) := by decide +kernel
theorem dX6_queueLength_3 : decode cX6_queueLength 3 = .ok (.bipush 12, 2) := by decide +kernel
theorem dX6_queueLength_5 : decode cX6_queueLength 5 = .ok (.invokevirtual 186, 3) := by decide +kernel
theorem dX6_queueLength_8 : decode cX6_queueLength 8 = .ok (.ireturn, 1) := by decide +kernel
theorem dX6_packetAt_0 : decode cX6_packetAt 0 = .ok (.aload_n 0, 1) := by decide +kernel
theorem dX6_packetAt_1 : decode cX6_packetAt 1 = .ok (.iload_n 1, 1) := by decide +kernel
theorem dX6_packetAt_2 : decode cX6_packetAt 2 = .ok (.iload_n 2, 1) := by decide +kernel
theorem dX6_packetAt_3 : decode cX6_packetAt 3 = .ok (.invokevirtual 75, 3) := by decide +kernel
theorem dX6_packetAt_6 : decode cX6_packetAt 6 = .ok (.ifCond .eq 28, 3) := by decide +kernel
theorem dX6_packetAt_9 : decode cX6_packetAt 9 = .ok (.iload_n 3, 1) := by decide +kernel
theorem dX6_packetAt_10 : decode cX6_packetAt 10 = .ok (.iconst 0, 1) := by decide +kernel
theorem dX6_packetAt_11 : decode cX6_packetAt 11 = .ok (.aload_n 0, 1) := by decide +kernel
theorem dX6_packetAt_12 : decode cX6_packetAt 12 = .ok (.getfield 7, 3) := by decide +kernel
theorem dX6_packetAt_15 : decode cX6_packetAt 15 = .ok (.iconst 3, 1) := by decide +kernel
theorem dX6_packetAt_16 : decode cX6_packetAt 16 = .ok (.iload_n 1, 1) := by decide +kernel
theorem dX6_packetAt_17 : decode cX6_packetAt 17 = .ok (.imul, 1) := by decide +kernel
theorem dX6_packetAt_18 : decode cX6_packetAt 18 = .ok (.iload_n 2, 1) := by decide +kernel
theorem dX6_packetAt_19 : decode cX6_packetAt 19 = .ok (.iadd, 1) := by decide +kernel
theorem dX6_packetAt_20 : decode cX6_packetAt 20 = .ok (.bipush 12, 2) := by decide +kernel
theorem dX6_packetAt_22 : decode cX6_packetAt 22 = .ok (.invokestatic 48, 3) := by decide +kernel
theorem dX6_packetAt_25 : decode cX6_packetAt 25 = .ok (.iaload, 1) := by decide +kernel
theorem dX6_packetAt_26 : decode cX6_packetAt 26 = .ok (.iconst 1, 1) := by decide +kernel
theorem dX6_packetAt_27 : decode cX6_packetAt 27 = .ok (.isub, 1) := by decide +kernel
theorem dX6_packetAt_28 : decode cX6_packetAt 28 = .ok (.invokestatic 36, 3) := by decide +kernel
theorem dX6_packetAt_31 : decode cX6_packetAt 31 = .ok (.ifCond .ne 5, 3) := by decide +kernel
theorem dX6_packetAt_34 : decode cX6_packetAt 34 = .ok (.iconst (-1), 1) := by decide +kernel
theorem dX6_packetAt_35 : decode cX6_packetAt 35 = .ok (.ireturn, 1) := by decide +kernel
theorem dX6_packetAt_36 : decode cX6_packetAt 36 = .ok (.aload_n 0, 1) := by decide +kernel
theorem dX6_packetAt_37 : decode cX6_packetAt 37 = .ok (.getfield 7, 3) := by decide +kernel
theorem dX6_packetAt_40 : decode cX6_packetAt 40 = .ok (.aload_n 0, 1) := by decide +kernel
theorem dX6_packetAt_41 : decode cX6_packetAt 41 = .ok (.getfield 7, 3) := by decide +kernel
theorem dX6_packetAt_44 : decode cX6_packetAt 44 = .ok (.iconst 3, 1) := by decide +kernel
theorem dX6_packetAt_45 : decode cX6_packetAt 45 = .ok (.iload_n 1, 1) := by decide +kernel
theorem dX6_packetAt_46 : decode cX6_packetAt 46 = .ok (.imul, 1) := by decide +kernel
theorem dX6_packetAt_47 : decode cX6_packetAt 47 = .ok (.iload_n 2, 1) := by decide +kernel
theorem dX6_packetAt_48 : decode cX6_packetAt 48 = .ok (.iadd, 1) := by decide +kernel
theorem dX6_packetAt_49 : decode cX6_packetAt 49 = .ok (.iload_n 3, 1) := by decide +kernel
theorem dX6_packetAt_50 : decode cX6_packetAt 50 = .ok (.invokestatic 107, 3) := by decide +kernel
theorem dX6_packetAt_53 : decode cX6_packetAt 53 = .ok (.iaload, 1) := by decide +kernel
theorem dX6_packetAt_54 : decode cX6_packetAt 54 = .ok (.iconst 0, 1) := by decide +kernel
theorem dX6_packetAt_55 : decode cX6_packetAt 55 = .ok (.invokestatic 92, 3) := by decide +kernel
theorem dX6_packetAt_58 : decode cX6_packetAt 58 = .ok (.iaload, 1) := by decide +kernel
theorem dX6_packetAt_59 : decode cX6_packetAt 59 = .ok (.ireturn, 1) := by decide +kernel
theorem dX6_fragments_0 : decode cX6_fragments 0 = .ok (.aload_n 0, 1) := by decide +kernel
theorem dX6_fragments_1 : decode cX6_fragments 1 = .ok (.iload_n 1, 1) := by decide +kernel
theorem dX6_fragments_2 : decode cX6_fragments 2 = .ok (.invokevirtual 190, 3) := by decide +kernel
theorem dX6_fragments_5 : decode cX6_fragments 5 = .ok (.istore_n 2, 1) := by decide +kernel
theorem dX6_fragments_6 : decode cX6_fragments 6 = .ok (.iload_n 2, 1) := by decide +kernel
theorem dX6_fragments_7 : decode cX6_fragments 7 = .ok (.ifCond .ge 7, 3) := by decide +kernel
theorem dX6_fragments_10 : decode cX6_fragments 10 = .ok (.iconst (-1), 1) := by decide +kernel
theorem dX6_fragments_11 : decode cX6_fragments 11 = .ok (.goto 13, 3) := by decide +kernel
theorem dX6_fragments_14 : decode cX6_fragments 14 = .ok (.aload_n 0, 1) := by decide +kernel
theorem dX6_fragments_15 : decode cX6_fragments 15 = .ok (.getfield 7, 3) := by decide +kernel
theorem dX6_fragments_18 : decode cX6_fragments 18 = .ok (.iload_n 2, 1) := by decide +kernel
theorem dX6_fragments_19 : decode cX6_fragments 19 = .ok (.iconst 2, 1) := by decide +kernel
theorem dX6_fragments_20 : decode cX6_fragments 20 = .ok (.invokestatic 92, 3) := by decide +kernel
theorem dX6_fragments_23 : decode cX6_fragments 23 = .ok (.iaload, 1) := by decide +kernel
theorem dX6_fragments_24 : decode cX6_fragments 24 = .ok (.ireturn, 1) := by decide +kernel
theorem dX6_ofFragment_0 : decode cX6_ofFragment 0 = .ok (.aload_n 0, 1) := by decide +kernel
theorem dX6_ofFragment_1 : decode cX6_ofFragment 1 = .ok (.iload_n 1, 1) := by decide +kernel
theorem dX6_ofFragment_2 : decode cX6_ofFragment 2 = .ok (.invokevirtual 190, 3) := by decide +kernel
theorem dX6_ofFragment_5 : decode cX6_ofFragment 5 = .ok (.istore 4, 2) := by decide +kernel
theorem dX6_ofFragment_7 : decode cX6_ofFragment 7 = .ok (.iload 4, 2) := by decide +kernel
theorem dX6_ofFragment_9 : decode cX6_ofFragment 9 = .ok (.ifCond .lt 40, 3) := by decide +kernel
theorem dX6_ofFragment_12 : decode cX6_ofFragment 12 = .ok (.iload_n 2, 1) := by decide +kernel
theorem dX6_ofFragment_13 : decode cX6_ofFragment 13 = .ok (.iconst 0, 1) := by decide +kernel
theorem dX6_ofFragment_14 : decode cX6_ofFragment 14 = .ok (.aload_n 0, 1) := by decide +kernel
theorem dX6_ofFragment_15 : decode cX6_ofFragment 15 = .ok (.getfield 7, 3) := by decide +kernel
theorem dX6_ofFragment_18 : decode cX6_ofFragment 18 = .ok (.iload 4, 2) := by decide +kernel
theorem dX6_ofFragment_20 : decode cX6_ofFragment 20 = .ok (.iconst 2, 1) := by decide +kernel
theorem dX6_ofFragment_21 : decode cX6_ofFragment 21 = .ok (.invokestatic 92, 3) := by decide +kernel
theorem dX6_ofFragment_24 : decode cX6_ofFragment 24 = .ok (.iaload, 1) := by decide +kernel
theorem dX6_ofFragment_25 : decode cX6_ofFragment 25 = .ok (.iconst 1, 1) := by decide +kernel
theorem dX6_ofFragment_26 : decode cX6_ofFragment 26 = .ok (.isub, 1) := by decide +kernel
theorem dX6_ofFragment_27 : decode cX6_ofFragment 27 = .ok (.invokestatic 36, 3) := by decide +kernel
theorem dX6_ofFragment_30 : decode cX6_ofFragment 30 = .ok (.ifCond .eq 19, 3) := by decide +kernel
theorem dX6_ofFragment_33 : decode cX6_ofFragment 33 = .ok (.aload_n 0, 1) := by decide +kernel
theorem dX6_ofFragment_34 : decode cX6_ofFragment 34 = .ok (.getfield 7, 3) := by decide +kernel
theorem dX6_ofFragment_37 : decode cX6_ofFragment 37 = .ok (.iload 4, 2) := by decide +kernel
theorem dX6_ofFragment_39 : decode cX6_ofFragment 39 = .ok (.iload_n 3, 1) := by decide +kernel
theorem dX6_ofFragment_40 : decode cX6_ofFragment 40 = .ok (.iload_n 2, 1) := by decide +kernel
theorem dX6_ofFragment_41 : decode cX6_ofFragment 41 = .ok (.iadd, 1) := by decide +kernel
theorem dX6_ofFragment_42 : decode cX6_ofFragment 42 = .ok (.invokestatic 92, 3) := by decide +kernel
theorem dX6_ofFragment_45 : decode cX6_ofFragment 45 = .ok (.iaload, 1) := by decide +kernel
theorem dX6_ofFragment_46 : decode cX6_ofFragment 46 = .ok (.goto 4, 3) := by decide +kernel
theorem dX6_ofFragment_49 : decode cX6_ofFragment 49 = .ok (.iconst (-1), 1) := by decide +kernel
theorem dX6_ofFragment_50 : decode cX6_ofFragment 50 = .ok (.ireturn, 1) := by decide +kernel
theorem dX6_fragmentStart_0 : decode cX6_fragmentStart 0 = .ok (.aload_n 0, 1) := by decide +kernel
theorem dX6_fragmentStart_1 : decode cX6_fragmentStart 1 = .ok (.iload_n 1, 1) := by decide +kernel
theorem dX6_fragmentStart_2 : decode cX6_fragmentStart 2 = .ok (.iload_n 2, 1) := by decide +kernel
theorem dX6_fragmentStart_3 : decode cX6_fragmentStart 3 = .ok (.iconst 4, 1) := by decide +kernel
theorem dX6_fragmentStart_4 : decode cX6_fragmentStart 4 = .ok (.invokevirtual 193, 3) := by decide +kernel
theorem dX6_fragmentStart_7 : decode cX6_fragmentStart 7 = .ok (.ireturn, 1) := by decide +kernel
theorem dX6_fragmentLength_0 : decode cX6_fragmentLength 0 = .ok (.aload_n 0, 1) := by decide +kernel
theorem dX6_fragmentLength_1 : decode cX6_fragmentLength 1 = .ok (.iload_n 1, 1) := by decide +kernel
theorem dX6_fragmentLength_2 : decode cX6_fragmentLength 2 = .ok (.iload_n 2, 1) := by decide +kernel
theorem dX6_fragmentLength_3 : decode cX6_fragmentLength 3 = .ok (.bipush 16, 2) := by decide +kernel
theorem dX6_fragmentLength_5 : decode cX6_fragmentLength 5 = .ok (.invokevirtual 193, 3) := by decide +kernel
theorem dX6_fragmentLength_8 : decode cX6_fragmentLength 8 = .ok (.ireturn, 1) := by decide +kernel
theorem dX6_freeRuns_0 : decode cX6_freeRuns 0 = .ok (.iconst 0, 1) := by decide +kernel
theorem dX6_freeRuns_1 : decode cX6_freeRuns 1 = .ok (.istore_n 1, 1) := by decide +kernel
theorem dX6_freeRuns_2 : decode cX6_freeRuns 2 = .ok (.iconst 0, 1) := by decide +kernel
theorem dX6_freeRuns_3 : decode cX6_freeRuns 3 = .ok (.istore_n 2, 1) := by decide +kernel
theorem dX6_freeRuns_4 : decode cX6_freeRuns 4 = .ok (.iload_n 2, 1) := by decide +kernel
theorem dX6_freeRuns_5 : decode cX6_freeRuns 5 = .ok (.aload_n 0, 1) := by decide +kernel
theorem dX6_freeRuns_6 : decode cX6_freeRuns 6 = .ok (.getfield 7, 3) := by decide +kernel
theorem dX6_freeRuns_9 : decode cX6_freeRuns 9 = .ok (.iconst 0, 1) := by decide +kernel
theorem dX6_freeRuns_10 : decode cX6_freeRuns 10 = .ok (.iaload, 1) := by decide +kernel
theorem dX6_freeRuns_11 : decode cX6_freeRuns 11 = .ok (.if_icmp .ge 25, 3) := by decide +kernel
theorem dX6_freeRuns_14 : decode cX6_freeRuns 14 = .ok (.iload_n 1, 1) := by decide +kernel
theorem dX6_freeRuns_15 : decode cX6_freeRuns 15 = .ok (.aload_n 0, 1) := by decide +kernel
theorem dX6_freeRuns_16 : decode cX6_freeRuns 16 = .ok (.iload_n 2, 1) := by decide +kernel
theorem dX6_freeRuns_17 : decode cX6_freeRuns 17 = .ok (.invokevirtual 98, 3) := by decide +kernel
theorem dX6_freeRuns_20 : decode cX6_freeRuns 20 = .ok (.ifCond .le 7, 3) := by decide +kernel
theorem dX6_freeRuns_23 : decode cX6_freeRuns 23 = .ok (.iconst 1, 1) := by decide +kernel
theorem dX6_freeRuns_24 : decode cX6_freeRuns 24 = .ok (.goto 4, 3) := by decide +kernel
theorem dX6_freeRuns_27 : decode cX6_freeRuns 27 = .ok (.iconst 0, 1) := by decide +kernel
theorem dX6_freeRuns_28 : decode cX6_freeRuns 28 = .ok (.iadd, 1) := by decide +kernel
theorem dX6_freeRuns_29 : decode cX6_freeRuns 29 = .ok (.istore_n 1, 1) := by decide +kernel
theorem dX6_freeRuns_30 : decode cX6_freeRuns 30 = .ok (.iinc 2 1, 3) := by decide +kernel
theorem dX6_freeRuns_33 : decode cX6_freeRuns 33 = .ok (.goto (-29), 3) := by decide +kernel
theorem dX6_freeRuns_36 : decode cX6_freeRuns 36 = .ok (.iload_n 1, 1) := by decide +kernel
theorem dX6_freeRuns_37 : decode cX6_freeRuns 37 = .ok (.ireturn, 1) := by decide +kernel
theorem dX6_beginOf_0 : decode cX6_beginOf 0 = .ok (.iload_n 1, 1) := by decide +kernel
theorem dX6_beginOf_1 : decode cX6_beginOf 1 = .ok (.istore_n 2, 1) := by decide +kernel
theorem dX6_beginOf_2 : decode cX6_beginOf 2 = .ok (.iconst 0, 1) := by decide +kernel
theorem dX6_beginOf_3 : decode cX6_beginOf 3 = .ok (.istore_n 3, 1) := by decide +kernel
theorem dX6_beginOf_4 : decode cX6_beginOf 4 = .ok (.iload_n 3, 1) := by decide +kernel
theorem dX6_beginOf_5 : decode cX6_beginOf 5 = .ok (.aload_n 0, 1) := by decide +kernel
theorem dX6_beginOf_6 : decode cX6_beginOf 6 = .ok (.getfield 7, 3) := by decide +kernel
theorem dX6_beginOf_9 : decode cX6_beginOf 9 = .ok (.iconst 0, 1) := by decide +kernel
theorem dX6_beginOf_10 : decode cX6_beginOf 10 = .ok (.iaload, 1) := by decide +kernel
theorem dX6_beginOf_11 : decode cX6_beginOf 11 = .ok (.if_icmp .ge 26, 3) := by decide +kernel
theorem dX6_beginOf_14 : decode cX6_beginOf 14 = .ok (.aload_n 0, 1) := by decide +kernel
theorem dX6_beginOf_15 : decode cX6_beginOf 15 = .ok (.iload_n 3, 1) := by decide +kernel
theorem dX6_beginOf_16 : decode cX6_beginOf 16 = .ok (.invokevirtual 98, 3) := by decide +kernel
theorem dX6_beginOf_19 : decode cX6_beginOf 19 = .ok (.ifCond .le 12, 3) := by decide +kernel
theorem dX6_beginOf_22 : decode cX6_beginOf 22 = .ok (.iload_n 2, 1) := by decide +kernel
theorem dX6_beginOf_23 : decode cX6_beginOf 23 = .ok (.ifCond .ne 5, 3) := by decide +kernel
theorem dX6_beginOf_26 : decode cX6_beginOf 26 = .ok (.iload_n 3, 1) := by decide +kernel
theorem dX6_beginOf_27 : decode cX6_beginOf 27 = .ok (.ireturn, 1) := by decide +kernel
theorem dX6_beginOf_28 : decode cX6_beginOf 28 = .ok (.iinc 2 (-1), 3) := by decide +kernel
theorem dX6_beginOf_31 : decode cX6_beginOf 31 = .ok (.iinc 3 1, 3) := by decide +kernel
theorem dX6_beginOf_34 : decode cX6_beginOf 34 = .ok (.goto (-30), 3) := by decide +kernel
theorem dX6_beginOf_37 : decode cX6_beginOf 37 = .ok (.iconst (-1), 1) := by decide +kernel
theorem dX6_beginOf_38 : decode cX6_beginOf 38 = .ok (.ireturn, 1) := by decide +kernel
theorem dX6_runStart_0 : decode cX6_runStart 0 = .ok (.iload_n 1, 1) := by decide +kernel
theorem dX6_runStart_1 : decode cX6_runStart 1 = .ok (.ifCond .ge 7, 3) := by decide +kernel
theorem dX6_runStart_4 : decode cX6_runStart 4 = .ok (.iconst (-1), 1) := by decide +kernel
theorem dX6_runStart_5 : decode cX6_runStart 5 = .ok (.goto 20, 3) := by decide +kernel
theorem dX6_runStart_8 : decode cX6_runStart 8 = .ok (.aload_n 0, 1) := by decide +kernel
theorem dX6_runStart_9 : decode cX6_runStart 9 = .ok (.iload_n 1, 1) := by decide +kernel
theorem dX6_runStart_10 : decode cX6_runStart 10 = .ok (.invokevirtual 196, 3) := by decide +kernel
theorem dX6_runStart_13 : decode cX6_runStart 13 = .ok (.ifCond .ge 7, 3) := by decide +kernel
theorem dX6_runStart_16 : decode cX6_runStart 16 = .ok (.iconst (-1), 1) := by decide +kernel
theorem dX6_runStart_17 : decode cX6_runStart 17 = .ok (.goto 8, 3) := by decide +kernel
theorem dX6_runStart_20 : decode cX6_runStart 20 = .ok (.aload_n 0, 1) := by decide +kernel
theorem dX6_runStart_21 : decode cX6_runStart 21 = .ok (.iload_n 1, 1) := by decide +kernel
theorem dX6_runStart_22 : decode cX6_runStart 22 = .ok (.invokevirtual 196, 3) := by decide +kernel
theorem dX6_runStart_25 : decode cX6_runStart 25 = .ok (.ireturn, 1) := by decide +kernel
theorem dX6_runLength_0 : decode cX6_runLength 0 = .ok (.iload_n 1, 1) := by decide +kernel
theorem dX6_runLength_1 : decode cX6_runLength 1 = .ok (.ifCond .ge 7, 3) := by decide +kernel
theorem dX6_runLength_4 : decode cX6_runLength 4 = .ok (.iconst (-1), 1) := by decide +kernel
theorem dX6_runLength_5 : decode cX6_runLength 5 = .ok (.goto 8, 3) := by decide +kernel
theorem dX6_runLength_8 : decode cX6_runLength 8 = .ok (.aload_n 0, 1) := by decide +kernel
theorem dX6_runLength_9 : decode cX6_runLength 9 = .ok (.iload_n 1, 1) := by decide +kernel
theorem dX6_runLength_10 : decode cX6_runLength 10 = .ok (.invokevirtual 196, 3) := by decide +kernel
theorem dX6_runLength_13 : decode cX6_runLength 13 = .ok (.istore_n 2, 1) := by decide +kernel
theorem dX6_runLength_14 : decode cX6_runLength 14 = .ok (.iload_n 2, 1) := by decide +kernel
theorem dX6_runLength_15 : decode cX6_runLength 15 = .ok (.ifCond .ge 7, 3) := by decide +kernel
theorem dX6_runLength_18 : decode cX6_runLength 18 = .ok (.iconst (-1), 1) := by decide +kernel
theorem dX6_runLength_19 : decode cX6_runLength 19 = .ok (.goto 8, 3) := by decide +kernel
theorem dX6_runLength_22 : decode cX6_runLength 22 = .ok (.aload_n 0, 1) := by decide +kernel
theorem dX6_runLength_23 : decode cX6_runLength 23 = .ok (.iload_n 2, 1) := by decide +kernel
theorem dX6_runLength_24 : decode cX6_runLength 24 = .ok (.invokevirtual 98, 3) := by decide +kernel
theorem dX6_runLength_27 : decode cX6_runLength 27 = .ok (.ireturn, 1) := by decide +kernel
theorem dX6_stageFor_0 : decode cX6_stageFor 0 = .ok (.aload_n 0, 1) := by decide +kernel
theorem dX6_stageFor_1 : decode cX6_stageFor 1 = .ok (.iload_n 1, 1) := by decide +kernel
theorem dX6_stageFor_2 : decode cX6_stageFor 2 = .ok (.iload_n 2, 1) := by decide +kernel
theorem dX6_stageFor_3 : decode cX6_stageFor 3 = .ok (.invokevirtual 75, 3) := by decide +kernel
theorem dX6_stageFor_6 : decode cX6_stageFor 6 = .ok (.ifCond .ne 5, 3) := by decide +kernel
theorem dX6_stageFor_9 : decode cX6_stageFor 9 = .ok (.iconst (-1), 1) := by decide +kernel
theorem dX6_stageFor_10 : decode cX6_stageFor 10 = .ok (.ireturn, 1) := by decide +kernel
theorem dX6_stageFor_11 : decode cX6_stageFor 11 = .ok (.iload_n 3, 1) := by decide +kernel
theorem dX6_stageFor_12 : decode cX6_stageFor 12 = .ok (.iconst 1, 1) := by decide +kernel
theorem dX6_stageFor_13 : decode cX6_stageFor 13 = .ok (.bipush 12, 2) := by decide +kernel
theorem dX6_stageFor_15 : decode cX6_stageFor 15 = .ok (.invokestatic 36, 3) := by decide +kernel
theorem dX6_stageFor_18 : decode cX6_stageFor 18 = .ok (.ifCond .ne 6, 3) := by decide +kernel
theorem dX6_stageFor_21 : decode cX6_stageFor 21 = .ok (.bipush (-2), 2) := by decide +kernel
theorem dX6_stageFor_23 : decode cX6_stageFor 23 = .ok (.ireturn, 1) := by decide +kernel
theorem dX6_stageFor_24 : decode cX6_stageFor 24 = .ok (.aload_n 0, 1) := by decide +kernel
theorem dX6_stageFor_25 : decode cX6_stageFor 25 = .ok (.iconst 3, 1) := by decide +kernel
theorem dX6_stageFor_26 : decode cX6_stageFor 26 = .ok (.iload_n 1, 1) := by decide +kernel
theorem dX6_stageFor_27 : decode cX6_stageFor 27 = .ok (.imul, 1) := by decide +kernel
theorem dX6_stageFor_28 : decode cX6_stageFor 28 = .ok (.iload_n 2, 1) := by decide +kernel
theorem dX6_stageFor_29 : decode cX6_stageFor 29 = .ok (.iadd, 1) := by decide +kernel
theorem dX6_stageFor_30 : decode cX6_stageFor 30 = .ok (.iload_n 3, 1) := by decide +kernel
theorem dX6_stageFor_31 : decode cX6_stageFor 31 = .ok (.invokevirtual 142, 3) := by decide +kernel
theorem dX6_stageFor_34 : decode cX6_stageFor 34 = .ok (.istore 4, 2) := by decide +kernel
theorem dX6_stageFor_36 : decode cX6_stageFor 36 = .ok (.iload 4, 2) := by decide +kernel
theorem dX6_stageFor_38 : decode cX6_stageFor 38 = .ok (.ifCond .ne 8, 3) := by decide +kernel
theorem dX6_stageFor_41 : decode cX6_stageFor 41 = .ok (.bipush (-6), 2) := by decide +kernel
theorem dX6_stageFor_43 : decode cX6_stageFor 43 = .ok (.goto 5, 3) := by decide +kernel
theorem dX6_stageFor_46 : decode cX6_stageFor 46 = .ok (.iload 4, 2) := by decide +kernel
theorem dX6_stageFor_48 : decode cX6_stageFor 48 = .ok (.ireturn, 1) := by decide +kernel
theorem dX6_largestAdmissible_0 : decode cX6_largestAdmissible 0 = .ok (.aload_n 0, 1) := by decide +kernel
theorem dX6_largestAdmissible_1 : decode cX6_largestAdmissible 1 = .ok (.iload_n 1, 1) := by decide +kernel
theorem dX6_largestAdmissible_2 : decode cX6_largestAdmissible 2 = .ok (.iload_n 2, 1) := by decide +kernel
theorem dX6_largestAdmissible_3 : decode cX6_largestAdmissible 3 = .ok (.invokevirtual 75, 3) := by decide +kernel
theorem dX6_largestAdmissible_6 : decode cX6_largestAdmissible 6 = .ok (.ifCond .ne 5, 3) := by decide +kernel
theorem dX6_largestAdmissible_9 : decode cX6_largestAdmissible 9 = .ok (.iconst (-1), 1) := by decide +kernel
theorem dX6_largestAdmissible_10 : decode cX6_largestAdmissible 10 = .ok (.ireturn, 1) := by decide +kernel
theorem dX6_largestAdmissible_11 : decode cX6_largestAdmissible 11 = .ok (.bipush 12, 2) := by decide +kernel
theorem dX6_largestAdmissible_13 : decode cX6_largestAdmissible 13 = .ok (.istore_n 3, 1) := by decide +kernel
theorem dX6_largestAdmissible_14 : decode cX6_largestAdmissible 14 = .ok (.iload_n 3, 1) := by decide +kernel
theorem dX6_largestAdmissible_15 : decode cX6_largestAdmissible 15 = .ok (.ifCond .le 22, 3) := by decide +kernel
theorem dX6_largestAdmissible_18 : decode cX6_largestAdmissible 18 = .ok (.aload_n 0, 1) := by decide +kernel
theorem dX6_largestAdmissible_19 : decode cX6_largestAdmissible 19 = .ok (.iconst 3, 1) := by decide +kernel
theorem dX6_largestAdmissible_20 : decode cX6_largestAdmissible 20 = .ok (.iload_n 1, 1) := by decide +kernel
theorem dX6_largestAdmissible_21 : decode cX6_largestAdmissible 21 = .ok (.imul, 1) := by decide +kernel
theorem dX6_largestAdmissible_22 : decode cX6_largestAdmissible 22 = .ok (.iload_n 2, 1) := by decide +kernel
theorem dX6_largestAdmissible_23 : decode cX6_largestAdmissible 23 = .ok (.iadd, 1) := by decide +kernel
theorem dX6_largestAdmissible_24 : decode cX6_largestAdmissible 24 = .ok (.iload_n 3, 1) := by decide +kernel
theorem dX6_largestAdmissible_25 : decode cX6_largestAdmissible 25 = .ok (.invokevirtual 142, 3) := by decide +kernel
theorem dX6_largestAdmissible_28 : decode cX6_largestAdmissible 28 = .ok (.ifCond .ne 9, 3) := by decide +kernel
theorem dX6_largestAdmissible_31 : decode cX6_largestAdmissible 31 = .ok (.iinc 3 (-1), 3) := by decide +kernel
theorem dX6_largestAdmissible_34 : decode cX6_largestAdmissible 34 = .ok (.goto (-20), 3) := by decide +kernel
theorem dX6_largestAdmissible_37 : decode cX6_largestAdmissible 37 = .ok (.iload_n 3, 1) := by decide +kernel
theorem dX6_largestAdmissible_38 : decode cX6_largestAdmissible 38 = .ok (.ireturn, 1) := by decide +kernel
theorem dX6_burstCapacity_0 : decode cX6_burstCapacity 0 = .ok (.aload_n 0, 1) := by decide +kernel
theorem dX6_burstCapacity_1 : decode cX6_burstCapacity 1 = .ok (.iload_n 1, 1) := by decide +kernel
theorem dX6_burstCapacity_2 : decode cX6_burstCapacity 2 = .ok (.iload_n 2, 1) := by decide +kernel
theorem dX6_burstCapacity_3 : decode cX6_burstCapacity 3 = .ok (.invokevirtual 75, 3) := by decide +kernel
theorem dX6_burstCapacity_6 : decode cX6_burstCapacity 6 = .ok (.ifCond .ne 5, 3) := by decide +kernel
theorem dX6_burstCapacity_9 : decode cX6_burstCapacity 9 = .ok (.iconst (-1), 1) := by decide +kernel
theorem dX6_burstCapacity_10 : decode cX6_burstCapacity 10 = .ok (.ireturn, 1) := by decide +kernel
theorem dX6_burstCapacity_11 : decode cX6_burstCapacity 11 = .ok (.iload_n 3, 1) := by decide +kernel
theorem dX6_burstCapacity_12 : decode cX6_burstCapacity 12 = .ok (.iconst 1, 1) := by decide +kernel
theorem dX6_burstCapacity_13 : decode cX6_burstCapacity 13 = .ok (.bipush 12, 2) := by decide +kernel
theorem dX6_burstCapacity_15 : decode cX6_burstCapacity 15 = .ok (.invokestatic 36, 3) := by decide +kernel
theorem dX6_burstCapacity_18 : decode cX6_burstCapacity 18 = .ok (.ifCond .ne 6, 3) := by decide +kernel
theorem dX6_burstCapacity_21 : decode cX6_burstCapacity 21 = .ok (.bipush (-2), 2) := by decide +kernel
theorem dX6_burstCapacity_23 : decode cX6_burstCapacity 23 = .ok (.ireturn, 1) := by decide +kernel
theorem dX6_burstCapacity_24 : decode cX6_burstCapacity 24 = .ok (.iconst 3, 1) := by decide +kernel
theorem dX6_burstCapacity_25 : decode cX6_burstCapacity 25 = .ok (.iload_n 1, 1) := by decide +kernel
theorem dX6_burstCapacity_26 : decode cX6_burstCapacity 26 = .ok (.imul, 1) := by decide +kernel
theorem dX6_burstCapacity_27 : decode cX6_burstCapacity 27 = .ok (.iload_n 2, 1) := by decide +kernel
theorem dX6_burstCapacity_28 : decode cX6_burstCapacity 28 = .ok (.iadd, 1) := by decide +kernel
theorem dX6_burstCapacity_29 : decode cX6_burstCapacity 29 = .ok (.istore 4, 2) := by decide +kernel
theorem dX6_burstCapacity_31 : decode cX6_burstCapacity 31 = .ok (.aload_n 0, 1) := by decide +kernel
theorem dX6_burstCapacity_32 : decode cX6_burstCapacity 32 = .ok (.invokevirtual 83, 3) := by decide +kernel
theorem dX6_burstCapacity_35 : decode cX6_burstCapacity 35 = .ok (.aload_n 0, 1) := by decide +kernel
theorem dX6_burstCapacity_36 : decode cX6_burstCapacity 36 = .ok (.getfield 7, 3) := by decide +kernel
theorem dX6_burstCapacity_39 : decode cX6_burstCapacity 39 = .ok (.iconst 2, 1) := by decide +kernel
theorem dX6_burstCapacity_40 : decode cX6_burstCapacity 40 = .ok (.iconst 0, 1) := by decide +kernel
theorem dX6_burstCapacity_41 : decode cX6_burstCapacity 41 = .ok (.iastore, 1) := by decide +kernel
theorem dX6_burstCapacity_42 : decode cX6_burstCapacity 42 = .ok (.iconst 0, 1) := by decide +kernel
theorem dX6_burstCapacity_43 : decode cX6_burstCapacity 43 = .ok (.istore 5, 2) := by decide +kernel
theorem dX6_burstCapacity_45 : decode cX6_burstCapacity 45 = .ok (.aload_n 0, 1) := by decide +kernel
theorem dX6_burstCapacity_46 : decode cX6_burstCapacity 46 = .ok (.iload 4, 2) := by decide +kernel
theorem dX6_burstCapacity_48 : decode cX6_burstCapacity 48 = .ok (.iload_n 3, 1) := by decide +kernel
theorem dX6_burstCapacity_49 : decode cX6_burstCapacity 49 = .ok (.invokevirtual 142, 3) := by decide +kernel
theorem dX6_burstCapacity_52 : decode cX6_burstCapacity 52 = .ok (.istore 6, 2) := by decide +kernel
theorem dX6_burstCapacity_54 : decode cX6_burstCapacity 54 = .ok (.iload 6, 2) := by decide +kernel
theorem dX6_burstCapacity_56 : decode cX6_burstCapacity 56 = .ok (.ifCond .le 27, 3) := by decide +kernel
theorem dX6_burstCapacity_59 : decode cX6_burstCapacity 59 = .ok (.aload_n 0, 1) := by decide +kernel
theorem dX6_burstCapacity_60 : decode cX6_burstCapacity 60 = .ok (.iload 4, 2) := by decide +kernel
theorem dX6_burstCapacity_62 : decode cX6_burstCapacity 62 = .ok (.iload_n 3, 1) := by decide +kernel
theorem dX6_burstCapacity_63 : decode cX6_burstCapacity 63 = .ok (.iload 6, 2) := by decide +kernel
theorem dX6_burstCapacity_65 : decode cX6_burstCapacity 65 = .ok (.invokevirtual 148, 3) := by decide +kernel
theorem dX6_burstCapacity_68 : decode cX6_burstCapacity 68 = .ok (.iinc 5 1, 3) := by decide +kernel
theorem dX6_burstCapacity_71 : decode cX6_burstCapacity 71 = .ok (.aload_n 0, 1) := by decide +kernel
theorem dX6_burstCapacity_72 : decode cX6_burstCapacity 72 = .ok (.iload 4, 2) := by decide +kernel
theorem dX6_burstCapacity_74 : decode cX6_burstCapacity 74 = .ok (.iload_n 3, 1) := by decide +kernel
theorem dX6_burstCapacity_75 : decode cX6_burstCapacity 75 = .ok (.invokevirtual 142, 3) := by decide +kernel
theorem dX6_burstCapacity_78 : decode cX6_burstCapacity 78 = .ok (.istore 6, 2) := by decide +kernel
theorem dX6_burstCapacity_80 : decode cX6_burstCapacity 80 = .ok (.goto (-26), 3) := by decide +kernel
theorem dX6_burstCapacity_83 : decode cX6_burstCapacity 83 = .ok (.aload_n 0, 1) := by decide +kernel
theorem dX6_burstCapacity_84 : decode cX6_burstCapacity 84 = .ok (.invokevirtual 89, 3) := by decide +kernel
theorem dX6_burstCapacity_87 : decode cX6_burstCapacity 87 = .ok (.iload 5, 2) := by decide +kernel
theorem dX6_burstCapacity_89 : decode cX6_burstCapacity 89 = .ok (.ireturn, 1) := by decide +kernel
theorem dX6_drainTicks_0 : decode cX6_drainTicks 0 = .ok (.aload_n 0, 1) := by decide +kernel
theorem dX6_drainTicks_1 : decode cX6_drainTicks 1 = .ok (.iload_n 1, 1) := by decide +kernel
theorem dX6_drainTicks_2 : decode cX6_drainTicks 2 = .ok (.invokevirtual 40, 3) := by decide +kernel
theorem dX6_drainTicks_5 : decode cX6_drainTicks 5 = .ok (.ifCond .ne 5, 3) := by decide +kernel
theorem dX6_drainTicks_8 : decode cX6_drainTicks 8 = .ok (.iconst (-1), 1) := by decide +kernel
theorem dX6_drainTicks_9 : decode cX6_drainTicks 9 = .ok (.ireturn, 1) := by decide +kernel
theorem dX6_drainTicks_10 : decode cX6_drainTicks 10 = .ok (.aload_n 0, 1) := by decide +kernel
theorem dX6_drainTicks_11 : decode cX6_drainTicks 11 = .ok (.invokevirtual 83, 3) := by decide +kernel
theorem dX6_drainTicks_14 : decode cX6_drainTicks 14 = .ok (.iconst 0, 1) := by decide +kernel
theorem dX6_drainTicks_15 : decode cX6_drainTicks 15 = .ok (.istore_n 2, 1) := by decide +kernel
theorem dX6_drainTicks_16 : decode cX6_drainTicks 16 = .ok (.aload_n 0, 1) := by decide +kernel
theorem dX6_drainTicks_17 : decode cX6_drainTicks 17 = .ok (.iload_n 1, 1) := by decide +kernel
theorem dX6_drainTicks_18 : decode cX6_drainTicks 18 = .ok (.invokevirtual 110, 3) := by decide +kernel
theorem dX6_drainTicks_21 : decode cX6_drainTicks 21 = .ok (.ifCond .eq 45, 3) := by decide +kernel
theorem dX6_drainTicks_24 : decode cX6_drainTicks 24 = .ok (.iload_n 2, 1) := by decide +kernel
theorem dX6_drainTicks_25 : decode cX6_drainTicks 25 = .ok (.ifCond .lt 41, 3) := by decide +kernel
theorem dX6_drainTicks_28 : decode cX6_drainTicks 28 = .ok (.aload_n 0, 1) := by decide +kernel
theorem dX6_drainTicks_29 : decode cX6_drainTicks 29 = .ok (.iload_n 1, 1) := by decide +kernel
theorem dX6_drainTicks_30 : decode cX6_drainTicks 30 = .ok (.invokevirtual 163, 3) := by decide +kernel
theorem dX6_drainTicks_33 : decode cX6_drainTicks 33 = .ok (.pop, 1) := by decide +kernel
theorem dX6_drainTicks_34 : decode cX6_drainTicks 34 = .ok (.aload_n 0, 1) := by decide +kernel
theorem dX6_drainTicks_35 : decode cX6_drainTicks 35 = .ok (.iload_n 1, 1) := by decide +kernel
theorem dX6_drainTicks_36 : decode cX6_drainTicks 36 = .ok (.invokevirtual 110, 3) := by decide +kernel
theorem dX6_drainTicks_39 : decode cX6_drainTicks 39 = .ok (.ifCond .eq 20, 3) := by decide +kernel
theorem dX6_drainTicks_42 : decode cX6_drainTicks 42 = .ok (.aload_n 0, 1) := by decide +kernel
theorem dX6_drainTicks_43 : decode cX6_drainTicks 43 = .ok (.getfield 7, 3) := by decide +kernel
theorem dX6_drainTicks_46 : decode cX6_drainTicks 46 = .ok (.iload_n 1, 1) := by decide +kernel
theorem dX6_drainTicks_47 : decode cX6_drainTicks 47 = .ok (.iconst 5, 1) := by decide +kernel
theorem dX6_drainTicks_48 : decode cX6_drainTicks 48 = .ok (.invokestatic 44, 3) := by decide +kernel
theorem dX6_drainTicks_51 : decode cX6_drainTicks 51 = .ok (.iaload, 1) := by decide +kernel
theorem dX6_drainTicks_52 : decode cX6_drainTicks 52 = .ok (.ifCond .ne 7, 3) := by decide +kernel
theorem dX6_drainTicks_55 : decode cX6_drainTicks 55 = .ok (.iconst (-1), 1) := by decide +kernel
theorem dX6_drainTicks_56 : decode cX6_drainTicks 56 = .ok (.goto 6, 3) := by decide +kernel
theorem dX6_drainTicks_59 : decode cX6_drainTicks 59 = .ok (.iload_n 2, 1) := by decide +kernel
theorem dX6_drainTicks_60 : decode cX6_drainTicks 60 = .ok (.iconst 1, 1) := by decide +kernel
theorem dX6_drainTicks_61 : decode cX6_drainTicks 61 = .ok (.iadd, 1) := by decide +kernel
theorem dX6_drainTicks_62 : decode cX6_drainTicks 62 = .ok (.istore_n 2, 1) := by decide +kernel
theorem dX6_drainTicks_63 : decode cX6_drainTicks 63 = .ok (.goto (-47), 3) := by decide +kernel
theorem dX6_drainTicks_66 : decode cX6_drainTicks 66 = .ok (.aload_n 0, 1) := by decide +kernel
theorem dX6_drainTicks_67 : decode cX6_drainTicks 67 = .ok (.invokevirtual 89, 3) := by decide +kernel
theorem dX6_drainTicks_70 : decode cX6_drainTicks 70 = .ok (.iload_n 2, 1) := by decide +kernel
theorem dX6_drainTicks_71 : decode cX6_drainTicks 71 = .ok (.ifCond .ge 8, 3) := by decide +kernel
theorem dX6_drainTicks_74 : decode cX6_drainTicks 74 = .ok (.bipush (-5), 2) := by decide +kernel
theorem dX6_drainTicks_76 : decode cX6_drainTicks 76 = .ok (.goto 4, 3) := by decide +kernel
theorem dX6_drainTicks_79 : decode cX6_drainTicks 79 = .ok (.iload_n 2, 1) := by decide +kernel
theorem dX6_drainTicks_80 : decode cX6_drainTicks 80 = .ok (.ireturn, 1) := by decide +kernel
theorem dX6_equilibrium_0 : decode cX6_equilibrium 0 = .ok (.iload_n 1, 1) := by decide +kernel
theorem dX6_equilibrium_1 : decode cX6_equilibrium 1 = .ok (.ifCond .lt 17, 3) := by decide +kernel
theorem dX6_equilibrium_4 : decode cX6_equilibrium 4 = .ok (.iload_n 1, 1) := by decide +kernel
theorem dX6_equilibrium_5 : decode cX6_equilibrium 5 = .ok (.iconst 1, 1) := by decide +kernel
theorem dX6_equilibrium_6 : decode cX6_equilibrium 6 = .ok (.iconst 3, 1) := by decide +kernel
theorem dX6_equilibrium_7 : decode cX6_equilibrium 7 = .ok (.aload_n 0, 1) := by decide +kernel
theorem dX6_equilibrium_8 : decode cX6_equilibrium 8 = .ok (.getfield 7, 3) := by decide +kernel
theorem dX6_equilibrium_11 : decode cX6_equilibrium 11 = .ok (.iconst 1, 1) := by decide +kernel
theorem dX6_equilibrium_12 : decode cX6_equilibrium 12 = .ok (.iaload, 1) := by decide +kernel
theorem dX6_equilibrium_13 : decode cX6_equilibrium 13 = .ok (.imul, 1) := by decide +kernel
theorem dX6_equilibrium_14 : decode cX6_equilibrium 14 = .ok (.ishl, 1) := by decide +kernel
theorem dX6_equilibrium_15 : decode cX6_equilibrium 15 = .ok (.if_icmp .lt 6, 3) := by decide +kernel
theorem dX6_equilibrium_18 : decode cX6_equilibrium 18 = .ok (.bipush (-2), 2) := by decide +kernel
theorem dX6_equilibrium_20 : decode cX6_equilibrium 20 = .ok (.ireturn, 1) := by decide +kernel
theorem dX6_equilibrium_21 : decode cX6_equilibrium 21 = .ok (.bipush 8, 2) := by decide +kernel
theorem dX6_equilibrium_23 : decode cX6_equilibrium 23 = .ok (.istore_n 3, 1) := by decide +kernel
theorem dX6_equilibrium_24 : decode cX6_equilibrium 24 = .ok (.iconst 0, 1) := by decide +kernel
theorem dX6_equilibrium_25 : decode cX6_equilibrium 25 = .ok (.istore 4, 2) := by decide +kernel
theorem dX6_equilibrium_27 : decode cX6_equilibrium 27 = .ok (.iload 4, 2) := by decide +kernel
theorem dX6_equilibrium_29 : decode cX6_equilibrium 29 = .ok (.iconst 3, 1) := by decide +kernel
theorem dX6_equilibrium_30 : decode cX6_equilibrium 30 = .ok (.aload_n 0, 1) := by decide +kernel
theorem dX6_equilibrium_31 : decode cX6_equilibrium 31 = .ok (.getfield 7, 3) := by decide +kernel
theorem dX6_equilibrium_34 : decode cX6_equilibrium 34 = .ok (.iconst 1, 1) := by decide +kernel
theorem dX6_equilibrium_35 : decode cX6_equilibrium 35 = .ok (.iaload, 1) := by decide +kernel
theorem dX6_equilibrium_36 : decode cX6_equilibrium 36 = .ok (.imul, 1) := by decide +kernel
theorem dX6_equilibrium_37 : decode cX6_equilibrium 37 = .ok (.if_icmp .ge 37, 3) := by decide +kernel
theorem dX6_equilibrium_40 : decode cX6_equilibrium 40 = .ok (.iload_n 3, 1) := by decide +kernel
theorem dX6_equilibrium_41 : decode cX6_equilibrium 41 = .ok (.iload_n 1, 1) := by decide +kernel
theorem dX6_equilibrium_42 : decode cX6_equilibrium 42 = .ok (.iload 4, 2) := by decide +kernel
theorem dX6_equilibrium_44 : decode cX6_equilibrium 44 = .ok (.ishr, 1) := by decide +kernel
theorem dX6_equilibrium_45 : decode cX6_equilibrium 45 = .ok (.iconst 1, 1) := by decide +kernel
theorem dX6_equilibrium_46 : decode cX6_equilibrium 46 = .ok (.iand, 1) := by decide +kernel
theorem dX6_equilibrium_47 : decode cX6_equilibrium 47 = .ok (.iconst 1, 1) := by decide +kernel
theorem dX6_equilibrium_48 : decode cX6_equilibrium 48 = .ok (.if_icmp .ne 17, 3) := by decide +kernel
theorem dX6_equilibrium_51 : decode cX6_equilibrium 51 = .ok (.aload_n 0, 1) := by decide +kernel
theorem dX6_equilibrium_52 : decode cX6_equilibrium 52 = .ok (.getfield 7, 3) := by decide +kernel
theorem dX6_equilibrium_55 : decode cX6_equilibrium 55 = .ok (.iload 4, 2) := by decide +kernel
theorem dX6_equilibrium_57 : decode cX6_equilibrium 57 = .ok (.iconst 0, 1) := by decide +kernel
theorem dX6_equilibrium_58 : decode cX6_equilibrium 58 = .ok (.invokestatic 48, 3) := by decide +kernel
theorem dX6_equilibrium_61 : decode cX6_equilibrium 61 = .ok (.iaload, 1) := by decide +kernel
theorem dX6_equilibrium_62 : decode cX6_equilibrium 62 = .ok (.goto 4, 3) := by decide +kernel
theorem dX6_equilibrium_65 : decode cX6_equilibrium 65 = .ok (.iconst 0, 1) := by decide +kernel
theorem dX6_equilibrium_66 : decode cX6_equilibrium 66 = .ok (.iadd, 1) := by decide +kernel
theorem dX6_equilibrium_67 : decode cX6_equilibrium 67 = .ok (.istore_n 3, 1) := by decide +kernel
theorem dX6_equilibrium_68 : decode cX6_equilibrium 68 = .ok (.iinc 4 1, 3) := by decide +kernel
theorem dX6_equilibrium_71 : decode cX6_equilibrium 71 = .ok (.goto (-44), 3) := by decide +kernel
theorem dX6_equilibrium_74 : decode cX6_equilibrium 74 = .ok (.bipush 8, 2) := by decide +kernel
theorem dX6_equilibrium_76 : decode cX6_equilibrium 76 = .ok (.aload_n 0, 1) := by decide +kernel
theorem dX6_equilibrium_77 : decode cX6_equilibrium 77 = .ok (.invokevirtual 55, 3) := by decide +kernel
theorem dX6_equilibrium_80 : decode cX6_equilibrium 80 = .ok (.imul, 1) := by decide +kernel
theorem dX6_equilibrium_81 : decode cX6_equilibrium 81 = .ok (.istore 4, 2) := by decide +kernel
theorem dX6_equilibrium_83 : decode cX6_equilibrium 83 = .ok (.iload 4, 2) := by decide +kernel
theorem dX6_equilibrium_85 : decode cX6_equilibrium 85 = .ok (.istore 5, 2) := by decide +kernel
theorem dX6_equilibrium_87 : decode cX6_equilibrium 87 = .ok (.iload_n 3, 1) := by decide +kernel
theorem dX6_equilibrium_88 : decode cX6_equilibrium 88 = .ok (.istore 6, 2) := by decide +kernel
theorem dX6_equilibrium_90 : decode cX6_equilibrium 90 = .ok (.iload 6, 2) := by decide +kernel
theorem dX6_equilibrium_92 : decode cX6_equilibrium 92 = .ok (.ifCond .eq 21, 3) := by decide +kernel
theorem dX6_equilibrium_95 : decode cX6_equilibrium 95 = .ok (.iload 5, 2) := by decide +kernel
theorem dX6_equilibrium_97 : decode cX6_equilibrium 97 = .ok (.iload 6, 2) := by decide +kernel
theorem dX6_equilibrium_99 : decode cX6_equilibrium 99 = .ok (.irem, 1) := by decide +kernel
theorem dX6_equilibrium_100 : decode cX6_equilibrium 100 = .ok (.istore 7, 2) := by decide +kernel
theorem dX6_equilibrium_102 : decode cX6_equilibrium 102 = .ok (.iload 6, 2) := by decide +kernel
theorem dX6_equilibrium_104 : decode cX6_equilibrium 104 = .ok (.istore 5, 2) := by decide +kernel
theorem dX6_equilibrium_106 : decode cX6_equilibrium 106 = .ok (.iload 7, 2) := by decide +kernel
theorem dX6_equilibrium_108 : decode cX6_equilibrium 108 = .ok (.istore 6, 2) := by decide +kernel
theorem dX6_equilibrium_110 : decode cX6_equilibrium 110 = .ok (.goto (-20), 3) := by decide +kernel
theorem dX6_equilibrium_113 : decode cX6_equilibrium 113 = .ok (.iload_n 2, 1) := by decide +kernel
theorem dX6_equilibrium_114 : decode cX6_equilibrium 114 = .ok (.ifCond .eq 10, 3) := by decide +kernel
theorem dX6_equilibrium_117 : decode cX6_equilibrium 117 = .ok (.iload_n 3, 1) := by decide +kernel
theorem dX6_equilibrium_118 : decode cX6_equilibrium 118 = .ok (.iload 5, 2) := by decide +kernel
theorem dX6_equilibrium_120 : decode cX6_equilibrium 120 = .ok (.idiv, 1) := by decide +kernel
theorem dX6_equilibrium_121 : decode cX6_equilibrium 121 = .ok (.goto 8, 3) := by decide +kernel
theorem dX6_equilibrium_124 : decode cX6_equilibrium 124 = .ok (.iload 4, 2) := by decide +kernel
theorem dX6_equilibrium_126 : decode cX6_equilibrium 126 = .ok (.iload 5, 2) := by decide +kernel
theorem dX6_equilibrium_128 : decode cX6_equilibrium 128 = .ok (.idiv, 1) := by decide +kernel
theorem dX6_equilibrium_129 : decode cX6_equilibrium 129 = .ok (.ireturn, 1) := by decide +kernel
theorem dX6_append_0 : decode cX6_append 0 = .ok (.iload_n 1, 1) := by decide +kernel
theorem dX6_append_1 : decode cX6_append 1 = .ok (.iconst 0, 1) := by decide +kernel
theorem dX6_append_2 : decode cX6_append 2 = .ok (.bipush 127, 2) := by decide +kernel
theorem dX6_append_4 : decode cX6_append 4 = .ok (.invokestatic 36, 3) := by decide +kernel
theorem dX6_append_7 : decode cX6_append 7 = .ok (.ifCond .ne 6, 3) := by decide +kernel
theorem dX6_append_10 : decode cX6_append 10 = .ok (.bipush (-2), 2) := by decide +kernel
theorem dX6_append_12 : decode cX6_append 12 = .ok (.ireturn, 1) := by decide +kernel
theorem dX6_append_13 : decode cX6_append 13 = .ok (.aload_n 0, 1) := by decide +kernel
theorem dX6_append_14 : decode cX6_append 14 = .ok (.getfield 199, 3) := by decide +kernel
theorem dX6_append_17 : decode cX6_append 17 = .ok (.bipush 120, 2) := by decide +kernel
theorem dX6_append_19 : decode cX6_append 19 = .ok (.if_icmp .ne 6, 3) := by decide +kernel
theorem dX6_append_22 : decode cX6_append 22 = .ok (.bipush (-3), 2) := by decide +kernel
theorem dX6_append_24 : decode cX6_append 24 = .ok (.ireturn, 1) := by decide +kernel
theorem dX6_append_25 : decode cX6_append 25 = .ok (.aload_n 0, 1) := by decide +kernel
theorem dX6_append_26 : decode cX6_append 26 = .ok (.getfield 23, 3) := by decide +kernel
theorem dX6_append_29 : decode cX6_append 29 = .ok (.aload_n 0, 1) := by decide +kernel
theorem dX6_append_30 : decode cX6_append 30 = .ok (.getfield 199, 3) := by decide +kernel
theorem dX6_append_33 : decode cX6_append 33 = .ok (.iload_n 1, 1) := by decide +kernel
theorem dX6_append_34 : decode cX6_append 34 = .ok (.iastore, 1) := by decide +kernel
theorem dX6_append_35 : decode cX6_append 35 = .ok (.aload_n 0, 1) := by decide +kernel
theorem dX6_append_36 : decode cX6_append 36 = .ok (.dup, 1) := by decide +kernel
theorem dX6_append_37 : decode cX6_append 37 = .ok (.getfield 199, 3) := by decide +kernel
theorem dX6_append_40 : decode cX6_append 40 = .ok (.iconst 1, 1) := by decide +kernel
theorem dX6_append_41 : decode cX6_append 41 = .ok (.iadd, 1) := by decide +kernel
theorem dX6_append_42 : decode cX6_append 42 = .ok (.putfield 199, 3) := by decide +kernel
theorem dX6_append_45 : decode cX6_append 45 = .ok (.aload_n 0, 1) := by decide +kernel
theorem dX6_append_46 : decode cX6_append 46 = .ok (.getfield 199, 3) := by decide +kernel
theorem dX6_append_49 : decode cX6_append 49 = .ok (.ireturn, 1) := by decide +kernel
theorem dX6_clearText_0 : decode cX6_clearText 0 = .ok (.aload_n 0, 1) := by decide +kernel
theorem dX6_clearText_1 : decode cX6_clearText 1 = .ok (.getfield 199, 3) := by decide +kernel
theorem dX6_clearText_4 : decode cX6_clearText 4 = .ok (.istore_n 1, 1) := by decide +kernel
theorem dX6_clearText_5 : decode cX6_clearText 5 = .ok (.aload_n 0, 1) := by decide +kernel
theorem dX6_clearText_6 : decode cX6_clearText 6 = .ok (.iconst 0, 1) := by decide +kernel
theorem dX6_clearText_7 : decode cX6_clearText 7 = .ok (.putfield 199, 3) := by decide +kernel
theorem dX6_clearText_10 : decode cX6_clearText 10 = .ok (.iload_n 1, 1) := by decide +kernel
theorem dX6_clearText_11 : decode cX6_clearText 11 = .ok (.ireturn, 1) := by decide +kernel
theorem dX6_here_0 : decode cX6_here 0 = .ok (.aload_n 0, 1) := by decide +kernel
theorem dX6_here_1 : decode cX6_here 1 = .ok (.getfield 202, 3) := by decide +kernel
theorem dX6_here_4 : decode cX6_here 4 = .ok (.aload_n 0, 1) := by decide +kernel
theorem dX6_here_5 : decode cX6_here 5 = .ok (.getfield 199, 3) := by decide +kernel
theorem dX6_here_8 : decode cX6_here 8 = .ok (.if_icmp .ge 15, 3) := by decide +kernel
theorem dX6_here_11 : decode cX6_here 11 = .ok (.aload_n 0, 1) := by decide +kernel
theorem dX6_here_12 : decode cX6_here 12 = .ok (.getfield 23, 3) := by decide +kernel
theorem dX6_here_15 : decode cX6_here 15 = .ok (.aload_n 0, 1) := by decide +kernel
theorem dX6_here_16 : decode cX6_here 16 = .ok (.getfield 202, 3) := by decide +kernel
theorem dX6_here_19 : decode cX6_here 19 = .ok (.iaload, 1) := by decide +kernel
theorem dX6_here_20 : decode cX6_here 20 = .ok (.goto 4, 3) := by decide +kernel
theorem dX6_here_23 : decode cX6_here 23 = .ok (.iconst (-1), 1) := by decide +kernel
theorem dX6_here_24 : decode cX6_here 24 = .ok (.ireturn, 1) := by decide +kernel
theorem dX6_isDigit_0 : decode cX6_isDigit 0 = .ok (.aload_n 0, 1) := by decide +kernel
theorem dX6_isDigit_1 : decode cX6_isDigit 1 = .ok (.invokevirtual 205, 3) := by decide +kernel
theorem dX6_isDigit_4 : decode cX6_isDigit 4 = .ok (.bipush 48, 2) := by decide +kernel
theorem dX6_isDigit_6 : decode cX6_isDigit 6 = .ok (.bipush 57, 2) := by decide +kernel
theorem dX6_isDigit_8 : decode cX6_isDigit 8 = .ok (.invokestatic 36, 3) := by decide +kernel
theorem dX6_isDigit_11 : decode cX6_isDigit 11 = .ok (.ireturn, 1) := by decide +kernel
theorem dX6_faults_0 : decode cX6_faults 0 = .ok (.aload_n 0, 1) := by decide +kernel
theorem dX6_faults_1 : decode cX6_faults 1 = .ok (.aload_n 0, 1) := by decide +kernel
theorem dX6_faults_2 : decode cX6_faults 2 = .ok (.getfield 208, 3) := by decide +kernel
theorem dX6_faults_5 : decode cX6_faults 5 = .ok (.ifCond .ge 7, 3) := by decide +kernel
theorem dX6_faults_8 : decode cX6_faults 8 = .ok (.iload_n 1, 1) := by decide +kernel
theorem dX6_faults_9 : decode cX6_faults 9 = .ok (.goto 7, 3) := by decide +kernel
theorem dX6_faults_12 : decode cX6_faults 12 = .ok (.aload_n 0, 1) := by decide +kernel
theorem dX6_faults_13 : decode cX6_faults 13 = .ok (.getfield 208, 3) := by decide +kernel
theorem dX6_faults_16 : decode cX6_faults 16 = .ok (.putfield 208, 3) := by decide +kernel
theorem dX6_faults_19 : decode cX6_faults 19 = .ok (.return_, 1) := by decide +kernel
theorem dX6_digit_0 : decode cX6_digit 0 = .ok (.aload_n 0, 1) := by decide +kernel
theorem dX6_digit_1 : decode cX6_digit 1 = .ok (.invokevirtual 205, 3) := by decide +kernel
theorem dX6_digit_4 : decode cX6_digit 4 = .ok (.bipush 48, 2) := by decide +kernel
theorem dX6_digit_6 : decode cX6_digit 6 = .ok (.isub, 1) := by decide +kernel
theorem dX6_digit_7 : decode cX6_digit 7 = .ok (.istore_n 2, 1) := by decide +kernel
theorem dX6_digit_8 : decode cX6_digit 8 = .ok (.aload_n 0, 1) := by decide +kernel
theorem dX6_digit_9 : decode cX6_digit 9 = .ok (.invokevirtual 211, 3) := by decide +kernel
theorem dX6_digit_12 : decode cX6_digit 12 = .ok (.ifCond .eq 8, 3) := by decide +kernel
theorem dX6_digit_15 : decode cX6_digit 15 = .ok (.iload_n 2, 1) := by decide +kernel
theorem dX6_digit_16 : decode cX6_digit 16 = .ok (.iload_n 1, 1) := by decide +kernel
theorem dX6_digit_17 : decode cX6_digit 17 = .ok (.if_icmp .le 13, 3) := by decide +kernel
theorem dX6_digit_20 : decode cX6_digit 20 = .ok (.aload_n 0, 1) := by decide +kernel
theorem dX6_digit_21 : decode cX6_digit 21 = .ok (.aload_n 0, 1) := by decide +kernel
theorem dX6_digit_22 : decode cX6_digit 22 = .ok (.getfield 202, 3) := by decide +kernel
theorem dX6_digit_25 : decode cX6_digit 25 = .ok (.invokevirtual 215, 3) := by decide +kernel
theorem dX6_digit_28 : decode cX6_digit 28 = .ok (.iconst 0, 1) := by decide +kernel
theorem dX6_digit_29 : decode cX6_digit 29 = .ok (.ireturn, 1) := by decide +kernel
theorem dX6_digit_30 : decode cX6_digit 30 = .ok (.aload_n 0, 1) := by decide +kernel
theorem dX6_digit_31 : decode cX6_digit 31 = .ok (.dup, 1) := by decide +kernel
theorem dX6_digit_32 : decode cX6_digit 32 = .ok (.getfield 202, 3) := by decide +kernel
theorem dX6_digit_35 : decode cX6_digit 35 = .ok (.iconst 1, 1) := by decide +kernel
theorem dX6_digit_36 : decode cX6_digit 36 = .ok (.iadd, 1) := by decide +kernel
theorem dX6_digit_37 : decode cX6_digit 37 = .ok (.putfield 202, 3) := by decide +kernel
theorem dX6_digit_40 : decode cX6_digit 40 = .ok (.iload_n 2, 1) := by decide +kernel
theorem dX6_digit_41 : decode cX6_digit 41 = .ok (.ireturn, 1) := by decide +kernel
theorem dX6_number_0 : decode cX6_number 0 = .ok (.aload_n 0, 1) := by decide +kernel
theorem dX6_number_1 : decode cX6_number 1 = .ok (.getfield 202, 3) := by decide +kernel
theorem dX6_number_4 : decode cX6_number 4 = .ok (.istore_n 3, 1) := by decide +kernel
theorem dX6_number_5 : decode cX6_number 5 = .ok (.iconst 0, 1) := by decide +kernel
theorem dX6_number_6 : decode cX6_number 6 = .ok (.istore 4, 2) := by decide +kernel
theorem dX6_number_8 : decode cX6_number 8 = .ok (.aload_n 0, 1) := by decide +kernel
theorem dX6_number_9 : decode cX6_number 9 = .ok (.invokevirtual 211, 3) := by decide +kernel
theorem dX6_number_12 : decode cX6_number 12 = .ok (.ifCond .eq 37, 3) := by decide +kernel
theorem dX6_number_15 : decode cX6_number 15 = .ok (.sipush 1000, 3) := by decide +kernel
theorem dX6_number_18 : decode cX6_number 18 = .ok (.bipush 10, 2) := by decide +kernel
theorem dX6_number_20 : decode cX6_number 20 = .ok (.iload 4, 2) := by decide +kernel
theorem dX6_number_22 : decode cX6_number 22 = .ok (.imul, 1) := by decide +kernel
theorem dX6_number_23 : decode cX6_number 23 = .ok (.aload_n 0, 1) := by decide +kernel
theorem dX6_number_24 : decode cX6_number 24 = .ok (.invokevirtual 205, 3) := by decide +kernel
theorem dX6_number_27 : decode cX6_number 27 = .ok (.iadd, 1) := by decide +kernel
theorem dX6_number_28 : decode cX6_number 28 = .ok (.bipush 48, 2) := by decide +kernel
theorem dX6_number_30 : decode cX6_number 30 = .ok (.isub, 1) := by decide +kernel
theorem dX6_number_31 : decode cX6_number 31 = .ok (.invokestatic 68, 3) := by decide +kernel
theorem dX6_number_34 : decode cX6_number 34 = .ok (.istore 4, 2) := by decide +kernel
theorem dX6_number_36 : decode cX6_number 36 = .ok (.aload_n 0, 1) := by decide +kernel
theorem dX6_number_37 : decode cX6_number 37 = .ok (.dup, 1) := by decide +kernel
theorem dX6_number_38 : decode cX6_number 38 = .ok (.getfield 202, 3) := by decide +kernel
theorem dX6_number_41 : decode cX6_number 41 = .ok (.iconst 1, 1) := by decide +kernel
theorem dX6_number_42 : decode cX6_number 42 = .ok (.iadd, 1) := by decide +kernel
theorem dX6_number_43 : decode cX6_number 43 = .ok (.putfield 202, 3) := by decide +kernel
theorem dX6_number_46 : decode cX6_number 46 = .ok (.goto (-38), 3) := by decide +kernel
theorem dX6_number_49 : decode cX6_number 49 = .ok (.aload_n 0, 1) := by decide +kernel
theorem dX6_number_50 : decode cX6_number 50 = .ok (.getfield 202, 3) := by decide +kernel
theorem dX6_number_53 : decode cX6_number 53 = .ok (.iload_n 3, 1) := by decide +kernel
theorem dX6_number_54 : decode cX6_number 54 = .ok (.if_icmp .eq 34, 3) := by decide +kernel
theorem dX6_number_57 : decode cX6_number 57 = .ok (.aload_n 0, 1) := by decide +kernel
theorem dX6_number_58 : decode cX6_number 58 = .ok (.getfield 23, 3) := by decide +kernel
theorem dX6_number_61 : decode cX6_number 61 = .ok (.iload_n 3, 1) := by decide +kernel
theorem dX6_number_62 : decode cX6_number 62 = .ok (.iaload, 1) := by decide +kernel
theorem dX6_number_63 : decode cX6_number 63 = .ok (.bipush 48, 2) := by decide +kernel
theorem dX6_number_65 : decode cX6_number 65 = .ok (.if_icmp .eq 23, 3) := by decide +kernel
theorem dX6_number_68 : decode cX6_number 68 = .ok (.aload_n 0, 1) := by decide +kernel
theorem dX6_number_69 : decode cX6_number 69 = .ok (.getfield 202, 3) := by decide +kernel
theorem dX6_number_72 : decode cX6_number 72 = .ok (.iload_n 3, 1) := by decide +kernel
theorem dX6_number_73 : decode cX6_number 73 = .ok (.isub, 1) := by decide +kernel
theorem dX6_number_74 : decode cX6_number 74 = .ok (.iconst 2, 1) := by decide +kernel
theorem dX6_number_75 : decode cX6_number 75 = .ok (.if_icmp .gt 13, 3) := by decide +kernel
theorem dX6_number_78 : decode cX6_number 78 = .ok (.iload 4, 2) := by decide +kernel
theorem dX6_number_80 : decode cX6_number 80 = .ok (.iload_n 1, 1) := by decide +kernel
theorem dX6_number_81 : decode cX6_number 81 = .ok (.iload_n 2, 1) := by decide +kernel
theorem dX6_number_82 : decode cX6_number 82 = .ok (.invokestatic 36, 3) := by decide +kernel
theorem dX6_number_85 : decode cX6_number 85 = .ok (.ifCond .ne 8, 3) := by decide +kernel
theorem dX6_number_88 : decode cX6_number 88 = .ok (.aload_n 0, 1) := by decide +kernel
theorem dX6_number_89 : decode cX6_number 89 = .ok (.iload_n 3, 1) := by decide +kernel
theorem dX6_number_90 : decode cX6_number 90 = .ok (.invokevirtual 215, 3) := by decide +kernel
theorem dX6_number_93 : decode cX6_number 93 = .ok (.iload 4, 2) := by decide +kernel
theorem dX6_number_95 : decode cX6_number 95 = .ok (.ireturn, 1) := by decide +kernel
theorem dX6_sign_0 : decode cX6_sign 0 = .ok (.aload_n 0, 1) := by decide +kernel
theorem dX6_sign_1 : decode cX6_sign 1 = .ok (.invokevirtual 205, 3) := by decide +kernel
theorem dX6_sign_4 : decode cX6_sign 4 = .ok (.iload_n 1, 1) := by decide +kernel
theorem dX6_sign_5 : decode cX6_sign 5 = .ok (.if_icmp .ne 16, 3) := by decide +kernel
theorem dX6_sign_8 : decode cX6_sign 8 = .ok (.aload_n 0, 1) := by decide +kernel
theorem dX6_sign_9 : decode cX6_sign 9 = .ok (.dup, 1) := by decide +kernel
theorem dX6_sign_10 : decode cX6_sign 10 = .ok (.getfield 202, 3) := by decide +kernel
theorem dX6_sign_13 : decode cX6_sign 13 = .ok (.iconst 1, 1) := by decide +kernel
theorem dX6_sign_14 : decode cX6_sign 14 = .ok (.iadd, 1) := by decide +kernel
theorem dX6_sign_15 : decode cX6_sign 15 = .ok (.putfield 202, 3) := by decide +kernel
theorem dX6_sign_18 : decode cX6_sign 18 = .ok (.goto 11, 3) := by decide +kernel
theorem dX6_sign_21 : decode cX6_sign 21 = .ok (.aload_n 0, 1) := by decide +kernel
theorem dX6_sign_22 : decode cX6_sign 22 = .ok (.aload_n 0, 1) := by decide +kernel
theorem dX6_sign_23 : decode cX6_sign 23 = .ok (.getfield 202, 3) := by decide +kernel
theorem dX6_sign_26 : decode cX6_sign 26 = .ok (.invokevirtual 215, 3) := by decide +kernel
theorem dX6_sign_29 : decode cX6_sign 29 = .ok (.return_, 1) := by decide +kernel
theorem dX6_order_0 : decode cX6_order 0 = .ok (.aload_n 0, 1) := by decide +kernel
theorem dX6_order_1 : decode cX6_order 1 = .ok (.invokevirtual 205, 3) := by decide +kernel
theorem dX6_order_4 : decode cX6_order 4 = .ok (.istore_n 1, 1) := by decide +kernel
theorem dX6_order_5 : decode cX6_order 5 = .ok (.aload_n 0, 1) := by decide +kernel
theorem dX6_order_6 : decode cX6_order 6 = .ok (.dup, 1) := by decide +kernel
theorem dX6_order_7 : decode cX6_order 7 = .ok (.getfield 202, 3) := by decide +kernel
theorem dX6_order_10 : decode cX6_order 10 = .ok (.iconst 1, 1) := by decide +kernel
theorem dX6_order_11 : decode cX6_order 11 = .ok (.iadd, 1) := by decide +kernel
theorem dX6_order_12 : decode cX6_order 12 = .ok (.putfield 202, 3) := by decide +kernel
theorem dX6_order_15 : decode cX6_order 15 = .ok (.iload_n 1, 1) := by decide +kernel
theorem dX6_order_16 : decode cX6_order 16 = .ok (.lookupswitch 319 #[(97, 44), (102, 220), (103, 253), (116, 192)], 44) := by decide +kernel
theorem dX6_order_60 : decode cX6_order 60 = .ok (.aload_n 0, 1) := by decide +kernel
theorem dX6_order_61 : decode cX6_order 61 = .ok (.aload_n 0, 1) := by decide +kernel
theorem dX6_order_62 : decode cX6_order 62 = .ok (.getfield 7, 3) := by decide +kernel
theorem dX6_order_65 : decode cX6_order 65 = .ok (.iconst 1, 1) := by decide +kernel
theorem dX6_order_66 : decode cX6_order 66 = .ok (.iaload, 1) := by decide +kernel
theorem dX6_order_67 : decode cX6_order 67 = .ok (.iconst 1, 1) := by decide +kernel
theorem dX6_order_68 : decode cX6_order 68 = .ok (.isub, 1) := by decide +kernel
theorem dX6_order_69 : decode cX6_order 69 = .ok (.invokevirtual 218, 3) := by decide +kernel
theorem dX6_order_72 : decode cX6_order 72 = .ok (.istore_n 2, 1) := by decide +kernel
theorem dX6_order_73 : decode cX6_order 73 = .ok (.aload_n 0, 1) := by decide +kernel
theorem dX6_order_74 : decode cX6_order 74 = .ok (.getfield 208, 3) := by decide +kernel
theorem dX6_order_77 : decode cX6_order 77 = .ok (.ifCond .ge 11, 3) := by decide +kernel
theorem dX6_order_80 : decode cX6_order 80 = .ok (.aload_n 0, 1) := by decide +kernel
theorem dX6_order_81 : decode cX6_order 81 = .ok (.iconst 2, 1) := by decide +kernel
theorem dX6_order_82 : decode cX6_order 82 = .ok (.invokevirtual 218, 3) := by decide +kernel
theorem dX6_order_85 : decode cX6_order 85 = .ok (.goto 4, 3) := by decide +kernel
theorem dX6_order_88 : decode cX6_order 88 = .ok (.iconst 0, 1) := by decide +kernel
theorem dX6_order_89 : decode cX6_order 89 = .ok (.istore 4, 2) := by decide +kernel
theorem dX6_order_91 : decode cX6_order 91 = .ok (.aload_n 0, 1) := by decide +kernel
theorem dX6_order_92 : decode cX6_order 92 = .ok (.getfield 208, 3) := by decide +kernel
theorem dX6_order_95 : decode cX6_order 95 = .ok (.ifCond .ge 13, 3) := by decide +kernel
theorem dX6_order_98 : decode cX6_order 98 = .ok (.aload_n 0, 1) := by decide +kernel
theorem dX6_order_99 : decode cX6_order 99 = .ok (.iconst 1, 1) := by decide +kernel
theorem dX6_order_100 : decode cX6_order 100 = .ok (.bipush 12, 2) := by decide +kernel
theorem dX6_order_102 : decode cX6_order 102 = .ok (.invokevirtual 221, 3) := by decide +kernel
theorem dX6_order_105 : decode cX6_order 105 = .ok (.goto 4, 3) := by decide +kernel
theorem dX6_order_108 : decode cX6_order 108 = .ok (.iconst 0, 1) := by decide +kernel
theorem dX6_order_109 : decode cX6_order 109 = .ok (.istore_n 3, 1) := by decide +kernel
theorem dX6_order_110 : decode cX6_order 110 = .ok (.iconst 1, 1) := by decide +kernel
theorem dX6_order_111 : decode cX6_order 111 = .ok (.istore 5, 2) := by decide +kernel
theorem dX6_order_113 : decode cX6_order 113 = .ok (.aload_n 0, 1) := by decide +kernel
theorem dX6_order_114 : decode cX6_order 114 = .ok (.getfield 208, 3) := by decide +kernel
theorem dX6_order_117 : decode cX6_order 117 = .ok (.ifCond .ge 31, 3) := by decide +kernel
theorem dX6_order_120 : decode cX6_order 120 = .ok (.aload_n 0, 1) := by decide +kernel
theorem dX6_order_121 : decode cX6_order 121 = .ok (.invokevirtual 205, 3) := by decide +kernel
theorem dX6_order_124 : decode cX6_order 124 = .ok (.bipush 42, 2) := by decide +kernel
theorem dX6_order_126 : decode cX6_order 126 = .ok (.if_icmp .ne 22, 3) := by decide +kernel
theorem dX6_order_129 : decode cX6_order 129 = .ok (.aload_n 0, 1) := by decide +kernel
theorem dX6_order_130 : decode cX6_order 130 = .ok (.dup, 1) := by decide +kernel
theorem dX6_order_131 : decode cX6_order 131 = .ok (.getfield 202, 3) := by decide +kernel
theorem dX6_order_134 : decode cX6_order 134 = .ok (.iconst 1, 1) := by decide +kernel
theorem dX6_order_135 : decode cX6_order 135 = .ok (.iadd, 1) := by decide +kernel
theorem dX6_order_136 : decode cX6_order 136 = .ok (.putfield 202, 3) := by decide +kernel
theorem dX6_order_139 : decode cX6_order 139 = .ok (.aload_n 0, 1) := by decide +kernel
theorem dX6_order_140 : decode cX6_order 140 = .ok (.iconst 2, 1) := by decide +kernel
theorem dX6_order_141 : decode cX6_order 141 = .ok (.bipush 9, 2) := by decide +kernel
theorem dX6_order_143 : decode cX6_order 143 = .ok (.invokevirtual 221, 3) := by decide +kernel
theorem dX6_order_146 : decode cX6_order 146 = .ok (.istore 5, 2) := by decide +kernel
theorem dX6_order_148 : decode cX6_order 148 = .ok (.aload_n 0, 1) := by decide +kernel
theorem dX6_order_149 : decode cX6_order 149 = .ok (.invokevirtual 224, 3) := by decide +kernel
theorem dX6_order_152 : decode cX6_order 152 = .ok (.iconst 0, 1) := by decide +kernel
theorem dX6_order_153 : decode cX6_order 153 = .ok (.istore 6, 2) := by decide +kernel
theorem dX6_order_155 : decode cX6_order 155 = .ok (.iload 6, 2) := by decide +kernel
theorem dX6_order_157 : decode cX6_order 157 = .ok (.iload 5, 2) := by decide +kernel
theorem dX6_order_159 : decode cX6_order 159 = .ok (.if_icmp .ge 46, 3) := by decide +kernel
theorem dX6_order_162 : decode cX6_order 162 = .ok (.aload_n 0, 1) := by decide +kernel
theorem dX6_order_163 : decode cX6_order 163 = .ok (.invokevirtual 227, 3) := by decide +kernel
theorem dX6_order_166 : decode cX6_order 166 = .ok (.ifCond .eq 39, 3) := by decide +kernel
theorem dX6_order_169 : decode cX6_order 169 = .ok (.aload_n 0, 1) := by decide +kernel
theorem dX6_order_170 : decode cX6_order 170 = .ok (.dup, 1) := by decide +kernel
theorem dX6_order_171 : decode cX6_order 171 = .ok (.getfield 230, 3) := by decide +kernel
theorem dX6_order_174 : decode cX6_order 174 = .ok (.aload_n 0, 1) := by decide +kernel
theorem dX6_order_175 : decode cX6_order 175 = .ok (.iconst 3, 1) := by decide +kernel
theorem dX6_order_176 : decode cX6_order 176 = .ok (.iload_n 2, 1) := by decide +kernel
theorem dX6_order_177 : decode cX6_order 177 = .ok (.imul, 1) := by decide +kernel
theorem dX6_order_178 : decode cX6_order 178 = .ok (.iload 4, 2) := by decide +kernel
theorem dX6_order_180 : decode cX6_order 180 = .ok (.iadd, 1) := by decide +kernel
theorem dX6_order_181 : decode cX6_order 181 = .ok (.iload_n 3, 1) := by decide +kernel
theorem dX6_order_182 : decode cX6_order 182 = .ok (.invokevirtual 154, 3) := by decide +kernel
theorem dX6_order_185 : decode cX6_order 185 = .ok (.bipush (-6), 2) := by decide +kernel
theorem dX6_order_187 : decode cX6_order 187 = .ok (.if_icmp .ne 7, 3) := by decide +kernel
theorem dX6_order_190 : decode cX6_order 190 = .ok (.iconst 1, 1) := by decide +kernel
theorem dX6_order_191 : decode cX6_order 191 = .ok (.goto 4, 3) := by decide +kernel
theorem dX6_order_194 : decode cX6_order 194 = .ok (.iconst 0, 1) := by decide +kernel
theorem dX6_order_195 : decode cX6_order 195 = .ok (.iadd, 1) := by decide +kernel
theorem dX6_order_196 : decode cX6_order 196 = .ok (.putfield 230, 3) := by decide +kernel
theorem dX6_order_199 : decode cX6_order 199 = .ok (.iinc 6 1, 3) := by decide +kernel
theorem dX6_order_202 : decode cX6_order 202 = .ok (.goto (-47), 3) := by decide +kernel
theorem dX6_order_205 : decode cX6_order 205 = .ok (.goto 140, 3) := by decide +kernel
theorem dX6_order_208 : decode cX6_order 208 = .ok (.aload_n 0, 1) := by decide +kernel
theorem dX6_order_209 : decode cX6_order 209 = .ok (.iconst 1, 1) := by decide +kernel
theorem dX6_order_210 : decode cX6_order 210 = .ok (.bipush 20, 2) := by decide +kernel
theorem dX6_order_212 : decode cX6_order 212 = .ok (.invokevirtual 221, 3) := by decide +kernel
theorem dX6_order_215 : decode cX6_order 215 = .ok (.istore_n 3, 1) := by decide +kernel
theorem dX6_order_216 : decode cX6_order 216 = .ok (.aload_n 0, 1) := by decide +kernel
theorem dX6_order_217 : decode cX6_order 217 = .ok (.invokevirtual 224, 3) := by decide +kernel
theorem dX6_order_220 : decode cX6_order 220 = .ok (.aload_n 0, 1) := by decide +kernel
theorem dX6_order_221 : decode cX6_order 221 = .ok (.invokevirtual 227, 3) := by decide +kernel
theorem dX6_order_224 : decode cX6_order 224 = .ok (.ifCond .eq 121, 3) := by decide +kernel
theorem dX6_order_227 : decode cX6_order 227 = .ok (.aload_n 0, 1) := by decide +kernel
theorem dX6_order_228 : decode cX6_order 228 = .ok (.iload_n 3, 1) := by decide +kernel
theorem dX6_order_229 : decode cX6_order 229 = .ok (.invokevirtual 169, 3) := by decide +kernel
theorem dX6_order_232 : decode cX6_order 232 = .ok (.pop, 1) := by decide +kernel
theorem dX6_order_233 : decode cX6_order 233 = .ok (.goto 112, 3) := by decide +kernel
theorem dX6_order_236 : decode cX6_order 236 = .ok (.aload_n 0, 1) := by decide +kernel
theorem dX6_order_237 : decode cX6_order 237 = .ok (.aload_n 0, 1) := by decide +kernel
theorem dX6_order_238 : decode cX6_order 238 = .ok (.getfield 7, 3) := by decide +kernel
theorem dX6_order_241 : decode cX6_order 241 = .ok (.iconst 1, 1) := by decide +kernel
theorem dX6_order_242 : decode cX6_order 242 = .ok (.iaload, 1) := by decide +kernel
theorem dX6_order_243 : decode cX6_order 243 = .ok (.iconst 1, 1) := by decide +kernel
theorem dX6_order_244 : decode cX6_order 244 = .ok (.isub, 1) := by decide +kernel
theorem dX6_order_245 : decode cX6_order 245 = .ok (.invokevirtual 218, 3) := by decide +kernel
theorem dX6_order_248 : decode cX6_order 248 = .ok (.istore_n 2, 1) := by decide +kernel
theorem dX6_order_249 : decode cX6_order 249 = .ok (.aload_n 0, 1) := by decide +kernel
theorem dX6_order_250 : decode cX6_order 250 = .ok (.invokevirtual 224, 3) := by decide +kernel
theorem dX6_order_253 : decode cX6_order 253 = .ok (.aload_n 0, 1) := by decide +kernel
theorem dX6_order_254 : decode cX6_order 254 = .ok (.invokevirtual 227, 3) := by decide +kernel
theorem dX6_order_257 : decode cX6_order 257 = .ok (.ifCond .eq 88, 3) := by decide +kernel
theorem dX6_order_260 : decode cX6_order 260 = .ok (.aload_n 0, 1) := by decide +kernel
theorem dX6_order_261 : decode cX6_order 261 = .ok (.iload_n 2, 1) := by decide +kernel
theorem dX6_order_262 : decode cX6_order 262 = .ok (.invokevirtual 172, 3) := by decide +kernel
theorem dX6_order_265 : decode cX6_order 265 = .ok (.pop, 1) := by decide +kernel
theorem dX6_order_266 : decode cX6_order 266 = .ok (.goto 79, 3) := by decide +kernel
theorem dX6_order_269 : decode cX6_order 269 = .ok (.aload_n 0, 1) := by decide +kernel
theorem dX6_order_270 : decode cX6_order 270 = .ok (.aload_n 0, 1) := by decide +kernel
theorem dX6_order_271 : decode cX6_order 271 = .ok (.getfield 7, 3) := by decide +kernel
theorem dX6_order_274 : decode cX6_order 274 = .ok (.iconst 1, 1) := by decide +kernel
theorem dX6_order_275 : decode cX6_order 275 = .ok (.iaload, 1) := by decide +kernel
theorem dX6_order_276 : decode cX6_order 276 = .ok (.iconst 1, 1) := by decide +kernel
theorem dX6_order_277 : decode cX6_order 277 = .ok (.isub, 1) := by decide +kernel
theorem dX6_order_278 : decode cX6_order 278 = .ok (.invokevirtual 218, 3) := by decide +kernel
theorem dX6_order_281 : decode cX6_order 281 = .ok (.istore_n 2, 1) := by decide +kernel
theorem dX6_order_282 : decode cX6_order 282 = .ok (.aload_n 0, 1) := by decide +kernel
theorem dX6_order_283 : decode cX6_order 283 = .ok (.getfield 208, 3) := by decide +kernel
theorem dX6_order_286 : decode cX6_order 286 = .ok (.ifCond .ge 9, 3) := by decide +kernel
theorem dX6_order_289 : decode cX6_order 289 = .ok (.aload_n 0, 1) := by decide +kernel
theorem dX6_order_290 : decode cX6_order 290 = .ok (.bipush 44, 2) := by decide +kernel
theorem dX6_order_292 : decode cX6_order 292 = .ok (.invokevirtual 233, 3) := by decide +kernel
theorem dX6_order_295 : decode cX6_order 295 = .ok (.aload_n 0, 1) := by decide +kernel
theorem dX6_order_296 : decode cX6_order 296 = .ok (.getfield 208, 3) := by decide +kernel
theorem dX6_order_299 : decode cX6_order 299 = .ok (.ifCond .ge 13, 3) := by decide +kernel
theorem dX6_order_302 : decode cX6_order 302 = .ok (.aload_n 0, 1) := by decide +kernel
theorem dX6_order_303 : decode cX6_order 303 = .ok (.iconst 1, 1) := by decide +kernel
theorem dX6_order_304 : decode cX6_order 304 = .ok (.bipush 32, 2) := by decide +kernel
theorem dX6_order_306 : decode cX6_order 306 = .ok (.invokevirtual 221, 3) := by decide +kernel
theorem dX6_order_309 : decode cX6_order 309 = .ok (.goto 4, 3) := by decide +kernel
theorem dX6_order_312 : decode cX6_order 312 = .ok (.iconst 0, 1) := by decide +kernel
theorem dX6_order_313 : decode cX6_order 313 = .ok (.istore_n 3, 1) := by decide +kernel
theorem dX6_order_314 : decode cX6_order 314 = .ok (.aload_n 0, 1) := by decide +kernel
theorem dX6_order_315 : decode cX6_order 315 = .ok (.invokevirtual 224, 3) := by decide +kernel
theorem dX6_order_318 : decode cX6_order 318 = .ok (.aload_n 0, 1) := by decide +kernel
theorem dX6_order_319 : decode cX6_order 319 = .ok (.invokevirtual 227, 3) := by decide +kernel
theorem dX6_order_322 : decode cX6_order 322 = .ok (.ifCond .eq 23, 3) := by decide +kernel
theorem dX6_order_325 : decode cX6_order 325 = .ok (.aload_n 0, 1) := by decide +kernel
theorem dX6_order_326 : decode cX6_order 326 = .ok (.iload_n 2, 1) := by decide +kernel
theorem dX6_order_327 : decode cX6_order 327 = .ok (.iload_n 3, 1) := by decide +kernel
theorem dX6_order_328 : decode cX6_order 328 = .ok (.invokevirtual 236, 3) := by decide +kernel
theorem dX6_order_331 : decode cX6_order 331 = .ok (.pop, 1) := by decide +kernel
theorem dX6_order_332 : decode cX6_order 332 = .ok (.goto 13, 3) := by decide +kernel
theorem dX6_order_335 : decode cX6_order 335 = .ok (.aload_n 0, 1) := by decide +kernel
theorem dX6_order_336 : decode cX6_order 336 = .ok (.aload_n 0, 1) := by decide +kernel
theorem dX6_order_337 : decode cX6_order 337 = .ok (.getfield 202, 3) := by decide +kernel
theorem dX6_order_340 : decode cX6_order 340 = .ok (.iconst 1, 1) := by decide +kernel
theorem dX6_order_341 : decode cX6_order 341 = .ok (.isub, 1) := by decide +kernel
theorem dX6_order_342 : decode cX6_order 342 = .ok (.invokevirtual 215, 3) := by decide +kernel
theorem dX6_order_345 : decode cX6_order 345 = .ok (.return_, 1) := by decide +kernel
theorem dX6_ends_0 : decode cX6_ends 0 = .ok (.aload_n 0, 1) := by decide +kernel
theorem dX6_ends_1 : decode cX6_ends 1 = .ok (.getfield 208, 3) := by decide +kernel
theorem dX6_ends_4 : decode cX6_ends 4 = .ok (.ifCond .ge 9, 3) := by decide +kernel
theorem dX6_ends_7 : decode cX6_ends 7 = .ok (.aload_n 0, 1) := by decide +kernel
theorem dX6_ends_8 : decode cX6_ends 8 = .ok (.bipush 59, 2) := by decide +kernel
theorem dX6_ends_10 : decode cX6_ends 10 = .ok (.invokevirtual 233, 3) := by decide +kernel
theorem dX6_ends_13 : decode cX6_ends 13 = .ok (.return_, 1) := by decide +kernel
theorem dX6_acts_0 : decode cX6_acts 0 = .ok (.aload_n 0, 1) := by decide +kernel
theorem dX6_acts_1 : decode cX6_acts 1 = .ok (.getfield 239, 3) := by decide +kernel
theorem dX6_acts_4 : decode cX6_acts 4 = .ok (.ifCond .eq 14, 3) := by decide +kernel
theorem dX6_acts_7 : decode cX6_acts 7 = .ok (.aload_n 0, 1) := by decide +kernel
theorem dX6_acts_8 : decode cX6_acts 8 = .ok (.getfield 208, 3) := by decide +kernel
theorem dX6_acts_11 : decode cX6_acts 11 = .ok (.ifCond .ge 7, 3) := by decide +kernel
theorem dX6_acts_14 : decode cX6_acts 14 = .ok (.iconst 1, 1) := by decide +kernel
theorem dX6_acts_15 : decode cX6_acts 15 = .ok (.goto 4, 3) := by decide +kernel
theorem dX6_acts_18 : decode cX6_acts 18 = .ok (.iconst 0, 1) := by decide +kernel
theorem dX6_acts_19 : decode cX6_acts 19 = .ok (.ireturn, 1) := by decide +kernel
theorem dX6_reads_0 : decode cX6_reads 0 = .ok (.aload_n 0, 1) := by decide +kernel
theorem dX6_reads_1 : decode cX6_reads 1 = .ok (.iconst 0, 1) := by decide +kernel
theorem dX6_reads_2 : decode cX6_reads 2 = .ok (.putfield 202, 3) := by decide +kernel
theorem dX6_reads_5 : decode cX6_reads 5 = .ok (.aload_n 0, 1) := by decide +kernel
theorem dX6_reads_6 : decode cX6_reads 6 = .ok (.iconst (-1), 1) := by decide +kernel
theorem dX6_reads_7 : decode cX6_reads 7 = .ok (.putfield 208, 3) := by decide +kernel
theorem dX6_reads_10 : decode cX6_reads 10 = .ok (.aload_n 0, 1) := by decide +kernel
theorem dX6_reads_11 : decode cX6_reads 11 = .ok (.iload_n 1, 1) := by decide +kernel
theorem dX6_reads_12 : decode cX6_reads 12 = .ok (.putfield 239, 3) := by decide +kernel
theorem dX6_reads_15 : decode cX6_reads 15 = .ok (.aload_n 0, 1) := by decide +kernel
theorem dX6_reads_16 : decode cX6_reads 16 = .ok (.iconst 0, 1) := by decide +kernel
theorem dX6_reads_17 : decode cX6_reads 17 = .ok (.putfield 230, 3) := by decide +kernel
theorem dX6_reads_20 : decode cX6_reads 20 = .ok (.aload_n 0, 1) := by decide +kernel
theorem dX6_reads_21 : decode cX6_reads 21 = .ok (.getfield 202, 3) := by decide +kernel
theorem dX6_reads_24 : decode cX6_reads 24 = .ok (.aload_n 0, 1) := by decide +kernel
theorem dX6_reads_25 : decode cX6_reads 25 = .ok (.getfield 199, 3) := by decide +kernel
theorem dX6_reads_28 : decode cX6_reads 28 = .ok (.if_icmp .ge 17, 3) := by decide +kernel
theorem dX6_reads_31 : decode cX6_reads 31 = .ok (.aload_n 0, 1) := by decide +kernel
theorem dX6_reads_32 : decode cX6_reads 32 = .ok (.getfield 208, 3) := by decide +kernel
theorem dX6_reads_35 : decode cX6_reads 35 = .ok (.ifCond .ge 10, 3) := by decide +kernel
theorem dX6_reads_38 : decode cX6_reads 38 = .ok (.aload_n 0, 1) := by decide +kernel
theorem dX6_reads_39 : decode cX6_reads 39 = .ok (.invokevirtual 243, 3) := by decide +kernel
theorem dX6_reads_42 : decode cX6_reads 42 = .ok (.goto (-22), 3) := by decide +kernel
theorem dX6_reads_45 : decode cX6_reads 45 = .ok (.return_, 1) := by decide +kernel
theorem dX6_faultPosition_0 : decode cX6_faultPosition 0 = .ok (.aload_n 0, 1) := by decide +kernel
theorem dX6_faultPosition_1 : decode cX6_faultPosition 1 = .ok (.iconst 0, 1) := by decide +kernel
theorem dX6_faultPosition_2 : decode cX6_faultPosition 2 = .ok (.invokevirtual 246, 3) := by decide +kernel
theorem dX6_faultPosition_5 : decode cX6_faultPosition 5 = .ok (.aload_n 0, 1) := by decide +kernel
theorem dX6_faultPosition_6 : decode cX6_faultPosition 6 = .ok (.getfield 208, 3) := by decide +kernel
theorem dX6_faultPosition_9 : decode cX6_faultPosition 9 = .ok (.ifCond .ge 8, 3) := by decide +kernel
theorem dX6_faultPosition_12 : decode cX6_faultPosition 12 = .ok (.bipush (-5), 2) := by decide +kernel
theorem dX6_faultPosition_14 : decode cX6_faultPosition 14 = .ok (.goto 7, 3) := by decide +kernel
theorem dX6_faultPosition_17 : decode cX6_faultPosition 17 = .ok (.aload_n 0, 1) := by decide +kernel
theorem dX6_faultPosition_18 : decode cX6_faultPosition 18 = .ok (.getfield 208, 3) := by decide +kernel
theorem dX6_faultPosition_21 : decode cX6_faultPosition 21 = .ok (.ireturn, 1) := by decide +kernel
theorem dX6_run_0 : decode cX6_run 0 = .ok (.aload_n 0, 1) := by decide +kernel
theorem dX6_run_1 : decode cX6_run 1 = .ok (.iconst 0, 1) := by decide +kernel
theorem dX6_run_2 : decode cX6_run 2 = .ok (.invokevirtual 246, 3) := by decide +kernel
theorem dX6_run_5 : decode cX6_run 5 = .ok (.aload_n 0, 1) := by decide +kernel
theorem dX6_run_6 : decode cX6_run 6 = .ok (.getfield 208, 3) := by decide +kernel
theorem dX6_run_9 : decode cX6_run 9 = .ok (.ifCond .lt 12, 3) := by decide +kernel
theorem dX6_run_12 : decode cX6_run 12 = .ok (.sipush (-1000), 3) := by decide +kernel
theorem dX6_run_15 : decode cX6_run 15 = .ok (.aload_n 0, 1) := by decide +kernel
theorem dX6_run_16 : decode cX6_run 16 = .ok (.getfield 208, 3) := by decide +kernel
theorem dX6_run_19 : decode cX6_run 19 = .ok (.isub, 1) := by decide +kernel
theorem dX6_run_20 : decode cX6_run 20 = .ok (.ireturn, 1) := by decide +kernel
theorem dX6_run_21 : decode cX6_run 21 = .ok (.aload_n 0, 1) := by decide +kernel
theorem dX6_run_22 : decode cX6_run 22 = .ok (.iconst 1, 1) := by decide +kernel
theorem dX6_run_23 : decode cX6_run 23 = .ok (.invokevirtual 246, 3) := by decide +kernel
theorem dX6_run_26 : decode cX6_run 26 = .ok (.aload_n 0, 1) := by decide +kernel
theorem dX6_run_27 : decode cX6_run 27 = .ok (.getfield 230, 3) := by decide +kernel
theorem dX6_run_30 : decode cX6_run 30 = .ok (.ireturn, 1) := by decide +kernel
theorem dX6_save_0 : decode cX6_save 0 = .ok (.iload_n 1, 1) := by decide +kernel
theorem dX6_save_1 : decode cX6_save 1 = .ok (.iconst 0, 1) := by decide +kernel
theorem dX6_save_2 : decode cX6_save 2 = .ok (.iconst 1, 1) := by decide +kernel
theorem dX6_save_3 : decode cX6_save 3 = .ok (.invokestatic 36, 3) := by decide +kernel
theorem dX6_save_6 : decode cX6_save 6 = .ok (.ifCond .ne 5, 3) := by decide +kernel
theorem dX6_save_9 : decode cX6_save 9 = .ok (.iconst (-1), 1) := by decide +kernel
theorem dX6_save_10 : decode cX6_save 10 = .ok (.ireturn, 1) := by decide +kernel
theorem dX6_save_11 : decode cX6_save 11 = .ok (.iconst 0, 1) := by decide +kernel
theorem dX6_save_12 : decode cX6_save 12 = .ok (.istore_n 2, 1) := by decide +kernel
theorem dX6_save_13 : decode cX6_save 13 = .ok (.iload_n 2, 1) := by decide +kernel
theorem dX6_save_14 : decode cX6_save 14 = .ok (.sipush 6464, 3) := by decide +kernel
theorem dX6_save_17 : decode cX6_save 17 = .ok (.if_icmp .ge 27, 3) := by decide +kernel
theorem dX6_save_20 : decode cX6_save 20 = .ok (.aload_n 0, 1) := by decide +kernel
theorem dX6_save_21 : decode cX6_save 21 = .ok (.getfield 16, 3) := by decide +kernel
theorem dX6_save_24 : decode cX6_save 24 = .ok (.sipush 6464, 3) := by decide +kernel
theorem dX6_save_27 : decode cX6_save 27 = .ok (.iload_n 1, 1) := by decide +kernel
theorem dX6_save_28 : decode cX6_save 28 = .ok (.imul, 1) := by decide +kernel
theorem dX6_save_29 : decode cX6_save 29 = .ok (.iload_n 2, 1) := by decide +kernel
theorem dX6_save_30 : decode cX6_save 30 = .ok (.iadd, 1) := by decide +kernel
theorem dX6_save_31 : decode cX6_save 31 = .ok (.aload_n 0, 1) := by decide +kernel
theorem dX6_save_32 : decode cX6_save 32 = .ok (.getfield 7, 3) := by decide +kernel
theorem dX6_save_35 : decode cX6_save 35 = .ok (.iload_n 2, 1) := by decide +kernel
theorem dX6_save_36 : decode cX6_save 36 = .ok (.iaload, 1) := by decide +kernel
theorem dX6_save_37 : decode cX6_save 37 = .ok (.iastore, 1) := by decide +kernel
theorem dX6_save_38 : decode cX6_save 38 = .ok (.iinc 2 1, 3) := by decide +kernel
theorem dX6_save_41 : decode cX6_save 41 = .ok (.goto (-28), 3) := by decide +kernel
theorem dX6_save_44 : decode cX6_save 44 = .ok (.aload_n 0, 1) := by decide +kernel
theorem dX6_save_45 : decode cX6_save 45 = .ok (.getfield 19, 3) := by decide +kernel
theorem dX6_save_48 : decode cX6_save 48 = .ok (.iload_n 1, 1) := by decide +kernel
theorem dX6_save_49 : decode cX6_save 49 = .ok (.iconst 1, 1) := by decide +kernel
theorem dX6_save_50 : decode cX6_save 50 = .ok (.bastore, 1) := by decide +kernel
theorem dX6_save_51 : decode cX6_save 51 = .ok (.aload_n 0, 1) := by decide +kernel
theorem dX6_save_52 : decode cX6_save 52 = .ok (.getfield 7, 3) := by decide +kernel
theorem dX6_save_55 : decode cX6_save 55 = .ok (.iconst 3, 1) := by decide +kernel
theorem dX6_save_56 : decode cX6_save 56 = .ok (.iaload, 1) := by decide +kernel
theorem dX6_save_57 : decode cX6_save 57 = .ok (.ireturn, 1) := by decide +kernel
theorem dX6_restore_0 : decode cX6_restore 0 = .ok (.iload_n 1, 1) := by decide +kernel
theorem dX6_restore_1 : decode cX6_restore 1 = .ok (.iconst 0, 1) := by decide +kernel
theorem dX6_restore_2 : decode cX6_restore 2 = .ok (.iconst 1, 1) := by decide +kernel
theorem dX6_restore_3 : decode cX6_restore 3 = .ok (.invokestatic 36, 3) := by decide +kernel
theorem dX6_restore_6 : decode cX6_restore 6 = .ok (.ifCond .ne 5, 3) := by decide +kernel
theorem dX6_restore_9 : decode cX6_restore 9 = .ok (.iconst (-1), 1) := by decide +kernel
theorem dX6_restore_10 : decode cX6_restore 10 = .ok (.ireturn, 1) := by decide +kernel
theorem dX6_restore_11 : decode cX6_restore 11 = .ok (.aload_n 0, 1) := by decide +kernel
theorem dX6_restore_12 : decode cX6_restore 12 = .ok (.getfield 19, 3) := by decide +kernel
theorem dX6_restore_15 : decode cX6_restore 15 = .ok (.iload_n 1, 1) := by decide +kernel
theorem dX6_restore_16 : decode cX6_restore 16 = .ok (.baload, 1) := by decide +kernel
theorem dX6_restore_17 : decode cX6_restore 17 = .ok (.ifCond .ne 6, 3) := by decide +kernel
theorem dX6_restore_20 : decode cX6_restore 20 = .ok (.bipush (-5), 2) := by decide +kernel
theorem dX6_restore_22 : decode cX6_restore 22 = .ok (.ireturn, 1) := by decide +kernel
theorem dX6_restore_23 : decode cX6_restore 23 = .ok (.iconst 0, 1) := by decide +kernel
theorem dX6_restore_24 : decode cX6_restore 24 = .ok (.istore_n 2, 1) := by decide +kernel
theorem dX6_restore_25 : decode cX6_restore 25 = .ok (.iload_n 2, 1) := by decide +kernel
theorem dX6_restore_26 : decode cX6_restore 26 = .ok (.sipush 6464, 3) := by decide +kernel
theorem dX6_restore_29 : decode cX6_restore 29 = .ok (.if_icmp .ge 27, 3) := by decide +kernel
theorem dX6_restore_32 : decode cX6_restore 32 = .ok (.aload_n 0, 1) := by decide +kernel
theorem dX6_restore_33 : decode cX6_restore 33 = .ok (.getfield 7, 3) := by decide +kernel
theorem dX6_restore_36 : decode cX6_restore 36 = .ok (.iload_n 2, 1) := by decide +kernel
theorem dX6_restore_37 : decode cX6_restore 37 = .ok (.aload_n 0, 1) := by decide +kernel
theorem dX6_restore_38 : decode cX6_restore 38 = .ok (.getfield 16, 3) := by decide +kernel
theorem dX6_restore_41 : decode cX6_restore 41 = .ok (.sipush 6464, 3) := by decide +kernel
theorem dX6_restore_44 : decode cX6_restore 44 = .ok (.iload_n 1, 1) := by decide +kernel
theorem dX6_restore_45 : decode cX6_restore 45 = .ok (.imul, 1) := by decide +kernel
theorem dX6_restore_46 : decode cX6_restore 46 = .ok (.iload_n 2, 1) := by decide +kernel
theorem dX6_restore_47 : decode cX6_restore 47 = .ok (.iadd, 1) := by decide +kernel
theorem dX6_restore_48 : decode cX6_restore 48 = .ok (.iaload, 1) := by decide +kernel
theorem dX6_restore_49 : decode cX6_restore 49 = .ok (.iastore, 1) := by decide +kernel
theorem dX6_restore_50 : decode cX6_restore 50 = .ok (.iinc 2 1, 3) := by decide +kernel
theorem dX6_restore_53 : decode cX6_restore 53 = .ok (.goto (-28), 3) := by decide +kernel
theorem dX6_restore_56 : decode cX6_restore 56 = .ok (.aload_n 0, 1) := by decide +kernel
theorem dX6_restore_57 : decode cX6_restore 57 = .ok (.getfield 7, 3) := by decide +kernel
theorem dX6_restore_60 : decode cX6_restore 60 = .ok (.iconst 3, 1) := by decide +kernel
theorem dX6_restore_61 : decode cX6_restore 61 = .ok (.iaload, 1) := by decide +kernel
theorem dX6_restore_62 : decode cX6_restore 62 = .ok (.ireturn, 1) := by decide +kernel
theorem dX6_sumOf_0 : decode cX6_sumOf 0 = .ok (.ldc2_w 250, 3) := by decide +kernel
theorem dX6_sumOf_3 : decode cX6_sumOf 3 = .ok (.lload_n 1, 1) := by decide +kernel
theorem dX6_sumOf_4 : decode cX6_sumOf 4 = .ok (.lmul, 1) := by decide +kernel
theorem dX6_sumOf_5 : decode cX6_sumOf 5 = .ok (.iload_n 3, 1) := by decide +kernel
theorem dX6_sumOf_6 : decode cX6_sumOf 6 = .ok (.i2l, 1) := by decide +kernel
theorem dX6_sumOf_7 : decode cX6_sumOf 7 = .ok (.ladd, 1) := by decide +kernel
theorem dX6_sumOf_8 : decode cX6_sumOf 8 = .ok (.lreturn, 1) := by decide +kernel
theorem dX6_sumOfQueue_0 : decode cX6_sumOfQueue 0 = .ok (.lload_n 1, 1) := by decide +kernel
theorem dX6_sumOfQueue_1 : decode cX6_sumOfQueue 1 = .ok (.lstore 4, 2) := by decide +kernel
theorem dX6_sumOfQueue_3 : decode cX6_sumOfQueue 3 = .ok (.bipush 6, 2) := by decide +kernel
theorem dX6_sumOfQueue_5 : decode cX6_sumOfQueue 5 = .ok (.istore 6, 2) := by decide +kernel
theorem dX6_sumOfQueue_7 : decode cX6_sumOfQueue 7 = .ok (.iload 6, 2) := by decide +kernel
theorem dX6_sumOfQueue_9 : decode cX6_sumOfQueue 9 = .ok (.bipush 8, 2) := by decide +kernel
theorem dX6_sumOfQueue_11 : decode cX6_sumOfQueue 11 = .ok (.if_icmp .gt 28, 3) := by decide +kernel
theorem dX6_sumOfQueue_14 : decode cX6_sumOfQueue 14 = .ok (.aload_n 0, 1) := by decide +kernel
theorem dX6_sumOfQueue_15 : decode cX6_sumOfQueue 15 = .ok (.lload 4, 2) := by decide +kernel
theorem dX6_sumOfQueue_17 : decode cX6_sumOfQueue 17 = .ok (.aload_n 0, 1) := by decide +kernel
theorem dX6_sumOfQueue_18 : decode cX6_sumOfQueue 18 = .ok (.getfield 7, 3) := by decide +kernel
theorem dX6_sumOfQueue_21 : decode cX6_sumOfQueue 21 = .ok (.iload_n 3, 1) := by decide +kernel
theorem dX6_sumOfQueue_22 : decode cX6_sumOfQueue 22 = .ok (.iload 6, 2) := by decide +kernel
theorem dX6_sumOfQueue_24 : decode cX6_sumOfQueue 24 = .ok (.invokestatic 48, 3) := by decide +kernel
theorem dX6_sumOfQueue_27 : decode cX6_sumOfQueue 27 = .ok (.iaload, 1) := by decide +kernel
theorem dX6_sumOfQueue_28 : decode cX6_sumOfQueue 28 = .ok (.invokevirtual 252, 3) := by decide +kernel
theorem dX6_sumOfQueue_31 : decode cX6_sumOfQueue 31 = .ok (.lstore 4, 2) := by decide +kernel
theorem dX6_sumOfQueue_33 : decode cX6_sumOfQueue 33 = .ok (.iinc 6 1, 3) := by decide +kernel
theorem dX6_sumOfQueue_36 : decode cX6_sumOfQueue 36 = .ok (.goto (-29), 3) := by decide +kernel
theorem dX6_sumOfQueue_39 : decode cX6_sumOfQueue 39 = .ok (.aload_n 0, 1) := by decide +kernel
theorem dX6_sumOfQueue_40 : decode cX6_sumOfQueue 40 = .ok (.aload_n 0, 1) := by decide +kernel
theorem dX6_sumOfQueue_41 : decode cX6_sumOfQueue 41 = .ok (.aload_n 0, 1) := by decide +kernel
theorem dX6_sumOfQueue_42 : decode cX6_sumOfQueue 42 = .ok (.aload_n 0, 1) := by decide +kernel
theorem dX6_sumOfQueue_43 : decode cX6_sumOfQueue 43 = .ok (.lload 4, 2) := by decide +kernel
theorem dX6_sumOfQueue_45 : decode cX6_sumOfQueue 45 = .ok (.aload_n 0, 1) := by decide +kernel
theorem dX6_sumOfQueue_46 : decode cX6_sumOfQueue 46 = .ok (.getfield 7, 3) := by decide +kernel
theorem dX6_sumOfQueue_49 : decode cX6_sumOfQueue 49 = .ok (.iload_n 3, 1) := by decide +kernel
theorem dX6_sumOfQueue_50 : decode cX6_sumOfQueue 50 = .ok (.iconst 3, 1) := by decide +kernel
theorem dX6_sumOfQueue_51 : decode cX6_sumOfQueue 51 = .ok (.invokestatic 48, 3) := by decide +kernel
theorem dX6_sumOfQueue_54 : decode cX6_sumOfQueue 54 = .ok (.iaload, 1) := by decide +kernel
theorem dX6_sumOfQueue_55 : decode cX6_sumOfQueue 55 = .ok (.invokevirtual 252, 3) := by decide +kernel
theorem dX6_sumOfQueue_58 : decode cX6_sumOfQueue 58 = .ok (.aload_n 0, 1) := by decide +kernel
theorem dX6_sumOfQueue_59 : decode cX6_sumOfQueue 59 = .ok (.getfield 7, 3) := by decide +kernel
theorem dX6_sumOfQueue_62 : decode cX6_sumOfQueue 62 = .ok (.iload_n 3, 1) := by decide +kernel
theorem dX6_sumOfQueue_63 : decode cX6_sumOfQueue 63 = .ok (.bipush 10, 2) := by decide +kernel
theorem dX6_sumOfQueue_65 : decode cX6_sumOfQueue 65 = .ok (.invokestatic 48, 3) := by decide +kernel
theorem dX6_sumOfQueue_68 : decode cX6_sumOfQueue 68 = .ok (.iaload, 1) := by decide +kernel
theorem dX6_sumOfQueue_69 : decode cX6_sumOfQueue 69 = .ok (.invokevirtual 252, 3) := by decide +kernel
theorem dX6_sumOfQueue_72 : decode cX6_sumOfQueue 72 = .ok (.aload_n 0, 1) := by decide +kernel
theorem dX6_sumOfQueue_73 : decode cX6_sumOfQueue 73 = .ok (.getfield 7, 3) := by decide +kernel
theorem dX6_sumOfQueue_76 : decode cX6_sumOfQueue 76 = .ok (.iload_n 3, 1) := by decide +kernel
theorem dX6_sumOfQueue_77 : decode cX6_sumOfQueue 77 = .ok (.iconst 5, 1) := by decide +kernel
theorem dX6_sumOfQueue_78 : decode cX6_sumOfQueue 78 = .ok (.invokestatic 48, 3) := by decide +kernel
theorem dX6_sumOfQueue_81 : decode cX6_sumOfQueue 81 = .ok (.iaload, 1) := by decide +kernel
theorem dX6_sumOfQueue_82 : decode cX6_sumOfQueue 82 = .ok (.invokevirtual 252, 3) := by decide +kernel
theorem dX6_sumOfQueue_85 : decode cX6_sumOfQueue 85 = .ok (.aload_n 0, 1) := by decide +kernel
theorem dX6_sumOfQueue_86 : decode cX6_sumOfQueue 86 = .ok (.getfield 7, 3) := by decide +kernel
theorem dX6_sumOfQueue_89 : decode cX6_sumOfQueue 89 = .ok (.iload_n 3, 1) := by decide +kernel
theorem dX6_sumOfQueue_90 : decode cX6_sumOfQueue 90 = .ok (.bipush 12, 2) := by decide +kernel
theorem dX6_sumOfQueue_92 : decode cX6_sumOfQueue 92 = .ok (.invokestatic 48, 3) := by decide +kernel
theorem dX6_sumOfQueue_95 : decode cX6_sumOfQueue 95 = .ok (.iaload, 1) := by decide +kernel
theorem dX6_sumOfQueue_96 : decode cX6_sumOfQueue 96 = .ok (.invokevirtual 252, 3) := by decide +kernel
theorem dX6_sumOfQueue_99 : decode cX6_sumOfQueue 99 = .ok (.lstore 4, 2) := by decide +kernel
theorem dX6_sumOfQueue_101 : decode cX6_sumOfQueue 101 = .ok (.iconst 0, 1) := by decide +kernel
theorem dX6_sumOfQueue_102 : decode cX6_sumOfQueue 102 = .ok (.istore 6, 2) := by decide +kernel
theorem dX6_sumOfQueue_104 : decode cX6_sumOfQueue 104 = .ok (.iload 6, 2) := by decide +kernel
theorem dX6_sumOfQueue_106 : decode cX6_sumOfQueue 106 = .ok (.aload_n 0, 1) := by decide +kernel
theorem dX6_sumOfQueue_107 : decode cX6_sumOfQueue 107 = .ok (.getfield 7, 3) := by decide +kernel
theorem dX6_sumOfQueue_110 : decode cX6_sumOfQueue 110 = .ok (.iload_n 3, 1) := by decide +kernel
theorem dX6_sumOfQueue_111 : decode cX6_sumOfQueue 111 = .ok (.bipush 12, 2) := by decide +kernel
theorem dX6_sumOfQueue_113 : decode cX6_sumOfQueue 113 = .ok (.invokestatic 48, 3) := by decide +kernel
theorem dX6_sumOfQueue_116 : decode cX6_sumOfQueue 116 = .ok (.iaload, 1) := by decide +kernel
theorem dX6_sumOfQueue_117 : decode cX6_sumOfQueue 117 = .ok (.if_icmp .ge 88, 3) := by decide +kernel
theorem dX6_sumOfQueue_120 : decode cX6_sumOfQueue 120 = .ok (.aload_n 0, 1) := by decide +kernel
theorem dX6_sumOfQueue_121 : decode cX6_sumOfQueue 121 = .ok (.getfield 7, 3) := by decide +kernel
theorem dX6_sumOfQueue_124 : decode cX6_sumOfQueue 124 = .ok (.iload_n 3, 1) := by decide +kernel
theorem dX6_sumOfQueue_125 : decode cX6_sumOfQueue 125 = .ok (.iload 6, 2) := by decide +kernel
theorem dX6_sumOfQueue_127 : decode cX6_sumOfQueue 127 = .ok (.invokestatic 107, 3) := by decide +kernel
theorem dX6_sumOfQueue_130 : decode cX6_sumOfQueue 130 = .ok (.iaload, 1) := by decide +kernel
theorem dX6_sumOfQueue_131 : decode cX6_sumOfQueue 131 = .ok (.istore 7, 2) := by decide +kernel
theorem dX6_sumOfQueue_133 : decode cX6_sumOfQueue 133 = .ok (.aload_n 0, 1) := by decide +kernel
theorem dX6_sumOfQueue_134 : decode cX6_sumOfQueue 134 = .ok (.lload 4, 2) := by decide +kernel
theorem dX6_sumOfQueue_136 : decode cX6_sumOfQueue 136 = .ok (.aload_n 0, 1) := by decide +kernel
theorem dX6_sumOfQueue_137 : decode cX6_sumOfQueue 137 = .ok (.getfield 7, 3) := by decide +kernel
theorem dX6_sumOfQueue_140 : decode cX6_sumOfQueue 140 = .ok (.iload 7, 2) := by decide +kernel
theorem dX6_sumOfQueue_142 : decode cX6_sumOfQueue 142 = .ok (.iconst 0, 1) := by decide +kernel
theorem dX6_sumOfQueue_143 : decode cX6_sumOfQueue 143 = .ok (.invokestatic 92, 3) := by decide +kernel
theorem dX6_sumOfQueue_146 : decode cX6_sumOfQueue 146 = .ok (.iaload, 1) := by decide +kernel
theorem dX6_sumOfQueue_147 : decode cX6_sumOfQueue 147 = .ok (.invokevirtual 252, 3) := by decide +kernel
theorem dX6_sumOfQueue_150 : decode cX6_sumOfQueue 150 = .ok (.lstore 4, 2) := by decide +kernel
theorem dX6_sumOfQueue_152 : decode cX6_sumOfQueue 152 = .ok (.iconst 0, 1) := by decide +kernel
theorem dX6_sumOfQueue_153 : decode cX6_sumOfQueue 153 = .ok (.istore 8, 2) := by decide +kernel
theorem dX6_sumOfQueue_155 : decode cX6_sumOfQueue 155 = .ok (.iload 8, 2) := by decide +kernel
theorem dX6_sumOfQueue_157 : decode cX6_sumOfQueue 157 = .ok (.aload_n 0, 1) := by decide +kernel
theorem dX6_sumOfQueue_158 : decode cX6_sumOfQueue 158 = .ok (.getfield 7, 3) := by decide +kernel
theorem dX6_sumOfQueue_161 : decode cX6_sumOfQueue 161 = .ok (.iload 7, 2) := by decide +kernel
theorem dX6_sumOfQueue_163 : decode cX6_sumOfQueue 163 = .ok (.iconst 2, 1) := by decide +kernel
theorem dX6_sumOfQueue_164 : decode cX6_sumOfQueue 164 = .ok (.invokestatic 92, 3) := by decide +kernel
theorem dX6_sumOfQueue_167 : decode cX6_sumOfQueue 167 = .ok (.iaload, 1) := by decide +kernel
theorem dX6_sumOfQueue_168 : decode cX6_sumOfQueue 168 = .ok (.if_icmp .ge 31, 3) := by decide +kernel
theorem dX6_sumOfQueue_171 : decode cX6_sumOfQueue 171 = .ok (.aload_n 0, 1) := by decide +kernel
theorem dX6_sumOfQueue_172 : decode cX6_sumOfQueue 172 = .ok (.lload 4, 2) := by decide +kernel
theorem dX6_sumOfQueue_174 : decode cX6_sumOfQueue 174 = .ok (.aload_n 0, 1) := by decide +kernel
theorem dX6_sumOfQueue_175 : decode cX6_sumOfQueue 175 = .ok (.getfield 7, 3) := by decide +kernel
theorem dX6_sumOfQueue_178 : decode cX6_sumOfQueue 178 = .ok (.iload 7, 2) := by decide +kernel
theorem dX6_sumOfQueue_180 : decode cX6_sumOfQueue 180 = .ok (.iconst 4, 1) := by decide +kernel
theorem dX6_sumOfQueue_181 : decode cX6_sumOfQueue 181 = .ok (.iload 8, 2) := by decide +kernel
theorem dX6_sumOfQueue_183 : decode cX6_sumOfQueue 183 = .ok (.iadd, 1) := by decide +kernel
theorem dX6_sumOfQueue_184 : decode cX6_sumOfQueue 184 = .ok (.invokestatic 92, 3) := by decide +kernel
theorem dX6_sumOfQueue_187 : decode cX6_sumOfQueue 187 = .ok (.iaload, 1) := by decide +kernel
theorem dX6_sumOfQueue_188 : decode cX6_sumOfQueue 188 = .ok (.invokevirtual 252, 3) := by decide +kernel
theorem dX6_sumOfQueue_191 : decode cX6_sumOfQueue 191 = .ok (.lstore 4, 2) := by decide +kernel
theorem dX6_sumOfQueue_193 : decode cX6_sumOfQueue 193 = .ok (.iinc 8 1, 3) := by decide +kernel
theorem dX6_sumOfQueue_196 : decode cX6_sumOfQueue 196 = .ok (.goto (-41), 3) := by decide +kernel
theorem dX6_sumOfQueue_199 : decode cX6_sumOfQueue 199 = .ok (.iinc 6 1, 3) := by decide +kernel
theorem dX6_sumOfQueue_202 : decode cX6_sumOfQueue 202 = .ok (.goto (-98), 3) := by decide +kernel
theorem dX6_sumOfQueue_205 : decode cX6_sumOfQueue 205 = .ok (.lload 4, 2) := by decide +kernel
theorem dX6_sumOfQueue_207 : decode cX6_sumOfQueue 207 = .ok (.lreturn, 1) := by decide +kernel
theorem dX6_checksum_0 : decode cX6_checksum 0 = .ok (.ldc2_w 256, 3) := by decide +kernel
theorem dX6_checksum_3 : decode cX6_checksum 3 = .ok (.lstore_n 1, 1) := by decide +kernel
theorem dX6_checksum_4 : decode cX6_checksum 4 = .ok (.aload_n 0, 1) := by decide +kernel
theorem dX6_checksum_5 : decode cX6_checksum 5 = .ok (.aload_n 0, 1) := by decide +kernel
theorem dX6_checksum_6 : decode cX6_checksum 6 = .ok (.aload_n 0, 1) := by decide +kernel
theorem dX6_checksum_7 : decode cX6_checksum 7 = .ok (.aload_n 0, 1) := by decide +kernel
theorem dX6_checksum_8 : decode cX6_checksum 8 = .ok (.lload_n 1, 1) := by decide +kernel
theorem dX6_checksum_9 : decode cX6_checksum 9 = .ok (.aload_n 0, 1) := by decide +kernel
theorem dX6_checksum_10 : decode cX6_checksum 10 = .ok (.getfield 7, 3) := by decide +kernel
theorem dX6_checksum_13 : decode cX6_checksum 13 = .ok (.iconst 3, 1) := by decide +kernel
theorem dX6_checksum_14 : decode cX6_checksum 14 = .ok (.iaload, 1) := by decide +kernel
theorem dX6_checksum_15 : decode cX6_checksum 15 = .ok (.invokevirtual 252, 3) := by decide +kernel
theorem dX6_checksum_18 : decode cX6_checksum 18 = .ok (.aload_n 0, 1) := by decide +kernel
theorem dX6_checksum_19 : decode cX6_checksum 19 = .ok (.getfield 7, 3) := by decide +kernel
theorem dX6_checksum_22 : decode cX6_checksum 22 = .ok (.iconst 4, 1) := by decide +kernel
theorem dX6_checksum_23 : decode cX6_checksum 23 = .ok (.iaload, 1) := by decide +kernel
theorem dX6_checksum_24 : decode cX6_checksum 24 = .ok (.invokevirtual 252, 3) := by decide +kernel
theorem dX6_checksum_27 : decode cX6_checksum 27 = .ok (.aload_n 0, 1) := by decide +kernel
theorem dX6_checksum_28 : decode cX6_checksum 28 = .ok (.invokevirtual 62, 3) := by decide +kernel
theorem dX6_checksum_31 : decode cX6_checksum 31 = .ok (.invokevirtual 252, 3) := by decide +kernel
theorem dX6_checksum_34 : decode cX6_checksum 34 = .ok (.aload_n 0, 1) := by decide +kernel
theorem dX6_checksum_35 : decode cX6_checksum 35 = .ok (.invokevirtual 55, 3) := by decide +kernel
theorem dX6_checksum_38 : decode cX6_checksum 38 = .ok (.invokevirtual 252, 3) := by decide +kernel
theorem dX6_checksum_41 : decode cX6_checksum 41 = .ok (.lstore_n 1, 1) := by decide +kernel
theorem dX6_checksum_42 : decode cX6_checksum 42 = .ok (.iconst 0, 1) := by decide +kernel
theorem dX6_checksum_43 : decode cX6_checksum 43 = .ok (.istore_n 3, 1) := by decide +kernel
theorem dX6_checksum_44 : decode cX6_checksum 44 = .ok (.iload_n 3, 1) := by decide +kernel
theorem dX6_checksum_45 : decode cX6_checksum 45 = .ok (.aload_n 0, 1) := by decide +kernel
theorem dX6_checksum_46 : decode cX6_checksum 46 = .ok (.getfield 7, 3) := by decide +kernel
theorem dX6_checksum_49 : decode cX6_checksum 49 = .ok (.iconst 1, 1) := by decide +kernel
theorem dX6_checksum_50 : decode cX6_checksum 50 = .ok (.iaload, 1) := by decide +kernel
theorem dX6_checksum_51 : decode cX6_checksum 51 = .ok (.if_icmp .ge 109, 3) := by decide +kernel
theorem dX6_checksum_54 : decode cX6_checksum 54 = .ok (.aload_n 0, 1) := by decide +kernel
theorem dX6_checksum_55 : decode cX6_checksum 55 = .ok (.aload_n 0, 1) := by decide +kernel
theorem dX6_checksum_56 : decode cX6_checksum 56 = .ok (.aload_n 0, 1) := by decide +kernel
theorem dX6_checksum_57 : decode cX6_checksum 57 = .ok (.lload_n 1, 1) := by decide +kernel
theorem dX6_checksum_58 : decode cX6_checksum 58 = .ok (.aload_n 0, 1) := by decide +kernel
theorem dX6_checksum_59 : decode cX6_checksum 59 = .ok (.iload_n 3, 1) := by decide +kernel
theorem dX6_checksum_60 : decode cX6_checksum 60 = .ok (.invokevirtual 65, 3) := by decide +kernel
theorem dX6_checksum_63 : decode cX6_checksum 63 = .ok (.invokevirtual 252, 3) := by decide +kernel
theorem dX6_checksum_66 : decode cX6_checksum 66 = .ok (.aload_n 0, 1) := by decide +kernel
theorem dX6_checksum_67 : decode cX6_checksum 67 = .ok (.getfield 7, 3) := by decide +kernel
theorem dX6_checksum_70 : decode cX6_checksum 70 = .ok (.iload_n 3, 1) := by decide +kernel
theorem dX6_checksum_71 : decode cX6_checksum 71 = .ok (.iconst 2, 1) := by decide +kernel
theorem dX6_checksum_72 : decode cX6_checksum 72 = .ok (.invokestatic 44, 3) := by decide +kernel
theorem dX6_checksum_75 : decode cX6_checksum 75 = .ok (.iaload, 1) := by decide +kernel
theorem dX6_checksum_76 : decode cX6_checksum 76 = .ok (.invokevirtual 252, 3) := by decide +kernel
theorem dX6_checksum_79 : decode cX6_checksum 79 = .ok (.aload_n 0, 1) := by decide +kernel
theorem dX6_checksum_80 : decode cX6_checksum 80 = .ok (.getfield 7, 3) := by decide +kernel
theorem dX6_checksum_83 : decode cX6_checksum 83 = .ok (.iload_n 3, 1) := by decide +kernel
theorem dX6_checksum_84 : decode cX6_checksum 84 = .ok (.iconst 4, 1) := by decide +kernel
theorem dX6_checksum_85 : decode cX6_checksum 85 = .ok (.invokestatic 44, 3) := by decide +kernel
theorem dX6_checksum_88 : decode cX6_checksum 88 = .ok (.iaload, 1) := by decide +kernel
theorem dX6_checksum_89 : decode cX6_checksum 89 = .ok (.invokevirtual 252, 3) := by decide +kernel
theorem dX6_checksum_92 : decode cX6_checksum 92 = .ok (.lstore_n 1, 1) := by decide +kernel
theorem dX6_checksum_93 : decode cX6_checksum 93 = .ok (.aload_n 0, 1) := by decide +kernel
theorem dX6_checksum_94 : decode cX6_checksum 94 = .ok (.aload_n 0, 1) := by decide +kernel
theorem dX6_checksum_95 : decode cX6_checksum 95 = .ok (.lload_n 1, 1) := by decide +kernel
theorem dX6_checksum_96 : decode cX6_checksum 96 = .ok (.aload_n 0, 1) := by decide +kernel
theorem dX6_checksum_97 : decode cX6_checksum 97 = .ok (.getfield 7, 3) := by decide +kernel
theorem dX6_checksum_100 : decode cX6_checksum 100 = .ok (.iload_n 3, 1) := by decide +kernel
theorem dX6_checksum_101 : decode cX6_checksum 101 = .ok (.bipush 9, 2) := by decide +kernel
theorem dX6_checksum_103 : decode cX6_checksum 103 = .ok (.invokestatic 44, 3) := by decide +kernel
theorem dX6_checksum_106 : decode cX6_checksum 106 = .ok (.iaload, 1) := by decide +kernel
theorem dX6_checksum_107 : decode cX6_checksum 107 = .ok (.invokevirtual 252, 3) := by decide +kernel
theorem dX6_checksum_110 : decode cX6_checksum 110 = .ok (.aload_n 0, 1) := by decide +kernel
theorem dX6_checksum_111 : decode cX6_checksum 111 = .ok (.getfield 7, 3) := by decide +kernel
theorem dX6_checksum_114 : decode cX6_checksum 114 = .ok (.iload_n 3, 1) := by decide +kernel
theorem dX6_checksum_115 : decode cX6_checksum 115 = .ok (.bipush 10, 2) := by decide +kernel
theorem dX6_checksum_117 : decode cX6_checksum 117 = .ok (.invokestatic 44, 3) := by decide +kernel
theorem dX6_checksum_120 : decode cX6_checksum 120 = .ok (.iaload, 1) := by decide +kernel
theorem dX6_checksum_121 : decode cX6_checksum 121 = .ok (.invokevirtual 252, 3) := by decide +kernel
theorem dX6_checksum_124 : decode cX6_checksum 124 = .ok (.lstore_n 1, 1) := by decide +kernel
theorem dX6_checksum_125 : decode cX6_checksum 125 = .ok (.iconst 3, 1) := by decide +kernel
theorem dX6_checksum_126 : decode cX6_checksum 126 = .ok (.iload_n 3, 1) := by decide +kernel
theorem dX6_checksum_127 : decode cX6_checksum 127 = .ok (.imul, 1) := by decide +kernel
theorem dX6_checksum_128 : decode cX6_checksum 128 = .ok (.istore 4, 2) := by decide +kernel
theorem dX6_checksum_130 : decode cX6_checksum 130 = .ok (.iload 4, 2) := by decide +kernel
theorem dX6_checksum_132 : decode cX6_checksum 132 = .ok (.iconst 3, 1) := by decide +kernel
theorem dX6_checksum_133 : decode cX6_checksum 133 = .ok (.iload_n 3, 1) := by decide +kernel
theorem dX6_checksum_134 : decode cX6_checksum 134 = .ok (.imul, 1) := by decide +kernel
theorem dX6_checksum_135 : decode cX6_checksum 135 = .ok (.iconst 3, 1) := by decide +kernel
theorem dX6_checksum_136 : decode cX6_checksum 136 = .ok (.iadd, 1) := by decide +kernel
theorem dX6_checksum_137 : decode cX6_checksum 137 = .ok (.if_icmp .ge 17, 3) := by decide +kernel
theorem dX6_checksum_140 : decode cX6_checksum 140 = .ok (.aload_n 0, 1) := by decide +kernel
theorem dX6_checksum_141 : decode cX6_checksum 141 = .ok (.lload_n 1, 1) := by decide +kernel
theorem dX6_checksum_142 : decode cX6_checksum 142 = .ok (.iload 4, 2) := by decide +kernel
theorem dX6_checksum_144 : decode cX6_checksum 144 = .ok (.invokevirtual 258, 3) := by decide +kernel
theorem dX6_checksum_147 : decode cX6_checksum 147 = .ok (.lstore_n 1, 1) := by decide +kernel
theorem dX6_checksum_148 : decode cX6_checksum 148 = .ok (.iinc 4 1, 3) := by decide +kernel
theorem dX6_checksum_151 : decode cX6_checksum 151 = .ok (.goto (-21), 3) := by decide +kernel
theorem dX6_checksum_154 : decode cX6_checksum 154 = .ok (.iinc 3 1, 3) := by decide +kernel
theorem dX6_checksum_157 : decode cX6_checksum 157 = .ok (.goto (-113), 3) := by decide +kernel
theorem dX6_checksum_160 : decode cX6_checksum 160 = .ok (.iconst 0, 1) := by decide +kernel
theorem dX6_checksum_161 : decode cX6_checksum 161 = .ok (.istore_n 3, 1) := by decide +kernel
theorem dX6_checksum_162 : decode cX6_checksum 162 = .ok (.iload_n 3, 1) := by decide +kernel
theorem dX6_checksum_163 : decode cX6_checksum 163 = .ok (.aload_n 0, 1) := by decide +kernel
theorem dX6_checksum_164 : decode cX6_checksum 164 = .ok (.getfield 7, 3) := by decide +kernel
theorem dX6_checksum_167 : decode cX6_checksum 167 = .ok (.iconst 0, 1) := by decide +kernel
theorem dX6_checksum_168 : decode cX6_checksum 168 = .ok (.iaload, 1) := by decide +kernel
theorem dX6_checksum_169 : decode cX6_checksum 169 = .ok (.if_icmp .ge 38, 3) := by decide +kernel
theorem dX6_checksum_172 : decode cX6_checksum 172 = .ok (.aload_n 0, 1) := by decide +kernel
theorem dX6_checksum_173 : decode cX6_checksum 173 = .ok (.iload_n 3, 1) := by decide +kernel
theorem dX6_checksum_174 : decode cX6_checksum 174 = .ok (.invokevirtual 98, 3) := by decide +kernel
theorem dX6_checksum_177 : decode cX6_checksum 177 = .ok (.istore 4, 2) := by decide +kernel
theorem dX6_checksum_179 : decode cX6_checksum 179 = .ok (.iload 4, 2) := by decide +kernel
theorem dX6_checksum_181 : decode cX6_checksum 181 = .ok (.ifCond .le 18, 3) := by decide +kernel
theorem dX6_checksum_184 : decode cX6_checksum 184 = .ok (.aload_n 0, 1) := by decide +kernel
theorem dX6_checksum_185 : decode cX6_checksum 185 = .ok (.aload_n 0, 1) := by decide +kernel
theorem dX6_checksum_186 : decode cX6_checksum 186 = .ok (.lload_n 1, 1) := by decide +kernel
theorem dX6_checksum_187 : decode cX6_checksum 187 = .ok (.iload_n 3, 1) := by decide +kernel
theorem dX6_checksum_188 : decode cX6_checksum 188 = .ok (.invokevirtual 252, 3) := by decide +kernel
theorem dX6_checksum_191 : decode cX6_checksum 191 = .ok (.iload 4, 2) := by decide +kernel
theorem dX6_checksum_193 : decode cX6_checksum 193 = .ok (.invokevirtual 252, 3) := by decide +kernel
theorem dX6_checksum_196 : decode cX6_checksum 196 = .ok (.goto 4, 3) := by decide +kernel
theorem dX6_checksum_199 : decode cX6_checksum 199 = .ok (.lload_n 1, 1) := by decide +kernel
theorem dX6_checksum_200 : decode cX6_checksum 200 = .ok (.lstore_n 1, 1) := by decide +kernel
theorem dX6_checksum_201 : decode cX6_checksum 201 = .ok (.iinc 3 1, 3) := by decide +kernel
theorem dX6_checksum_204 : decode cX6_checksum 204 = .ok (.goto (-42), 3) := by decide +kernel
theorem dX6_checksum_207 : decode cX6_checksum 207 = .ok (.lload_n 1, 1) := by decide +kernel
theorem dX6_checksum_208 : decode cX6_checksum 208 = .ok (.lreturn, 1) := by decide +kernel
end
section
/-! ===== the world of both sides: ids (d, kind, p, r), a store of ints, and the machine seen through it ===== -/
/-- the tables' words that a callee may take over -/
def xT : List Cond := lw_tbl.filter goodWord
theorem xT_of {c : Cond} (h : c ∈ lw_tbl) (hg : goodWord c = true) : c ∈ xT := List.mem_filter.mpr ⟨h, hg⟩
theorem xT_in {c : Cond} (h : c ∈ xT) : c ∈ lw_tbl := (List.mem_filter.mp h).1
theorem xT_g {c : Cond} (h : c ∈ xT) : goodWord c = true := (List.mem_filter.mp h).2
abbrev xS : Type := Nat → Nat → Nat → Nat → Nat → Int32
abbrev xI : Type := Nat × Nat × Nat × Nat
abbrev xW : Type := va_G × (Nat → ClassId) × (Nat → Nat → Nat → Nat → Nat)
abbrev xM : Type := String × ByteArray × Nat × Option FieldType × Nat
def x_ok (d K p r : Nat) : Bool :=
  if K ≤ 12 then decide (d < 4 ∧ p = 0 ∧ r = 0)
  else if K ≤ 15 then decide (d < 4 ∧ p < 6 ∧ r = 0)
  else if K = 16 then decide (d < 4 ∧ p < 6 ∧ r < 3)
  else if 20 ≤ K ∧ K ≤ 24 then decide (d = 4 ∧ p = 0 ∧ r = 0)
  else if 30 ≤ K ∧ K ≤ 37 then decide (d = 5 ∧ p = 0 ∧ r = 0)
  else false
def x_ids : List xI := (List.range 6).flatMap fun d => (List.range 38).flatMap fun K => (List.range 6).flatMap fun p => (List.range 3).filterMap fun r => if x_ok d K p r then some (d, K, p, r) else none
theorem x_nodup : x_ids.Nodup := by decide +kernel
theorem x_bnd {d K p r : Nat} (h : x_ok d K p r = true) : d < 6 ∧ K < 38 ∧ p < 6 ∧ r < 3 := by
  unfold x_ok at h
  split at h
  · have := of_decide_eq_true h; omega
  · split at h
    · have := of_decide_eq_true h; omega
    · split at h
      · have := of_decide_eq_true h; omega
      · split at h
        · have := of_decide_eq_true h; omega
        · split at h
          · have := of_decide_eq_true h; omega
          · cases h
theorem x_mem {d K p r : Nat} (h : x_ok d K p r = true) : (d, K, p, r) ∈ x_ids := by
  obtain ⟨h1, h2, h3, h4⟩ := x_bnd h
  unfold x_ids
  refine List.mem_flatMap.mpr ⟨d, List.mem_range.mpr h1, List.mem_flatMap.mpr ⟨K, List.mem_range.mpr h2, List.mem_flatMap.mpr ⟨p, List.mem_range.mpr h3, List.mem_filterMap.mpr ⟨r, List.mem_range.mpr h4, ?_⟩⟩⟩⟩
  rw [if_pos h]
def x_ref (d K p _r k : Nat) : Option xI := match K with
  | 0 => (match k with | 0 => some (d, 1, 0, 0) | 1 => some (d, 10, 0, 0) | 8 => some (d, 11, 0, 0) | 11 => some (d, 12, 0, 0) | _ => none)
  | 1 => (match k with | 0 => none | k + 1 => some (d, k + 2, 0, 0))
  | 10 => some (d, 13, k, 0)
  | 13 => (match k with | 0 => some (d, 14, p, 0) | 1 => some (d, 15, p, 0) | _ => none)
  | 14 => some (d, 16, p, k)
  | 20 => (match k with | 0 => some (0, 0, 0, 0) | 1 => some (1, 0, 0, 0) | 2 => some (4, 21, 0, 0) | 3 => some (4, 22, 0, 0) | _ => some (4, 23, 0, 0))
  | 21 => some (k + 2, 0, 0, 0)
  | 23 => (match k with | 0 => some (4, 24, 0, 0) | _ => none)
  | 30 => (match k with | 0 => some (5, 31, 0, 0) | 1 => some (5, 32, 0, 0) | 2 => some (5, 33, 0, 0) | 3 => some (5, 34, 0, 0) | 4 => some (5, 35, 0, 0) | 6 => some (5, 36, 0, 0) | 8 => some (5, 37, 0, 0) | _ => none)
  | _ => none
/-- kinds that are objects: the class's number, how many fields -/
def x_obj (K : Nat) : Option (Nat × Nat) := match K with
  | 0 => some (0, 13) | 1 => some (1, 9) | 13 => some (2, 12) | 16 => some (3, 16) | 23 => some (4, 9) | 20 => some (5, 5) | 30 => some (6, 13) | _ => none
/-- kinds that are arrays: their element type (0 int, 1 boolean, 2 Port, 3 Queue, 4 Device), their length -/
def x_ty (K : Nat) : Nat := match K with
  | 2 => 1 | 22 => 1 | 34 => 1 | 10 => 2 | 14 => 3 | 21 => 4 | _ => 0
def x_len (K : Nat) : Nat := match K with
  | 10 => 6 | 11 => 4 | 12 => 4 | 14 => 3 | 15 => 10 | 21 => 2 | 22 => 2 | 24 => 120 | 31 => 6464 | 32 => 6464 | 33 => 12928 | 34 => 2 | 35 => 120 | 36 => 5 | 37 => 9 | _ => 128
def x_ad (w : xW) (i : xI) : Nat := w.2.2 i.1 i.2.1 i.2.2.1 i.2.2.2
def x_rv (w : xW) (o : Option xI) : Value := match o with
  | none => .null
  | some i => .ref (x_ad w i)
def x_fv (w : xW) (σ : xS) (d K p r k : Nat) : Value := match x_ref d K p r k with
  | none => .int (σ d K p r k)
  | some i => .ref (x_ad w i)
def x_cell (w : xW) (σ : xS) (d K p r : Nat) : va_E := match x_obj K with
  | some o => .inr (o.1, (List.range o.2).map fun k => x_fv w σ d K p r k)
  | none => .inl (w.2.1 (x_ty K), (x_len K, if x_ty K < 2 then .inl (σ d K p r) else .inr (.inr (.inr (.inr (fun j => (x_ref d K p r j).map (x_ad w)))))))
def x_e (w : xW) (σ : xS) (i : xI) : va_E := x_cell w σ i.1 i.2.1 i.2.2.1 i.2.2.2
def xC (w : xW) (σ : xS) : va_W := x_ids.map fun i => (x_ad w i, x_e w σ i)
def x_row (σ : xS) (d K p r : Nat) (f : Nat → Int32) : xS := va_up σ d (va_up (σ d) K (va_up (σ d K) p (va_up (σ d K p) r f)))
def x_set (σ : xS) (d K p r k : Nat) (v : Int32) : xS := x_row σ d K p r (va_up (σ d K p r) k v)
theorem up_s {α : Type} (f : Nat → α) (k : Nat) (v : α) : va_up f k v k = v := by simp [va_up]
theorem up_n {α : Type} (f : Nat → α) {j k : Nat} (v : α) (h : j ≠ k) : va_up f k v j = f j := by simp [va_up, h]
theorem x_row_same (σ : xS) (d K p r : Nat) (f : Nat → Int32) : x_row σ d K p r f d K p r = f := by rw [x_row, up_s, up_s, up_s, up_s]
theorem x_row_ne (σ : xS) (d K p r : Nat) (f : Nat → Int32) (i : xI) (h : i ≠ (d, K, p, r)) : x_row σ d K p r f i.1 i.2.1 i.2.2.1 i.2.2.2 = σ i.1 i.2.1 i.2.2.1 i.2.2.2 := by
  obtain ⟨a, b, x, y⟩ := i
  show x_row σ d K p r f a b x y = σ a b x y
  rw [x_row]
  by_cases h1 : a = d
  · subst h1
    rw [up_s]
    by_cases h2 : b = K
    · subst h2
      rw [up_s]
      by_cases h3 : x = p
      · subst h3
        rw [up_s]
        by_cases h4 : y = r
        · subst h4; exact absurd rfl h
        · rw [up_n _ _ h4]
      · rw [up_n _ _ h3]
    · rw [up_n _ _ h2]
  · rw [up_n _ _ h1]
theorem x_cell_congr (w : xW) (σ τ : xS) (d K p r : Nat) (h : σ d K p r = τ d K p r) : x_cell w σ d K p r = x_cell w τ d K p r := by
  simp only [x_cell, x_fv, h]
theorem x_pos (w : xW) (σ : xS) {d K p r : Nat} (h : x_ok d K p r = true) : ∃ q0 : Nat, x_ids[q0]? = some (d, K, p, r) ∧ (xC w σ)[q0]? = some (w.2.2 d K p r, x_cell w σ d K p r) := by
  obtain ⟨q0, hq⟩ := List.getElem?_of_mem (x_mem h)
  exact ⟨q0, hq, by rw [xC, List.getElem?_map, hq]; rfl⟩
theorem xC_set (w : xW) (σ : xS) {q0 d K p r : Nat} (f : Nat → Int32) (hq : x_ids[q0]? = some (d, K, p, r)) : (xC w σ).set q0 (w.2.2 d K p r, x_cell w (x_row σ d K p r f) d K p r) = xC w (x_row σ d K p r f) := by
  have hl : q0 < x_ids.length := (List.getElem?_eq_some_iff.mp hq).1
  apply List.ext_getElem?
  intro j
  by_cases hj : j = q0
  · subst hj
    rw [List.getElem?_set_self (by rw [xC, List.length_map]; exact hl), xC, List.getElem?_map, hq]
    rfl
  · rw [List.getElem?_set_ne (Ne.symm hj), xC, xC, List.getElem?_map, List.getElem?_map]
    cases hi : x_ids[j]? with
    | none => rfl
    | some i =>
      have hne : i ≠ (d, K, p, r) := by
        intro e
        subst e
        exact hj ((List.getElem?_inj (List.getElem?_eq_some_iff.mp hi).1 x_nodup).mp (hi.trans hq.symm))
      simp only [Option.map_some, x_e]
      rw [x_cell_congr w (x_row σ d K p r f) σ _ _ _ _ (x_row_ne σ d K p r f i hne)]
def xInj (w : xW) : Prop := ∀ i ∈ x_ids, ∀ j ∈ x_ids, x_ad w i = x_ad w j → i = j
def xA (w : xW) (sz : Nat) : Nat → Prop := fun q => (∃ i, i ∈ x_ids ∧ x_ad w i = q) ∨ sz ≤ q
theorem x_D {w : xW} (h : xInj w) (σ : xS) (sz : Nat) : va_D (xA w sz) (xC w σ) := by
  have key : ∀ (k : Nat) (q : Nat × va_E), (xC w σ)[k]? = some q → ∃ i, x_ids[k]? = some i ∧ x_ad w i = q.1 := by
    intro k q hk
    rw [xC, List.getElem?_map] at hk
    cases hi : x_ids[k]? with
    | none => rw [hi] at hk; cases hk
    | some i => rw [hi] at hk; cases hk; exact ⟨i, rfl, rfl⟩
  refine ⟨fun i j a b hi hj hab => ?_, fun k q hk => ?_⟩
  · obtain ⟨x, hx, ex⟩ := key i a hi
    obtain ⟨y, hy, ey⟩ := key j b hj
    have e := h x (List.mem_of_getElem? hx) y (List.mem_of_getElem? hy) (ex.trans (hab.trans ey.symm))
    subst e
    exact (List.getElem?_inj (List.getElem?_eq_some_iff.mp hx).1 x_nodup).mp (hx.trans hy.symm)
  · obtain ⟨x, hx, ex⟩ := key k q hk
    exact Or.inl ⟨x, List.mem_of_getElem? hx, ex⟩
abbrev xTys (w : xW) : List (ClassId × FieldType) := [(w.2.1 0, .int), (w.2.1 1, .boolean), (w.2.1 2, .object RX2), (w.2.1 3, .object RX3), (w.2.1 4, .object RX0)]
abbrev xRm (lv : Nat) : Room := { frames := lv, cells := 0, slots := 0, locals := 40 * lv }
def xQ (w : xW) (v : Option Value) (τ : xS) : Array Value → State → Outcome → State → Prop := fun _ st oc t => oc = .returned v ∧ va_P w.1 vwCl (xC w τ) t.heap ∧ va_F (xA w st.heap.size) st t
def xAmb (w : xW) (M : xM) (p : Program) (R : Room) (s : State) (m : MethodId) (args : Array Value) (meth : Method) (c : Code) : Prop :=
  p.tables.exec = Jvm.exec ∧ c.code = M.2.1 ∧ meth.sig.returnType = M.2.2.2.1 ∧ c.maxLocals = M.2.2.1 ∧ (∀ x ∈ xT, x.before args s = true) ∧ s.vm.findClass M.1 = some m.cls ∧ va_K w.1 vwCl (xTys w) s ∧ meth.locks = false ∧ xInj w ∧ M.2.2.2.2 ≤ R.frames ∧ 40 * M.2.2.2.2 ≤ R.locals
/-- from here the method ends with v and the store τ -/
def xAt (l : Launch) (w : xW) (M : xM) (pc : Nat) (L : List (Nat × Value)) (st : List Value) (σ : xS) (v : Option Value) (τ : xS) : Prop :=
  ∀ (p : Program) (e : Env) (R : Room) (s : State) (m : MethodId) (args : Array Value) (below : List Frame) (meth : Method) (c : Code) (H : Heap) (locs : List Loc) (ls : Array Slot), xAmb w M p R s m args meth c → va_P w.1 vwCl (xC w σ) H → va_S (xA w s.heap.size) s.heap H locs → lv_has ls M.2.2.1 L → W p l e R s m args below meth c H locs 0 0 (MQ below (xQ w v τ) args s 0 0 (xA w s.heap.size)) (F0 m pc ls st)
def xPre (w : xW) (σ : xS) (sz : Nat) (U : State) : Prop := xInj w ∧ U.heap.size = sz ∧ va_P w.1 vwCl (xC w σ) U.heap ∧ va_K w.1 vwCl (xTys w) U
/-- a method's contract: from the store σ with the arguments av it ends with v and the store τ -/
def xEV (l : Launch) (w : xW) (y : MethodName) (M : xM) (av : List Value) (σ : xS) (v : Option Value) (τ : xS) : Prop :=
  ∀ sz : Nat, Met l y (Cond.code y M.2.1 M.2.2.1 M.2.2.2.1 :: xT) (xRm M.2.2.2.2) (va_Pc av (xPre w σ sz)) (xQ w v τ) 0 0 (xA w sz)
theorem x_enter {l : Launch} {w : xW} {y : MethodName} {M : xM} {av : List Value} {σ τ : xS} {v : Option Value} (hy : plainName y.cls = true) (hc : y.cls = M.1) (hn : (lg_sl av).length ≤ M.2.2.1) (h : xAt l w M 0 (lv_args 0 av) [] σ v τ) : xEV l w y M av σ v τ := by
  intro sz
  refine Met.ofW (cc := M.2.1) (maxL := M.2.2.1) (ret := M.2.2.2.1) hy rfl ?_
  intro p e s m args below meth c s₁ B hml hv
  obtain ⟨rfl, hinj, hsz, hP, hK⟩ := hv
  have hts := atoms_spec (ws := Cond.code y M.2.1 M.2.2.1 M.2.2.2.1 :: xT) B.pre
  have hown : s.vm.findClass M.1 = some m.cls := by rw [← hc]; exact findClass_of_methodNamed B.named
  subst hsz
  have hl := lv_entry av (n := M.2.2.1) hn
  rw [lg_entry_eq]
  exact h p e _ s m _ below meth c s.heap [] _ ⟨B.exec, B.bytes, B.returns, hml, fun x hx => hts x (List.mem_cons_of_mem _ hx), hown, hK, B.notSynchronized, hinj, Nat.le_refl _, Nat.le_refl _⟩ hP va_S.rf hl
end
section
section XR
variable {l : Launch} {w : xW} {M : xM} {pc : Nat} {L : List (Nat × Value)} {st : List Value} {σ τ : xS} {v : Option Value}
theorem x_iload_n {k : Fin 4} {i : Nat} {x : Int32} (hd : decode M.2.1 pc = .ok (.iload_n k, 1)) (hi : (k : Nat) = i) (j : Nat) (hj : L[j]? = some (i, .int x)) (h : xAt l w M (pc + 1) L (.int x :: st) σ v τ) : xAt l w M pc L st σ v τ := fun p e R s m args below meth c H locs ls A hP hS hl => lv_iload_n A.1 A.2.1 hd hi (lv_at hl j hj) (h p e R s m args below meth c H locs ls A hP hS hl)
theorem x_iload {i : Nat} {x : Int32} (hd : decode M.2.1 pc = .ok (.iload i, 2)) (j : Nat) (hj : L[j]? = some (i, .int x)) (h : xAt l w M (pc + 2) L (.int x :: st) σ v τ) : xAt l w M pc L st σ v τ := fun p e R s m args below meth c H locs ls A hP hS hl => lv_iload A.1 A.2.1 hd (lv_at hl j hj) (h p e R s m args below meth c H locs ls A hP hS hl)
theorem x_aload_n {k : Fin 4} {i : Nat} {x : Nat} (hd : decode M.2.1 pc = .ok (.aload_n k, 1)) (hi : (k : Nat) = i) (j : Nat) (hj : L[j]? = some (i, .ref x)) (h : xAt l w M (pc + 1) L (.ref x :: st) σ v τ) : xAt l w M pc L st σ v τ := fun p e R s m args below meth c H locs ls A hP hS hl => lv_aload_n A.1 A.2.1 hd hi (lv_at hl j hj) (h p e R s m args below meth c H locs ls A hP hS hl)
theorem x_aload {i : Nat} {x : Nat} (hd : decode M.2.1 pc = .ok (.aload i, 2)) (j : Nat) (hj : L[j]? = some (i, .ref x)) (h : xAt l w M (pc + 2) L (.ref x :: st) σ v τ) : xAt l w M pc L st σ v τ := fun p e R s m args below meth c H locs ls A hP hS hl => lv_aload A.1 A.2.1 hd (lv_at hl j hj) (h p e R s m args below meth c H locs ls A hP hS hl)
theorem x_lload_n {k : Fin 4} {i : Nat} {x : Int64} (hd : decode M.2.1 pc = .ok (.lload_n k, 1)) (hi : (k : Nat) = i) (j : Nat) (hj : L[j]? = some (i, .long x)) (h : xAt l w M (pc + 1) L (.long x :: st) σ v τ) : xAt l w M pc L st σ v τ := fun p e R s m args below meth c H locs ls A hP hS hl => lv_lload_n A.1 A.2.1 hd hi (lv_at hl j hj) (h p e R s m args below meth c H locs ls A hP hS hl)
theorem x_lload {i : Nat} {x : Int64} (hd : decode M.2.1 pc = .ok (.lload i, 2)) (j : Nat) (hj : L[j]? = some (i, .long x)) (h : xAt l w M (pc + 2) L (.long x :: st) σ v τ) : xAt l w M pc L st σ v τ := fun p e R s m args below meth c H locs ls A hP hS hl => lv_lload A.1 A.2.1 hd (lv_at hl j hj) (h p e R s m args below meth c H locs ls A hP hS hl)
theorem x_aload_nN {k : Fin 4} {i : Nat} (hd : decode M.2.1 pc = .ok (.aload_n k, 1)) (hi : (k : Nat) = i) (j : Nat) (hj : L[j]? = some (i, .null)) (h : xAt l w M (pc + 1) L (.null :: st) σ v τ) : xAt l w M pc L st σ v τ := fun p e R s m args below meth c H locs ls A hP hS hl => lv_aload_nN A.1 A.2.1 hd hi (lv_at hl j hj) (h p e R s m args below meth c H locs ls A hP hS hl)
theorem x_aloadN {i : Nat} (hd : decode M.2.1 pc = .ok (.aload i, 2)) (j : Nat) (hj : L[j]? = some (i, .null)) (h : xAt l w M (pc + 2) L (.null :: st) σ v τ) : xAt l w M pc L st σ v τ := fun p e R s m args below meth c H locs ls A hP hS hl => lv_aloadN A.1 A.2.1 hd (lv_at hl j hj) (h p e R s m args below meth c H locs ls A hP hS hl)
theorem x_istore_n {k : Fin 4} {i : Nat} {x : Int32} (t : Int32) (he : t = x) (hd : decode M.2.1 pc = .ok (.istore_n k, 1)) (hi : (k : Nat) = i) (hn : i < M.2.2.1) (L1 : List (Nat × Value)) (hL : (i, Value.int t) :: L.filter (fun q => !(q.1 == i) && !(q.1 + 1 == i && q.2.category == 2)) = L1) (h : xAt l w M (pc + 1) L1 st σ v τ) : xAt l w M pc L (.int x :: st) σ v τ := fun p e R s m args below meth c H locs ls A hP hS hl => by subst he; exact lv_istore_n A.1 A.2.1 hd hi hl hn hL fun ls1 hl1 => h p e R s m args below meth c H locs ls1 A hP hS hl1
theorem x_istore {i : Nat} {x : Int32} (t : Int32) (he : t = x) (hd : decode M.2.1 pc = .ok (.istore i, 2)) (hn : i < M.2.2.1) (L1 : List (Nat × Value)) (hL : (i, Value.int t) :: L.filter (fun q => !(q.1 == i) && !(q.1 + 1 == i && q.2.category == 2)) = L1) (h : xAt l w M (pc + 2) L1 st σ v τ) : xAt l w M pc L (.int x :: st) σ v τ := fun p e R s m args below meth c H locs ls A hP hS hl => by subst he; exact lv_istore A.1 A.2.1 hd hl hn hL fun ls1 hl1 => h p e R s m args below meth c H locs ls1 A hP hS hl1
theorem x_astore_n {k : Fin 4} {i : Nat} {t : Nat} (hd : decode M.2.1 pc = .ok (.astore_n k, 1)) (hi : (k : Nat) = i) (hn : i < M.2.2.1) (L1 : List (Nat × Value)) (hL : (i, Value.ref t) :: L.filter (fun q => !(q.1 == i) && !(q.1 + 1 == i && q.2.category == 2)) = L1) (h : xAt l w M (pc + 1) L1 st σ v τ) : xAt l w M pc L (.ref t :: st) σ v τ := fun p e R s m args below meth c H locs ls A hP hS hl => lv_astore_n A.1 A.2.1 hd hi hl hn hL fun ls1 hl1 => h p e R s m args below meth c H locs ls1 A hP hS hl1
theorem x_astore {i : Nat} {t : Nat} (hd : decode M.2.1 pc = .ok (.astore i, 2)) (hn : i < M.2.2.1) (L1 : List (Nat × Value)) (hL : (i, Value.ref t) :: L.filter (fun q => !(q.1 == i) && !(q.1 + 1 == i && q.2.category == 2)) = L1) (h : xAt l w M (pc + 2) L1 st σ v τ) : xAt l w M pc L (.ref t :: st) σ v τ := fun p e R s m args below meth c H locs ls A hP hS hl => lv_astore A.1 A.2.1 hd hl hn hL fun ls1 hl1 => h p e R s m args below meth c H locs ls1 A hP hS hl1
theorem x_lstore_n {k : Fin 4} {i : Nat} {x : Int64} (t : Int64) (he : t = x) (hd : decode M.2.1 pc = .ok (.lstore_n k, 1)) (hi : (k : Nat) = i) (hn : i + 1 < M.2.2.1) (L1 : List (Nat × Value)) (hL : (i, Value.long t) :: L.filter (fun q => !(q.1 == i) && (!(q.1 == i + 1) && !(q.1 + 1 == i && q.2.category == 2))) = L1) (h : xAt l w M (pc + 1) L1 st σ v τ) : xAt l w M pc L (.long x :: st) σ v τ := fun p e R s m args below meth c H locs ls A hP hS hl => by subst he; exact lv_lstore_n A.1 A.2.1 hd hi hl hn hL fun ls1 hl1 => h p e R s m args below meth c H locs ls1 A hP hS hl1
theorem x_lstore {i : Nat} {x : Int64} (t : Int64) (he : t = x) (hd : decode M.2.1 pc = .ok (.lstore i, 2)) (hn : i + 1 < M.2.2.1) (L1 : List (Nat × Value)) (hL : (i, Value.long t) :: L.filter (fun q => !(q.1 == i) && (!(q.1 == i + 1) && !(q.1 + 1 == i && q.2.category == 2))) = L1) (h : xAt l w M (pc + 2) L1 st σ v τ) : xAt l w M pc L (.long x :: st) σ v τ := fun p e R s m args below meth c H locs ls A hP hS hl => by subst he; exact lv_lstore A.1 A.2.1 hd hl hn hL fun ls1 hl1 => h p e R s m args below meth c H locs ls1 A hP hS hl1
theorem x_astore_nN {k : Fin 4} {i : Nat} (hd : decode M.2.1 pc = .ok (.astore_n k, 1)) (hi : (k : Nat) = i) (hn : i < M.2.2.1) (L1 : List (Nat × Value)) (hL : (i, Value.null) :: L.filter (fun q => !(q.1 == i) && !(q.1 + 1 == i && q.2.category == 2)) = L1) (h : xAt l w M (pc + 1) L1 st σ v τ) : xAt l w M pc L (.null :: st) σ v τ := fun p e R s m args below meth c H locs ls A hP hS hl => lv_astore_nN A.1 A.2.1 hd hi hl hn hL fun ls1 hl1 => h p e R s m args below meth c H locs ls1 A hP hS hl1
theorem x_astoreN {i : Nat} (hd : decode M.2.1 pc = .ok (.astore i, 2)) (hn : i < M.2.2.1) (L1 : List (Nat × Value)) (hL : (i, Value.null) :: L.filter (fun q => !(q.1 == i) && !(q.1 + 1 == i && q.2.category == 2)) = L1) (h : xAt l w M (pc + 2) L1 st σ v τ) : xAt l w M pc L (.null :: st) σ v τ := fun p e R s m args below meth c H locs ls A hP hS hl => lv_astoreN A.1 A.2.1 hd hl hn hL fun ls1 hl1 => h p e R s m args below meth c H locs ls1 A hP hS hl1
theorem x_iinc {i : Nat} {n : Int} {x : Int32} (t : Int32) (he : t = x + Int32.ofInt n) (hd : decode M.2.1 pc = .ok (.iinc i n, 3)) (j : Nat) (hj : L[j]? = some (i, .int x)) (hn : i < M.2.2.1) (L1 : List (Nat × Value)) (hL : (i, Value.int t) :: L.filter (fun q => !(q.1 == i) && !(q.1 + 1 == i && q.2.category == 2)) = L1) (h : xAt l w M (pc + 3) L1 st σ v τ) : xAt l w M pc L st σ v τ := fun p e R s m args below meth c H locs ls A hP hS hl => lv_iinc A.1 A.2.1 hd hl hj he.symm hn hL fun ls1 hl1 => h p e R s m args below meth c H locs ls1 A hP hS hl1
theorem x_iconst {n : Int} {x : Int32} (hd : decode M.2.1 pc = .ok (.iconst n, 1)) (hx : Int32.ofInt n = x) (h : xAt l w M (pc + 1) L (.int x :: st) σ v τ) : xAt l w M pc L st σ v τ := fun p e R s m args below meth c H locs ls A hP hS hl => lv_iconst A.1 A.2.1 hd hx (h p e R s m args below meth c H locs ls A hP hS hl)
theorem x_bipush {n : Int} {x : Int32} (hd : decode M.2.1 pc = .ok (.bipush n, 2)) (hx : (Int8.ofInt n).toInt32 = x) (h : xAt l w M (pc + 2) L (.int x :: st) σ v τ) : xAt l w M pc L st σ v τ := fun p e R s m args below meth c H locs ls A hP hS hl => lv_bipush A.1 A.2.1 hd hx (h p e R s m args below meth c H locs ls A hP hS hl)
theorem x_sipush {n : Int} {x : Int32} (hd : decode M.2.1 pc = .ok (.sipush n, 3)) (hx : (Int16.ofInt n).toInt32 = x) (h : xAt l w M (pc + 3) L (.int x :: st) σ v τ) : xAt l w M pc L st σ v τ := fun p e R s m args below meth c H locs ls A hP hS hl => lv_sipush A.1 A.2.1 hd hx (h p e R s m args below meth c H locs ls A hP hS hl)
theorem x_ldcw {ix : Nat} {x : Int32} (hd : decode M.2.1 pc = .ok (.ldc_w ix, 3)) (hc : Cond.constant M.1 ix x ∈ xT) (h : xAt l w M (pc + 3) L (.int x :: st) σ v τ) : xAt l w M pc L st σ v τ := fun p e R s m args below meth c H locs ls A hP hS hl => lv_ldcw A.1 A.2.1 A.2.2.2.2.2.1 (A.2.2.2.2.1 _ hc) hd (h p e R s m args below meth c H locs ls A hP hS hl)
theorem x_ldc2 {ix : Nat} {x : Int64} (hd : decode M.2.1 pc = .ok (.ldc2_w ix, 3)) (hc : Cond.constantLong M.1 ix x ∈ xT) (h : xAt l w M (pc + 3) L (.long x :: st) σ v τ) : xAt l w M pc L st σ v τ := fun p e R s m args below meth c H locs ls A hP hS hl => lv_ldc2 A.1 A.2.1 A.2.2.2.2.2.1 (A.2.2.2.2.1 _ hc) hd (h p e R s m args below meth c H locs ls A hP hS hl)
theorem x_null (hd : decode M.2.1 pc = .ok (.aconst_null, 1)) (h : xAt l w M (pc + 1) L (.null :: st) σ v τ) : xAt l w M pc L st σ v τ := fun p e R s m args below meth c H locs ls A hP hS hl => lv_null A.1 A.2.1 hd (h p e R s m args below meth c H locs ls A hP hS hl)
theorem x_iadd {x y : Int32} (hd : decode M.2.1 pc = .ok (.iadd, 1)) (h : xAt l w M (pc + 1) L (.int (x + y) :: st) σ v τ) : xAt l w M pc L (.int y :: .int x :: st) σ v τ := fun p e R s m args below meth c H locs ls A hP hS hl => lv_iadd A.1 A.2.1 hd (h p e R s m args below meth c H locs ls A hP hS hl)
theorem x_isub {x y : Int32} (hd : decode M.2.1 pc = .ok (.isub, 1)) (h : xAt l w M (pc + 1) L (.int (x - y) :: st) σ v τ) : xAt l w M pc L (.int y :: .int x :: st) σ v τ := fun p e R s m args below meth c H locs ls A hP hS hl => lv_isub A.1 A.2.1 hd (h p e R s m args below meth c H locs ls A hP hS hl)
theorem x_imul {x y : Int32} (hd : decode M.2.1 pc = .ok (.imul, 1)) (h : xAt l w M (pc + 1) L (.int (x * y) :: st) σ v τ) : xAt l w M pc L (.int y :: .int x :: st) σ v τ := fun p e R s m args below meth c H locs ls A hP hS hl => lv_imul A.1 A.2.1 hd (h p e R s m args below meth c H locs ls A hP hS hl)
theorem x_iand {x y : Int32} (hd : decode M.2.1 pc = .ok (.iand, 1)) (h : xAt l w M (pc + 1) L (.int (x &&& y) :: st) σ v τ) : xAt l w M pc L (.int y :: .int x :: st) σ v τ := fun p e R s m args below meth c H locs ls A hP hS hl => lv_iand A.1 A.2.1 hd (h p e R s m args below meth c H locs ls A hP hS hl)
theorem x_ishl {x y : Int32} (hd : decode M.2.1 pc = .ok (.ishl, 1)) (h : xAt l w M (pc + 1) L (.int (x <<< (y &&& 31)) :: st) σ v τ) : xAt l w M pc L (.int y :: .int x :: st) σ v τ := fun p e R s m args below meth c H locs ls A hP hS hl => lv_ishl A.1 A.2.1 hd (h p e R s m args below meth c H locs ls A hP hS hl)
theorem x_ishr {x y : Int32} (hd : decode M.2.1 pc = .ok (.ishr, 1)) (h : xAt l w M (pc + 1) L (.int (x >>> (y &&& 31)) :: st) σ v τ) : xAt l w M pc L (.int y :: .int x :: st) σ v τ := fun p e R s m args below meth c H locs ls A hP hS hl => lv_ishr A.1 A.2.1 hd (h p e R s m args below meth c H locs ls A hP hS hl)
theorem x_idiv {x y : Int32} (hd : decode M.2.1 pc = .ok (.idiv, 1)) (hy : ¬ y = 0) (h : xAt l w M (pc + 1) L (.int (x / y) :: st) σ v τ) : xAt l w M pc L (.int y :: .int x :: st) σ v τ := fun p e R s m args below meth c H locs ls A hP hS hl => lv_idiv A.1 A.2.1 hd hy (h p e R s m args below meth c H locs ls A hP hS hl)
theorem x_irem {x y : Int32} (hd : decode M.2.1 pc = .ok (.irem, 1)) (hy : ¬ y = 0) (h : xAt l w M (pc + 1) L (.int (x - x / y * y) :: st) σ v τ) : xAt l w M pc L (.int y :: .int x :: st) σ v τ := fun p e R s m args below meth c H locs ls A hP hS hl => lv_irem A.1 A.2.1 hd hy (h p e R s m args below meth c H locs ls A hP hS hl)
theorem x_ladd {x y : Int64} (hd : decode M.2.1 pc = .ok (.ladd, 1)) (h : xAt l w M (pc + 1) L (.long (x + y) :: st) σ v τ) : xAt l w M pc L (.long y :: .long x :: st) σ v τ := fun p e R s m args below meth c H locs ls A hP hS hl => lv_ladd A.1 A.2.1 hd (h p e R s m args below meth c H locs ls A hP hS hl)
theorem x_lmul {x y : Int64} (hd : decode M.2.1 pc = .ok (.lmul, 1)) (h : xAt l w M (pc + 1) L (.long (x * y) :: st) σ v τ) : xAt l w M pc L (.long y :: .long x :: st) σ v τ := fun p e R s m args below meth c H locs ls A hP hS hl => lv_lmul A.1 A.2.1 hd (h p e R s m args below meth c H locs ls A hP hS hl)
theorem x_ldiv {x y : Int64} (hd : decode M.2.1 pc = .ok (.ldiv, 1)) (hy : ¬ y = 0) (h : xAt l w M (pc + 1) L (.long (x / y) :: st) σ v τ) : xAt l w M pc L (.long y :: .long x :: st) σ v τ := fun p e R s m args below meth c H locs ls A hP hS hl => lv_ldiv A.1 A.2.1 hd hy (h p e R s m args below meth c H locs ls A hP hS hl)
theorem x_lrem {x y : Int64} (hd : decode M.2.1 pc = .ok (.lrem, 1)) (hy : ¬ y = 0) (h : xAt l w M (pc + 1) L (.long (x - x / y * y) :: st) σ v τ) : xAt l w M pc L (.long y :: .long x :: st) σ v τ := fun p e R s m args below meth c H locs ls A hP hS hl => lv_lrem A.1 A.2.1 hd hy (h p e R s m args below meth c H locs ls A hP hS hl)
theorem x_ineg {x : Int32} (hd : decode M.2.1 pc = .ok (.ineg, 1)) (h : xAt l w M (pc + 1) L (.int (-x) :: st) σ v τ) : xAt l w M pc L (.int x :: st) σ v τ := fun p e R s m args below meth c H locs ls A hP hS hl => lv_ineg A.1 A.2.1 hd (h p e R s m args below meth c H locs ls A hP hS hl)
theorem x_i2l {x : Int32} (hd : decode M.2.1 pc = .ok (.i2l, 1)) (h : xAt l w M (pc + 1) L (.long x.toInt64 :: st) σ v τ) : xAt l w M pc L (.int x :: st) σ v τ := fun p e R s m args below meth c H locs ls A hP hS hl => lv_i2l A.1 A.2.1 hd rfl (h p e R s m args below meth c H locs ls A hP hS hl)
theorem x_l2i {x : Int64} (hd : decode M.2.1 pc = .ok (.l2i, 1)) (h : xAt l w M (pc + 1) L (.int x.toInt32 :: st) σ v τ) : xAt l w M pc L (.long x :: st) σ v τ := fun p e R s m args below meth c H locs ls A hP hS hl => lv_l2i A.1 A.2.1 hd rfl (h p e R s m args below meth c H locs ls A hP hS hl)
theorem x_dup {a : Value} (hd : decode M.2.1 pc = .ok (.dup, 1)) (ha : a.category = 1) (h : xAt l w M (pc + 1) L (a :: a :: st) σ v τ) : xAt l w M pc L (a :: st) σ v τ := fun p e R s m args below meth c H locs ls A hP hS hl => lv_dup A.1 A.2.1 hd ha (h p e R s m args below meth c H locs ls A hP hS hl)
theorem x_dup2 {a b : Value} (hd : decode M.2.1 pc = .ok (.dup2, 1)) (ha : a.category = 1) (hb : b.category = 1) (h : xAt l w M (pc + 1) L (a :: b :: a :: b :: st) σ v τ) : xAt l w M pc L (a :: b :: st) σ v τ := fun p e R s m args below meth c H locs ls A hP hS hl => lv_dup2_11 A.1 A.2.1 hd ha hb (h p e R s m args below meth c H locs ls A hP hS hl)
theorem x_pop {a : Value} (hd : decode M.2.1 pc = .ok (.pop, 1)) (ha : a.category = 1) (h : xAt l w M (pc + 1) L st σ v τ) : xAt l w M pc L (a :: st) σ v τ := fun p e R s m args below meth c H locs ls A hP hS hl => lv_pop A.1 A.2.1 hd ha (h p e R s m args below meth c H locs ls A hP hS hl)
theorem x_goto {off : Int} {tgt : Nat} (hd : decode M.2.1 pc = .ok (.goto off, 3)) (ht : (pc : Int) + off = (tgt : Int)) (h : xAt l w M tgt L st σ v τ) : xAt l w M pc L st σ v τ := fun p e R s m args below meth c H locs ls A hP hS hl => lv_goto A.1 A.2.1 hd ht (h p e R s m args below meth c H locs ls A hP hS hl)
theorem x_ifnullR {x : Nat} {off : Int} (hd : decode M.2.1 pc = .ok (.ifnull off, 3)) (h : xAt l w M (pc + 3) L st σ v τ) : xAt l w M pc L (.ref x :: st) σ v τ := fun p e R s m args below meth c H locs ls A hP hS hl => lv_ifnull A.1 A.2.1 hd (h p e R s m args below meth c H locs ls A hP hS hl)
theorem x_ifnonnullR {x : Nat} {off : Int} {tgt : Nat} (hd : decode M.2.1 pc = .ok (.ifnonnull off, 3)) (ht : (pc : Int) + off = (tgt : Int)) (h : xAt l w M tgt L st σ v τ) : xAt l w M pc L (.ref x :: st) σ v τ := fun p e R s m args below meth c H locs ls A hP hS hl => lv_ifnonnull A.1 A.2.1 hd ht (h p e R s m args below meth c H locs ls A hP hS hl)
theorem x_ifnullN {off : Int} {tgt : Nat} (hd : decode M.2.1 pc = .ok (.ifnull off, 3)) (ht : (pc : Int) + off = (tgt : Int)) (h : xAt l w M tgt L st σ v τ) : xAt l w M pc L (.null :: st) σ v τ := fun p e R s m args below meth c H locs ls A hP hS hl => lv_ifnullN A.1 A.2.1 hd ht (h p e R s m args below meth c H locs ls A hP hS hl)
theorem x_ifnonnullN {off : Int} (hd : decode M.2.1 pc = .ok (.ifnonnull off, 3)) (h : xAt l w M (pc + 3) L st σ v τ) : xAt l w M pc L (.null :: st) σ v τ := fun p e R s m args below meth c H locs ls A hP hS hl => lv_ifnonnullN A.1 A.2.1 hd (h p e R s m args below meth c H locs ls A hP hS hl)
theorem x_if_eq {x : Int32} {off : Int} {tgt : Nat} (hd : decode M.2.1 pc = .ok (.ifCond .eq off, 3)) (ht : (pc : Int) + off = (tgt : Int)) (kt : x = 0 → xAt l w M tgt L st σ v τ) (kf : ¬ x = 0 → xAt l w M (pc + 3) L st σ v τ) : xAt l w M pc L (.int x :: st) σ v τ := fun p e R s m args below meth c H locs ls A hP hS hl => lv_if_eq A.1 A.2.1 hd ht (fun q => kt q p e R s m args below meth c H locs ls A hP hS hl) (fun q => kf q p e R s m args below meth c H locs ls A hP hS hl)
theorem x_if_ne {x : Int32} {off : Int} {tgt : Nat} (hd : decode M.2.1 pc = .ok (.ifCond .ne off, 3)) (ht : (pc : Int) + off = (tgt : Int)) (kt : ¬ x = 0 → xAt l w M tgt L st σ v τ) (kf : x = 0 → xAt l w M (pc + 3) L st σ v τ) : xAt l w M pc L (.int x :: st) σ v τ := fun p e R s m args below meth c H locs ls A hP hS hl => lv_if_ne A.1 A.2.1 hd ht (fun q => kt q p e R s m args below meth c H locs ls A hP hS hl) (fun q => kf q p e R s m args below meth c H locs ls A hP hS hl)
theorem x_if_lt {x : Int32} {off : Int} {tgt : Nat} (hd : decode M.2.1 pc = .ok (.ifCond .lt off, 3)) (ht : (pc : Int) + off = (tgt : Int)) (kt : x < 0 → xAt l w M tgt L st σ v τ) (kf : ¬ x < 0 → xAt l w M (pc + 3) L st σ v τ) : xAt l w M pc L (.int x :: st) σ v τ := fun p e R s m args below meth c H locs ls A hP hS hl => lv_if_lt A.1 A.2.1 hd ht (fun q => kt q p e R s m args below meth c H locs ls A hP hS hl) (fun q => kf q p e R s m args below meth c H locs ls A hP hS hl)
theorem x_if_ge {x : Int32} {off : Int} {tgt : Nat} (hd : decode M.2.1 pc = .ok (.ifCond .ge off, 3)) (ht : (pc : Int) + off = (tgt : Int)) (kt : 0 ≤ x → xAt l w M tgt L st σ v τ) (kf : ¬ 0 ≤ x → xAt l w M (pc + 3) L st σ v τ) : xAt l w M pc L (.int x :: st) σ v τ := fun p e R s m args below meth c H locs ls A hP hS hl => lv_if_ge A.1 A.2.1 hd ht (fun q => kt q p e R s m args below meth c H locs ls A hP hS hl) (fun q => kf q p e R s m args below meth c H locs ls A hP hS hl)
theorem x_if_gt {x : Int32} {off : Int} {tgt : Nat} (hd : decode M.2.1 pc = .ok (.ifCond .gt off, 3)) (ht : (pc : Int) + off = (tgt : Int)) (kt : 0 < x → xAt l w M tgt L st σ v τ) (kf : ¬ 0 < x → xAt l w M (pc + 3) L st σ v τ) : xAt l w M pc L (.int x :: st) σ v τ := fun p e R s m args below meth c H locs ls A hP hS hl => lv_if_gt A.1 A.2.1 hd ht (fun q => kt q p e R s m args below meth c H locs ls A hP hS hl) (fun q => kf q p e R s m args below meth c H locs ls A hP hS hl)
theorem x_if_le {x : Int32} {off : Int} {tgt : Nat} (hd : decode M.2.1 pc = .ok (.ifCond .le off, 3)) (ht : (pc : Int) + off = (tgt : Int)) (kt : x ≤ 0 → xAt l w M tgt L st σ v τ) (kf : ¬ x ≤ 0 → xAt l w M (pc + 3) L st σ v τ) : xAt l w M pc L (.int x :: st) σ v τ := fun p e R s m args below meth c H locs ls A hP hS hl => lv_if_le A.1 A.2.1 hd ht (fun q => kt q p e R s m args below meth c H locs ls A hP hS hl) (fun q => kf q p e R s m args below meth c H locs ls A hP hS hl)
theorem x_icmp_eq {x y : Int32} {off : Int} {tgt : Nat} (hd : decode M.2.1 pc = .ok (.if_icmp .eq off, 3)) (ht : (pc : Int) + off = (tgt : Int)) (kt : x = y → xAt l w M tgt L st σ v τ) (kf : ¬ x = y → xAt l w M (pc + 3) L st σ v τ) : xAt l w M pc L (.int y :: .int x :: st) σ v τ := fun p e R s m args below meth c H locs ls A hP hS hl => lv_icmp_eq A.1 A.2.1 hd ht (fun q => kt q p e R s m args below meth c H locs ls A hP hS hl) (fun q => kf q p e R s m args below meth c H locs ls A hP hS hl)
theorem x_icmp_ne {x y : Int32} {off : Int} {tgt : Nat} (hd : decode M.2.1 pc = .ok (.if_icmp .ne off, 3)) (ht : (pc : Int) + off = (tgt : Int)) (kt : ¬ x = y → xAt l w M tgt L st σ v τ) (kf : x = y → xAt l w M (pc + 3) L st σ v τ) : xAt l w M pc L (.int y :: .int x :: st) σ v τ := fun p e R s m args below meth c H locs ls A hP hS hl => lv_icmp_ne A.1 A.2.1 hd ht (fun q => kt q p e R s m args below meth c H locs ls A hP hS hl) (fun q => kf q p e R s m args below meth c H locs ls A hP hS hl)
theorem x_icmp_lt {x y : Int32} {off : Int} {tgt : Nat} (hd : decode M.2.1 pc = .ok (.if_icmp .lt off, 3)) (ht : (pc : Int) + off = (tgt : Int)) (kt : x < y → xAt l w M tgt L st σ v τ) (kf : ¬ x < y → xAt l w M (pc + 3) L st σ v τ) : xAt l w M pc L (.int y :: .int x :: st) σ v τ := fun p e R s m args below meth c H locs ls A hP hS hl => lv_icmp_lt A.1 A.2.1 hd ht (fun q => kt q p e R s m args below meth c H locs ls A hP hS hl) (fun q => kf q p e R s m args below meth c H locs ls A hP hS hl)
theorem x_icmp_ge {x y : Int32} {off : Int} {tgt : Nat} (hd : decode M.2.1 pc = .ok (.if_icmp .ge off, 3)) (ht : (pc : Int) + off = (tgt : Int)) (kt : y ≤ x → xAt l w M tgt L st σ v τ) (kf : ¬ y ≤ x → xAt l w M (pc + 3) L st σ v τ) : xAt l w M pc L (.int y :: .int x :: st) σ v τ := fun p e R s m args below meth c H locs ls A hP hS hl => lv_icmp_ge A.1 A.2.1 hd ht (fun q => kt q p e R s m args below meth c H locs ls A hP hS hl) (fun q => kf q p e R s m args below meth c H locs ls A hP hS hl)
theorem x_icmp_gt {x y : Int32} {off : Int} {tgt : Nat} (hd : decode M.2.1 pc = .ok (.if_icmp .gt off, 3)) (ht : (pc : Int) + off = (tgt : Int)) (kt : y < x → xAt l w M tgt L st σ v τ) (kf : ¬ y < x → xAt l w M (pc + 3) L st σ v τ) : xAt l w M pc L (.int y :: .int x :: st) σ v τ := fun p e R s m args below meth c H locs ls A hP hS hl => lv_icmp_gt A.1 A.2.1 hd ht (fun q => kt q p e R s m args below meth c H locs ls A hP hS hl) (fun q => kf q p e R s m args below meth c H locs ls A hP hS hl)
theorem x_icmp_le {x y : Int32} {off : Int} {tgt : Nat} (hd : decode M.2.1 pc = .ok (.if_icmp .le off, 3)) (ht : (pc : Int) + off = (tgt : Int)) (kt : x ≤ y → xAt l w M tgt L st σ v τ) (kf : ¬ x ≤ y → xAt l w M (pc + 3) L st σ v τ) : xAt l w M pc L (.int y :: .int x :: st) σ v τ := fun p e R s m args below meth c H locs ls A hP hS hl => lv_icmp_le A.1 A.2.1 hd ht (fun q => kt q p e R s m args below meth c H locs ls A hP hS hl) (fun q => kf q p e R s m args below meth c H locs ls A hP hS hl)
theorem x_sub {L1 : List (Nat × Value)} (ks : List Nat) (hk : lv_pick L ks = L1) (h : xAt l w M pc L1 st σ v τ) : xAt l w M pc L st σ v τ := fun p e R s m args below meth c H locs ls A hP hS hl => h p e R s m args below meth c H locs ls A hP hS (lv_sub hl ks hk)
theorem x_lookup {dflt : Int} {ps : Array (Int × Int)} {len : Nat} {x : Int32} {off : Int} {tgt : Nat} (hd : decode M.2.1 pc = .ok (.lookupswitch dflt ps, len)) (hp : (ps.toList.zip (ps.toList.drop 1)).all (fun (a, next) => a.1 < next.1) = true) (ho : Op.lookupswitch.offset ps.toList dflt x.toInt = off) (ht : (pc : Int) + off = (tgt : Int)) (h : xAt l w M tgt L st σ v τ) : xAt l w M pc L (.int x :: st) σ v τ := fun p e R s m args below meth c H locs ls A hP hS hl => lv_lookup A.1 A.2.1 hd hp ho ht (h p e R s m args below meth c H locs ls A hP hS hl)
theorem x_tableIn {dflt lo hi : Int} {offs : Array Int} {len : Nat} {x : Int32} {off : Int} {tgt : Nat} (hd : decode M.2.1 pc = .ok (.tableswitch dflt lo hi offs, len)) (h1 : ¬ x.toInt < lo) (h2 : ¬ hi < x.toInt) (ho : offs[(x.toInt - lo).toNat]? = some off) (ht : (pc : Int) + off = (tgt : Int)) (h : xAt l w M tgt L st σ v τ) : xAt l w M pc L (.int x :: st) σ v τ := fun p e R s m args below meth c H locs ls A hP hS hl => lv_tableIn A.1 A.2.1 hd h1 h2 ho ht (h p e R s m args below meth c H locs ls A hP hS hl)
theorem x_tableOut {dflt lo hi : Int} {offs : Array Int} {len : Nat} {x : Int32} {tgt : Nat} (hd : decode M.2.1 pc = .ok (.tableswitch dflt lo hi offs, len)) (h1 : x.toInt < lo ∨ hi < x.toInt) (ht : (pc : Int) + dflt = (tgt : Int)) (h : xAt l w M tgt L st σ v τ) : xAt l w M pc L (.int x :: st) σ v τ := fun p e R s m args below meth c H locs ls A hP hS hl => lv_tableOut A.1 A.2.1 hd h1 ht (h p e R s m args below meth c H locs ls A hP hS hl)
/-- a field by its link: kind K's field k -/
def xFl (own : String) (ix K k : Nat) : Prop := ∃ (o : Nat × Nat) (C : String) (T : u_T) (N : Nat), x_obj K = some o ∧ k < o.2 ∧ vwCl[o.1]? = some (C, T, N) ∧ k < N ∧ (∀ x ∈ u_ws C T N, x ∈ xT) ∧ Cond.fieldLink own ix (T k).1 (T k).2.1 (T k).2.2.1 ∈ xT
theorem x_get_ {ix d K p r k : Nat} {a : Value} (hf : xFl M.1 ix K k) (hok : x_ok d K p r = true) (ha : x_fv w σ d K p r k = a) (hd : decode M.2.1 pc = .ok (.getfield ix, 3)) (h : xAt l w M (pc + 3) L (a :: st) σ v τ) : xAt l w M pc L (.ref (w.2.2 d K p r) :: st) σ v τ := by
  intro p' e R s m args below meth c H locs ls A hP hS hl
  obtain ⟨q0, hq, he⟩ := x_pos w σ hok
  obtain ⟨o, C, T, N, ho, hk, hc, hkN, hin, hlk⟩ := hf
  have he' : (xC w σ)[q0]? = some (w.2.2 d K p r, .inr (o.1, (List.range o.2).map fun k => x_fv w σ d K p r k)) := by rw [he, x_cell, ho]
  refine va_get (D := w.1) (C := C) (T := T) (N := N) A.1 A.2.1 A.2.2.2.2.1 hin A.2.2.2.2.2.1 A.2.2.2.2.2.2.1 hP q0 he' hc k hkN (A.2.2.2.2.1 _ hlk) (fun _ q => q) (v := a) ?_ hd (h p' e R s m args below meth c H locs ls A hP hS hl)
  rw [List.getElem?_map, List.getElem?_range hk, ← ha]
  rfl
theorem x_getI {ix d K p r k : Nat} (hf : xFl M.1 ix K k) (hok : x_ok d K p r = true) (hr : x_ref d K p r k = none) (hd : decode M.2.1 pc = .ok (.getfield ix, 3)) (h : xAt l w M (pc + 3) L (.int (σ d K p r k) :: st) σ v τ) : xAt l w M pc L (.ref (w.2.2 d K p r) :: st) σ v τ :=
  x_get_ hf hok (by rw [x_fv, hr]) hd h
theorem x_getR {ix d K p r k d1 K1 p1 r1 : Nat} (hf : xFl M.1 ix K k) (hok : x_ok d K p r = true) (hr : x_ref d K p r k = some (d1, K1, p1, r1)) (hd : decode M.2.1 pc = .ok (.getfield ix, 3)) (h : xAt l w M (pc + 3) L (.ref (w.2.2 d1 K1 p1 r1) :: st) σ v τ) : xAt l w M pc L (.ref (w.2.2 d K p r) :: st) σ v τ :=
  x_get_ hf hok (by rw [x_fv, hr]; rfl) hd h
/-- a field that may be written: its type -/
def xFp (own : String) (ix K k : Nat) (ty : FieldType) : Prop := ∃ (o : Nat × Nat) (C : String) (T : u_T) (N : Nat) (ty0 : Nat → FieldType), x_obj K = some o ∧ k < o.2 ∧ vwCl[o.1]? = some (C, T, N) ∧ k < N ∧ (∀ x ∈ u_ws C T N, x ∈ xT) ∧ Cond.fieldLink own ix (T k).1 (T k).2.1 (T k).2.2.1 ∈ xT ∧ (∀ k, k < N → parseFieldDescriptor (T k).2.2.1 = some (ty0 k)) ∧ (∀ a, a < N → ∀ b, b < N → a ≠ b → (T a).2.1 ≠ (T b).2.1) ∧ (T k).2.2.2 = false ∧ parseFieldDescriptor (T k).2.2.1 = some ty
theorem x_fs_set (w : xW) (σ : xS) (d K p r k n : Nat) (x : Int32) (hr : x_ref d K p r k = none) (_hk : k < n) : ((List.range n).map fun k => x_fv w σ d K p r k).set k (.int x) = (List.range n).map fun j => x_fv w (x_set σ d K p r k x) d K p r j := by
  apply List.ext_getElem?
  intro j
  by_cases hj : j = k
  · subst hj
    rw [List.getElem?_set_self (by simpa using _hk), List.getElem?_map, List.getElem?_range _hk]
    simp only [Option.map_some, x_fv, hr, x_set, x_row_same, up_s]
  · rw [List.getElem?_set_ne (Ne.symm hj), List.getElem?_map, List.getElem?_map]
    by_cases hn : j < n
    · rw [List.getElem?_range hn]
      simp only [Option.map_some, x_fv, x_set, x_row_same, up_n _ _ hj]
    · rw [List.getElem?_eq_none (by simpa using Nat.le_of_not_lt hn)]
      rfl
theorem x_put_ {ix d K p r k : Nat} {x : Int32} {ty : FieldType} (σ1 : xS) (he : σ1 = x_set σ d K p r k x) (hf : xFp M.1 ix K k ty) (hok : x_ok d K p r = true) (hr : x_ref d K p r k = none) (hn : narrow ty (.int x) = .int x) (hfit : fits ty (.int x) = true) (hd : decode M.2.1 pc = .ok (.putfield ix, 3)) (h : xAt l w M (pc + 3) L st σ1 v τ) : xAt l w M pc L (.int x :: .ref (w.2.2 d K p r) :: st) σ v τ := by
  intro p' e R s m args below meth c H locs ls A hP hS hl
  obtain ⟨q0, hq, hc0⟩ := x_pos w σ hok
  obtain ⟨o, C, T, N, ty0, ho, hk, hc, hkN, hin, hlk, hty, hnm, hfin, hpt⟩ := hf
  have he' : (xC w σ)[q0]? = some (w.2.2 d K p r, .inr (o.1, (List.range o.2).map fun k => x_fv w σ d K p r k)) := by rw [hc0, x_cell, ho]
  refine va_put (D := w.1) (C := C) (T := T) (N := N) A.1 A.2.1 A.2.2.2.2.1 hin ty0 hty hnm A.2.2.2.2.2.1 A.2.2.2.2.2.2.1 hP (x_D A.2.2.2.2.2.2.2.2.1 σ s.heap.size) hS q0 he' hc k hkN (A.2.2.2.2.1 _ hlk) (fun _ q => q) hfin hpt hn hfit (by simpa using hk) hd (fun H1 locs1 hP1 _ hS1 => ?_)
  refine h p' e R s m args below meth c H1 locs1 ls A ?_ hS1 hl
  have ec : x_cell w σ1 d K p r = .inr (o.1, (List.range o.2).map fun j => x_fv w (x_set σ d K p r k x) d K p r j) := by rw [he, x_cell, ho]
  rw [x_fs_set w σ d K p r k o.2 x hr hk, ← ec, he] at hP1
  rw [x_set, xC_set w σ _ hq] at hP1
  rw [he, x_set]
  exact hP1
theorem x_putI {ix d K p r k : Nat} {x : Int32} (σ1 : xS) (he : σ1 = x_set σ d K p r k x) (hf : xFp M.1 ix K k .int) (hok : x_ok d K p r = true) (hr : x_ref d K p r k = none) (hd : decode M.2.1 pc = .ok (.putfield ix, 3)) (h : xAt l w M (pc + 3) L st σ1 v τ) : xAt l w M pc L (.int x :: .ref (w.2.2 d K p r) :: st) σ v τ :=
  x_put_ σ1 he hf hok hr rfl rfl hd h
/-- 0 or 1 -/
def x_z (x : Int32) : Bool := decide (x = 0 ∨ x = 1)
theorem x_z_or {x : Int32} (h : x_z x = true) : x = 0 ∨ x = 1 := of_decide_eq_true h
theorem x_z_n {x : Int32} (h : x_z x = true) : narrow .boolean (.int x) = .int x := by rcases x_z_or h with rfl | rfl <;> rfl
theorem x_z_f {x : Int32} (h : x_z x = true) : fits .boolean (.int x) = true := by rcases x_z_or h with rfl | rfl <;> rfl
theorem x_putZ {ix d K p r k : Nat} {x : Int32} (σ1 : xS) (he : σ1 = x_set σ d K p r k x) (hz : x_z x = true) (hf : xFp M.1 ix K k .boolean) (hok : x_ok d K p r = true) (hr : x_ref d K p r k = none) (hd : decode M.2.1 pc = .ok (.putfield ix, 3)) (h : xAt l w M (pc + 3) L st σ1 v τ) : xAt l w M pc L (.int x :: .ref (w.2.2 d K p r) :: st) σ v τ :=
  x_put_ σ1 he hf hok hr (x_z_n hz) (x_z_f hz) hd h
/-- an index in its array -/
def x_in (i : Int32) (n : Nat) : Bool := decide (¬ (i < 0 ∨ n ≤ i.toNatClampNeg))
theorem x_in_p {i : Int32} {n : Nat} (h : x_in i n = true) : vp_in i n := by
  unfold x_in at h
  have h2 : ¬ (i < 0 ∨ n ≤ i.toNatClampNeg) := of_decide_eq_true h
  exact h2
theorem x_in_lt {i : Int32} {n : Nat} (h : x_in i n = true) : i.toNatClampNeg < n := Nat.not_le.mp fun q => x_in_p h (Or.inr q)
theorem x_arr {d K p r : Nat} (σ : xS) (hK : x_obj K = none) (ht : x_ty K < 2) (hok : x_ok d K p r = true) : ∃ q0 : Nat, x_ids[q0]? = some (d, K, p, r) ∧ (xC w σ)[q0]? = some (w.2.2 d K p r, .inl (w.2.1 (x_ty K), (x_len K, .inl (σ d K p r)))) := by
  obtain ⟨q0, hq, he⟩ := x_pos w σ hok
  refine ⟨q0, hq, ?_⟩
  rw [he, x_cell, hK]
  simp only [if_pos ht]
theorem x_iald {d K p r : Nat} {i : Int32} (n j : Nat) (hj : i.toNatClampNeg = j) (hK : x_obj K = none) (ht : x_ty K = 0) (hn : x_len K = n) (hok : x_ok d K p r = true) (hi : x_in i n = true) (hd : decode M.2.1 pc = .ok (.iaload, 1)) (h : xAt l w M (pc + 1) L (.int (σ d K p r j) :: st) σ v τ) : xAt l w M pc L (.int i :: .ref (w.2.2 d K p r) :: st) σ v τ := by
  subst hj
  intro p' e R s m args below meth c H locs ls A hP hS hl
  obtain ⟨q0, hq, he⟩ := x_arr (w := w) σ hK (by rw [ht]; decide) hok
  rw [ht, hn] at he
  exact va_iald A.1 A.2.1 A.2.2.2.2.2.2.1 hP q0 0 he rfl (x_in_p hi) hd (h p' e R s m args below meth c H locs ls A hP hS hl)
theorem x_zald {d K p r : Nat} {i : Int32} (n j : Nat) (hj : i.toNatClampNeg = j) (hK : x_obj K = none) (ht : x_ty K = 1) (hn : x_len K = n) (hok : x_ok d K p r = true) (hi : x_in i n = true) (hd : decode M.2.1 pc = .ok (.baload, 1)) (h : xAt l w M (pc + 1) L (.int (σ d K p r j) :: st) σ v τ) : xAt l w M pc L (.int i :: .ref (w.2.2 d K p r) :: st) σ v τ := by
  subst hj
  intro p' e R s m args below meth c H locs ls A hP hS hl
  obtain ⟨q0, hq, he⟩ := x_arr (w := w) σ hK (by rw [ht]; decide) hok
  rw [ht, hn] at he
  exact va_zald A.1 A.2.1 A.2.2.2.2.2.2.1 hP q0 1 he rfl (x_in_p hi) hd (h p' e R s m args below meth c H locs ls A hP hS hl)
theorem x_alen {d K p r : Nat} (x : Int32) (hK : x_obj K = none) (ht : x_ty K < 5) (hn : Int32.ofNat (x_len K) = x) (hok : x_ok d K p r = true) (hd : decode M.2.1 pc = .ok (.arraylength, 1)) (h : xAt l w M (pc + 1) L (.int x :: st) σ v τ) : xAt l w M pc L (.ref (w.2.2 d K p r) :: st) σ v τ := by
  intro p' e R s m args below meth c H locs ls A hP hS hl
  obtain ⟨q0, hq, he⟩ := x_pos w σ hok
  rw [x_cell, hK] at he
  have ht0 : ∃ ty, (xTys w)[x_ty K]? = some (w.2.1 (x_ty K), ty) := by
    have : x_ty K = 0 ∨ x_ty K = 1 ∨ x_ty K = 2 ∨ x_ty K = 3 ∨ x_ty K = 4 := by omega
    rcases this with h | h | h | h | h <;> rw [h] <;> exact ⟨_, rfl⟩
  obtain ⟨ty, ht1⟩ := ht0
  exact va_alen A.1 A.2.1 A.2.2.2.2.2.2.1 hP q0 (x_ty K) he ht1 hn hd (h p' e R s m args below meth c H locs ls A hP hS hl)
theorem x_aald {d K p r d1 K1 p1 r1 : Nat} {i : Int32} (n j : Nat) (hj : i.toNatClampNeg = j) (t : Nat) (C : String) (hK : x_obj K = none) (ht : x_ty K = t) (ht2 : 2 ≤ t) (htC : (xTys w)[t]? = some (w.2.1 t, .object C)) (hn : x_len K = n) (hok : x_ok d K p r = true) (hr : x_ref d K p r j = some (d1, K1, p1, r1)) (hi : x_in i n = true) (hd : decode M.2.1 pc = .ok (.aaload, 1)) (h : xAt l w M (pc + 1) L (.ref (w.2.2 d1 K1 p1 r1) :: st) σ v τ) : xAt l w M pc L (.int i :: .ref (w.2.2 d K p r) :: st) σ v τ := by
  subst hj
  intro p' e R s m args below meth c H locs ls A hP hS hl
  obtain ⟨q0, hq, he⟩ := x_pos w σ hok
  rw [x_cell, hK] at he
  simp only [ht] at he
  rw [if_neg (by omega), hn] at he
  refine va_aldq A.1 A.2.1 A.2.2.2.2.2.2.1 hP q0 t he htC (x_in_p hi) hd ?_
  rw [hr]
  exact h p' e R s m args below meth c H locs ls A hP hS hl
theorem x_rowset {d K p r : Nat} {q0 : Nat} (σ : xS) (f : Nat → Int32) (hK : x_obj K = none) (ht : x_ty K < 2) (hq : x_ids[q0]? = some (d, K, p, r)) : (xC w σ).set q0 (w.2.2 d K p r, .inl (w.2.1 (x_ty K), (x_len K, .inl f))) = xC w (x_row σ d K p r f) := by
  rw [← xC_set w σ f hq]
  congr 2
  rw [x_cell, hK]
  simp only [if_pos ht, x_row_same]
theorem x_iast {d K p r : Nat} {i x : Int32} (n j : Nat) (hj : i.toNatClampNeg = j) (σ1 : xS) (he1 : σ1 = x_set σ d K p r j x) (hK : x_obj K = none) (ht : x_ty K = 0) (hn : x_len K = n) (hok : x_ok d K p r = true) (hi : x_in i n = true) (hd : decode M.2.1 pc = .ok (.iastore, 1)) (h : xAt l w M (pc + 1) L st σ1 v τ) : xAt l w M pc L (.int x :: .int i :: .ref (w.2.2 d K p r) :: st) σ v τ := by
  subst hj
  intro p' e R s m args below meth c H locs ls A hP hS hl
  obtain ⟨q0, hq, he⟩ := x_arr (w := w) σ hK (by rw [ht]; decide) hok
  have hs := x_rowset (w := w) σ (upd (σ d K p r) i.toNatClampNeg x) hK (by rw [ht]; decide) hq
  rw [ht, hn] at he hs
  refine va_iast A.1 A.2.1 A.2.2.2.2.2.2.1 hP (x_D A.2.2.2.2.2.2.2.2.1 σ s.heap.size) hS q0 0 he rfl (x_in_p hi) hd (fun H1 locs1 hP1 _ hS1 => ?_)
  rw [hs] at hP1
  refine h p' e R s m args below meth c H1 locs1 ls A ?_ hS1 hl
  rw [he1]
  exact hP1
theorem x_zast {d K p r : Nat} {i x : Int32} (n j : Nat) (hj : i.toNatClampNeg = j) (σ1 : xS) (he1 : σ1 = x_set σ d K p r j x) (hz : x_z x = true) (hK : x_obj K = none) (ht : x_ty K = 1) (hn : x_len K = n) (hok : x_ok d K p r = true) (hi : x_in i n = true) (hd : decode M.2.1 pc = .ok (.bastore, 1)) (h : xAt l w M (pc + 1) L st σ1 v τ) : xAt l w M pc L (.int x :: .int i :: .ref (w.2.2 d K p r) :: st) σ v τ := by
  subst hj
  intro p' e R s m args below meth c H locs ls A hP hS hl
  obtain ⟨q0, hq, he⟩ := x_arr (w := w) σ hK (by rw [ht]; decide) hok
  have hs := x_rowset (w := w) σ (upd (σ d K p r) i.toNatClampNeg (vp_nar .boolean x)) hK (by rw [ht]; decide) hq
  rw [ht, hn] at he hs
  refine va_zast A.1 A.2.1 A.2.2.2.2.2.2.1 hP (x_D A.2.2.2.2.2.2.2.2.1 σ s.heap.size) hS q0 1 he rfl (x_in_p hi) hd (fun H1 locs1 hP1 _ hS1 => ?_)
  rw [hs] at hP1
  refine h p' e R s m args below meth c H1 locs1 ls A ?_ hS1 hl
  have hz1 : vp_nar .boolean x = x := by rcases x_z_or hz with rfl | rfl <;> rfl
  rw [hz1] at hP1
  rw [he1]
  exact hP1
/-- System.arraycopy over int arrays of kinds K and K1, whole from 0 -/
theorem x_copy {d K p r d1 K1 p1 r1 ix : Nat} {n : Int32} (n0 n1 j : Nat) (hj : n.toNatClampNeg = j) (σ1 : xS) (he1 : σ1 = x_row σ d1 K1 p1 r1 (va_cpy (σ d K p r) (σ d1 K1 p1 r1) 0 0 j)) (hlk : Cond.methodLink M.1 ix arraycopyName ∈ xT) (hw : Cond.native arraycopyName ∈ xT ∧ Cond.static arraycopyName ∈ xT ∧ Cond.initialized "java/lang/System" ∈ xT) (hlv : 1 ≤ M.2.2.2.2) (hst : st = []) (hK : x_obj K = none) (ht : x_ty K = 0) (hn0 : x_len K = n0) (hok : x_ok d K p r = true) (hK1 : x_obj K1 = none) (ht1 : x_ty K1 = 0) (hn1 : x_len K1 = n1) (hok1 : x_ok d1 K1 p1 r1 = true) (h3 : ¬ n < 0) (h4 : n.toNatClampNeg ≤ n0) (h5 : n.toNatClampNeg ≤ n1) (hd : decode M.2.1 pc = .ok (.invokestatic ix, 3)) (h : xAt l w M (pc + 3) L st σ1 v τ) : xAt l w M pc L (.int n :: .int 0 :: .ref (w.2.2 d1 K1 p1 r1) :: .int 0 :: .ref (w.2.2 d K p r) :: st) σ v τ := by
  subst hst
  subst hj
  intro p' e R s m args below meth c H locs ls A hP hS hl
  obtain ⟨q0, hq, he⟩ := x_arr (w := w) σ hK (by rw [ht]; decide) hok
  obtain ⟨q1, hq1, he1'⟩ := x_arr (w := w) σ hK1 (by rw [ht1]; decide) hok1
  have hs := x_rowset (w := w) σ (va_cpy (σ d K p r) (σ d1 K1 p1 r1) 0 0 n.toNatClampNeg) hK1 (by rw [ht1]; decide) hq1
  rw [ht, hn0] at he
  rw [ht1, hn1] at he1' hs
  have hz : (0 : Int32).toNatClampNeg = 0 := rfl
  have hts := A.2.2.2.2.1
  have hR := A.2.2.2.2.2.2.2.2.2
  refine va_copyi (sp := 0) (dp := 0) A.1 A.2.1 (A.2.2.2.1.trans hl.1.symm) A.2.2.2.2.2.1 (hts _ hlk) (hts _ hw.1) (hts _ hw.2.1) (hts _ hw.2.2) A.2.2.2.2.2.2.1 hP (x_D A.2.2.2.2.2.2.2.2.1 σ s.heap.size) hS q0 q1 0 0 he he1' rfl rfl rfl (by decide) (by decide) h3 (by rw [hz]; omega) (by rw [hz]; omega) (fun _ _ => rfl) (Nat.le_trans hlv hR.1) ?_ hd (fun H1 locs1 hP1 _ hS1 => ?_)
  · have e1 : nativeFrameWords "java/lang/System" "arraycopy" 5 + 11 ≤ 40 := by decide
    have := hR.2
    simp only [List.map_nil, List.sum_nil]
    omega
  · rw [hz, hs] at hP1
    refine h p' e R s m args below meth c H1 locs1 ls A ?_ hS1 hl
    rw [he1]
    exact hP1
def i_max (x y : Int32) : Int32 := if x < y then y else x
def i_min (x y : Int32) : Int32 := if y < x then y else x
theorem x_max {ix : Nat} {x y : Int32} (hlk : Cond.methodLink M.1 ix Lib.Math.max.name ∈ xT) (hw : Cond.static Lib.Math.max.name ∈ xT ∧ Cond.initialized "java/lang/Math" ∈ xT ∧ Cond.code Lib.Math.max.name Lib.Math.max.code 2 (some .int) ∈ xT) (hlv : 1 ≤ M.2.2.2.2) (hst : (st.map fun v => v.category).sum ≤ 8) (hd : decode M.2.1 pc = .ok (.invokestatic ix, 3)) (h : xAt l w M (pc + 3) L (.int (i_max x y) :: st) σ v τ) : xAt l w M pc L (.int y :: .int x :: st) σ v τ := by
  intro p' e R s m args below meth c H locs ls A hP hS hl
  have hts := A.2.2.2.2.1
  have hR := A.2.2.2.2.2.2.2.2.2
  exact va_mmax A.1 A.2.1 (A.2.2.2.1.trans hl.1.symm) A.2.2.2.2.2.1 (hts _ hlk) (hts _ hw.1) (hts _ hw.2.1) (hts _ hw.2.2) (Nat.le_trans hlv hR.1) (by have := hR.2; omega) (Nat.zero_le _) (Nat.zero_le _) hd (h p' e R s m args below meth c H locs ls A hP hS hl)
theorem x_min {ix : Nat} {x y : Int32} (hlk : Cond.methodLink M.1 ix Lib.Math.min.name ∈ xT) (hw : Cond.static Lib.Math.min.name ∈ xT ∧ Cond.initialized "java/lang/Math" ∈ xT ∧ Cond.code Lib.Math.min.name Lib.Math.min.code 2 (some .int) ∈ xT) (hlv : 1 ≤ M.2.2.2.2) (hst : (st.map fun v => v.category).sum ≤ 8) (hd : decode M.2.1 pc = .ok (.invokestatic ix, 3)) (h : xAt l w M (pc + 3) L (.int (i_min x y) :: st) σ v τ) : xAt l w M pc L (.int y :: .int x :: st) σ v τ := by
  intro p' e R s m args below meth c H locs ls A hP hS hl
  have hts := A.2.2.2.2.1
  have hR := A.2.2.2.2.2.2.2.2.2
  exact va_mmin A.1 A.2.1 (A.2.2.2.1.trans hl.1.symm) A.2.2.2.2.2.1 (hts _ hlk) (hts _ hw.1) (hts _ hw.2.1) (hts _ hw.2.2) (Nat.le_trans hlv hR.1) (by have := hR.2; omega) (Nat.zero_le _) (Nat.zero_le _) hd (h p' e R s m args below meth c H locs ls A hP hS hl)
-- ends
theorem x_Qend {s t : State} {H : Heap} {locs : List Loc} {args : Array Value} (hP : va_P w.1 vwCl (xC w σ) H) (hS : va_S (xA w s.heap.size) s.heap H locs) (ht : t.heap = H) : xQ w v σ args s (.returned v) t := ⟨rfl, by rw [ht]; exact hP, hS.F ht⟩
theorem x_iret {x : Int32} (hr : M.2.2.2.1 = some .int) (hd : decode M.2.1 pc = .ok (.ireturn, 1)) (hv : v = some (.int x)) (hσ : τ = σ) : xAt l w M pc L [.int x] σ v τ := fun p e R s m args below meth c H locs ls A hP hS hl => by
  subst hv; subst hσ
  have hlocks := A.2.2.2.2.2.2.2.1
  exact W.iret A.1 A.2.1 (A.2.2.1.trans hr) (fun t ht _ => x_Qend hP hS ht) hS.2.2 hd hlocks
theorem x_zret {x : Int32} (hr : M.2.2.2.1 = some .boolean) (hz : x_z x = true) (hd : decode M.2.1 pc = .ok (.ireturn, 1)) (hv : v = some (.int x)) (hσ : τ = σ) : xAt l w M pc L [.int x] σ v τ := fun p e R s m args below meth c H locs ls A hP hS hl => by
  subst hv; subst hσ
  have hlocks := A.2.2.2.2.2.2.2.1
  exact W.zret A.1 A.2.1 (A.2.2.1.trans hr) (x_z_n hz) (fun t ht _ => x_Qend hP hS ht) hS.2.2 hd hlocks
theorem x_lret {x : Int64} (hr : M.2.2.2.1 = some .long) (hd : decode M.2.1 pc = .ok (.lreturn, 1)) (hv : v = some (.long x)) (hσ : τ = σ) : xAt l w M pc L [.long x] σ v τ := fun p e R s m args below meth c H locs ls A hP hS hl => by
  subst hv; subst hσ
  have hlocks := A.2.2.2.2.2.2.2.1
  exact W.lret A.1 A.2.1 (A.2.2.1.trans hr) (fun t ht _ => x_Qend hP hS ht) hS.2.2 hd hlocks
theorem x_vret (hr : M.2.2.2.1 = none) (hd : decode M.2.1 pc = .ok (.return_, 1)) (hv : v = none) (hσ : τ = σ) : xAt l w M pc L [] σ v τ := fun p e R s m args below meth c H locs ls A hP hS hl => by
  subst hv; subst hσ
  have hlocks := A.2.2.2.2.2.2.2.1
  exact W.vret A.1 A.2.1 (A.2.2.1.trans hr) (fun t ht _ => x_Qend hP hS ht) hS.2.2 hd hlocks
theorem x_aret {C : String} {a : Value} (hr : M.2.2.2.1 = some (.object C)) (ha : a = .null ∨ ∃ q, a = .ref q) (hd : decode M.2.1 pc = .ok (.areturn, 1)) (hv : v = some a) (hσ : τ = σ) : xAt l w M pc L [a] σ v τ := fun p e R s m args below meth c H locs ls A hP hS hl => by
  subst hv; subst hσ
  have hlocks := A.2.2.2.2.2.2.2.1
  exact W.aret A.1 A.2.1 (A.2.2.1.trans hr) (Or.inl ⟨_, rfl⟩) ha (fun t ht _ => x_Qend hP hS ht) hS.2.2 hd hlocks
theorem x_p1 {α : Type} {a r : α} {s t : xS} (h : (some (a, s) : Option (α × xS)) = some (r, t)) : r = a ∧ t = s := by cases h; exact ⟨rfl, rfl⟩
theorem x_iretH {x r : Int32} (hr : M.2.2.2.1 = some .int) (hd : decode M.2.1 pc = .ok (.ireturn, 1)) (h : (some (x, σ) : Option (Int32 × xS)) = some (r, τ)) : xAt l w M pc L [.int x] σ (some (.int r)) τ := x_iret hr hd (by rw [(x_p1 h).1]) (x_p1 h).2
theorem x_zretH {x r : Int32} (hr : M.2.2.2.1 = some .boolean) (hz : x_z x = true) (hd : decode M.2.1 pc = .ok (.ireturn, 1)) (h : (some (x, σ) : Option (Int32 × xS)) = some (r, τ)) : xAt l w M pc L [.int x] σ (some (.int r)) τ := x_zret hr hz hd (by rw [(x_p1 h).1]) (x_p1 h).2
theorem x_lretH {x r : Int64} (hr : M.2.2.2.1 = some .long) (hd : decode M.2.1 pc = .ok (.lreturn, 1)) (h : (some (x, σ) : Option (Int64 × xS)) = some (r, τ)) : xAt l w M pc L [.long x] σ (some (.long r)) τ := x_lret hr hd (by rw [(x_p1 h).1]) (x_p1 h).2
theorem x_vretH {r : Unit} (hr : M.2.2.2.1 = none) (hd : decode M.2.1 pc = .ok (.return_, 1)) (h : (some ((), σ) : Option (Unit × xS)) = some (r, τ)) : xAt l w M pc L [] σ none τ := x_vret hr hd rfl (x_p1 h).2
def x_nvP (w : xW) (o : Option (Nat × Nat)) : Value := match o with
  | none => .null
  | some t => .ref (w.2.2 t.1 13 t.2 0)
def x_nvQ (w : xW) (o : Option (Nat × Nat × Nat)) : Value := match o with
  | none => .null
  | some t => .ref (w.2.2 t.1 16 t.2.1 t.2.2)
theorem x_aretP {C : String} {q r : Option (Nat × Nat)} {a : Value} (hr : M.2.2.2.1 = some (.object C)) (ha : a = x_nvP w q) (hd : decode M.2.1 pc = .ok (.areturn, 1)) (h : (some (q, σ) : Option (Option (Nat × Nat) × xS)) = some (r, τ)) : xAt l w M pc L [a] σ (some (x_nvP w r)) τ := by
  subst ha
  have hq : x_nvP w q = .null ∨ ∃ a, x_nvP w q = .ref a := by
    cases q with
    | none => exact Or.inl rfl
    | some t => exact Or.inr ⟨_, rfl⟩
  exact x_aret hr hq hd (by rw [(x_p1 h).1]) (x_p1 h).2
theorem x_aretQ {C : String} {q r : Option (Nat × Nat × Nat)} {a : Value} (hr : M.2.2.2.1 = some (.object C)) (ha : a = x_nvQ w q) (hd : decode M.2.1 pc = .ok (.areturn, 1)) (h : (some (q, σ) : Option (Option (Nat × Nat × Nat) × xS)) = some (r, τ)) : xAt l w M pc L [a] σ (some (x_nvQ w r)) τ := by
  subst ha
  have hq : x_nvQ w q = .null ∨ ∃ a, x_nvQ w q = .ref a := by
    cases q with
    | none => exact Or.inl rfl
    | some t => exact Or.inr ⟨_, rfl⟩
  exact x_aret hr hq hd (by rw [(x_p1 h).1]) (x_p1 h).2
theorem x_st (st1 : List Value) (he : st = st1) (h : xAt l w M pc L st1 σ v τ) : xAt l w M pc L st σ v τ := by subst he; exact h
theorem x_nm {x : Int32} (t : Int32) (he : t = x) (h : xAt l w M pc L (.int t :: st) σ v τ) : xAt l w M pc L (.int x :: st) σ v τ := by subst he; exact h
theorem x_nm2 {x : Int32} {a : Value} (t : Int32) (he : t = x) (h : xAt l w M pc L (a :: .int t :: st) σ v τ) : xAt l w M pc L (a :: .int x :: st) σ v τ := by subst he; exact h
-- calls
theorem x_GoodIn {y : MethodName} {cc : ByteArray} {n : Nat} {rt : Option FieldType} (h : Cond.code y cc n rt ∈ xT) : GoodIn xT (Cond.code y cc n rt :: xT) := by
  intro x hx
  have hm : x ∈ xT := by
    rcases List.mem_cons.mp hx with rfl | hx
    · exact h
    · exact hx
  exact ⟨hm, good_of_word (xT_g hm)⟩
theorem x_blind (w : xW) (σ : xS) (sz : Nat) (av : List Value) : FrameBlind (va_Pc av (xPre w σ sz)) := fun a U g mk q => by
  obtain ⟨q0, q1, q2, qP, qK⟩ := q
  exact ⟨q0, q1, q2, qP, va_K.moved (u := U) (U := U.calling g mk a) (Vm.Alike.refl U.vm) qK⟩
theorem x_goes {p : Program} {e : Env} {R : Room} {s : State} {m : MethodId} {args : Array Value} {below : List Frame} {meth : Method} {c : Code} {H : Heap} {locs : List Loc} {ls : Array Slot} {st0 : List Value} {σ1 : xS} {v1 : Option Value} {a : Array Value} {sz : Nat} (hsz : sz = H.size)
    (hr : va_Run p l e R s m args below meth c H locs 0 0 0 0 (F0 m pc ls st0) st (xQ w v1 σ1 a) (xA w sz)) (hS : va_S (xA w s.heap.size) s.heap H locs) {Q : State → Prop}
    (kk : ∀ (H1 : Heap) (locs1 : List Loc), va_P w.1 vwCl (xC w σ1) H1 → va_S (xA w s.heap.size) s.heap H1 locs1 → W p l e R s m args below meth c H1 locs1 0 0 Q (F0 m (pc + 3) ls (v1.toList ++ st))) : W p l e R s m args below meth c H locs 0 0 Q (F0 m pc ls st0) := by
  subst hsz
  intro T hT X
  obtain ⟨v0, st₀, t, T', Lx, h0, X', hL, e1, e2, ⟨hv, hP1, hz, hk⟩, stp⟩ := hr T hT X
  cases hv
  rw [h0] at hz hk
  have hA : ∀ q, xA w H.size q → xA w s.heap.size q := fun q hq => hq.elim Or.inl (fun z => Or.inr (Nat.le_trans hS.1 z))
  obtain ⟨t2, a1, b1⟩ := kk T'.heap (locs ++ Lx) (by rw [e1]; exact hP1) ⟨Nat.le_trans hS.1 (by rw [e1]; exact hz), fun q h1 h2 => by rw [e1, hk q (Nat.lt_of_lt_of_le h1 hS.1) (fun z => h2 (hA q z))]; exact hS.2.1 q h1 h2, fun q hq => by
      rcases List.mem_append.mp hq with h | h
      · exact hS.2.2 q h
      · exact hA _ (hL q h)⟩ T' rfl X'
  exact ⟨t2, stp t2 a1, b1⟩
/-- what the tables say of a call of an instance method (own, ix: the place; y, N: the method; n: its arguments) -/
def xCv (own : String) (ix : Nat) (y : MethodName) (N : xM) (K n : Nat) : Prop := Cond.methodLink own ix y ∈ xT ∧ Cond.instanceMethod y ∈ xT ∧ Cond.selects y.cls y y ∈ xT ∧ Cond.initialized y.cls ∈ xT ∧ Cond.code y N.2.1 N.2.2.1 N.2.2.2.1 ∈ xT ∧ (y.cls ≠ "java/lang/invoke/MethodHandle" ∧ y.cls ≠ "java/lang/invoke/VarHandle" ∧ (parseMethodDescriptor y.desc).map (fun d => d.parameters.length) = some n) ∧ N.2.2.1 ≤ 21 ∧ ∃ (o : Nat × Nat) (T : u_T) (nf : Nat), x_obj K = some o ∧ vwCl[o.1]? = some (y.cls, T, nf)
def xCs (own : String) (ix : Nat) (y : MethodName) (N : xM) (n : Nat) : Prop := Cond.methodLink own ix y ∈ xT ∧ Cond.static y ∈ xT ∧ Cond.initialized y.cls ∈ xT ∧ Cond.code y N.2.1 N.2.2.1 N.2.2.2.1 ∈ xT ∧ (y.cls ≠ "java/lang/invoke/MethodHandle" ∧ y.cls ≠ "java/lang/invoke/VarHandle" ∧ (parseMethodDescriptor y.desc).map (fun d => d.parameters.length) = some n) ∧ N.2.2.1 ≤ 21
theorem x_callV {ix d K p r n : Nat} {y : MethodName} {N : xM} {As : List Value} {σ1 : xS} {v1 : Option Value} (hE : xEV l w y N (.ref (w.2.2 d K p r) :: As) σ v1 σ1) (hc : xCv M.1 ix y N K n) (hlv : N.2.2.2.2 < M.2.2.2.2) (hok : x_ok d K p r = true) (hn : As.length = n) (hst : (st.map fun v => v.category).sum ≤ 8) (st0 : List Value) (hs0 : st0 = As.reverse ++ .ref (w.2.2 d K p r) :: st) (hd : decode M.2.1 pc = .ok (.invokevirtual ix, 3)) (st1 : List Value) (hs1 : v1.toList ++ st = st1) (h : xAt l w M (pc + 3) L st1 σ1 v τ) : xAt l w M pc L st0 σ v τ := by
  subst hs0
  subst hs1
  intro p' e R s m args below meth c H locs ls A hP hS hl
  obtain ⟨h1, h2, h3, h4, h5, h6, h7, o, T, nf, ho, hcl⟩ := hc
  have hts := A.2.2.2.2.1
  have hR := A.2.2.2.2.2.2.2.2.2
  obtain ⟨q0, hq, he⟩ := x_pos w σ hok
  have he' : (xC w σ)[q0]? = some (w.2.2 d K p r, .inr (o.1, (List.range o.2).map fun k => x_fv w σ d K p r k)) := by rw [he, x_cell, ho]
  have cb : CallB R s args M.1 ix y N.2.1 N.2.2.1 N.2.2.2.1 (Cond.code y N.2.1 N.2.2.1 N.2.2.2.1 :: xT) (xRm N.2.2.2.2) 0 0 n :=
    callB_of n hts (x_GoodIn h5) rfl rfl rfl (hts _ h4) (hts _ h1) h6 ⟨by have := hR.1; show N.2.2.2.2 + 1 ≤ R.frames; omega, by have := hR.2; show 8 + (N.2.2.1 + 11) + 40 * N.2.2.2.2 ≤ R.locals; omega⟩
  refine x_goes rfl (va_runV (As := As) (rest := st) (C := y.cls) ⟨A.1, A.2.1, A.2.2.2.1, A.2.2.2.2.2.1, hts⟩ (hE H.size) ⟨cb, hts _ h2, hts _ h3⟩ ⟨x_blind w σ H.size _, va_recv A.2.2.2.2.2.2.1 hP hcl he', fun U hU hW => ⟨rfl, A.2.2.2.2.2.2.2.2.1, by rw [hU], by rw [hU]; exact hP, va_K.moved hW.alike A.2.2.2.2.2.2.1⟩⟩ rfl hn hl.1 rfl (lv_room hst) hd ⟨Nat.zero_le _, Nat.zero_le _⟩) hS (fun H1 locs1 hP1 hS1 => ?_)
  exact h p' e R s m args below meth c H1 locs1 ls A hP1 hS1 hl
theorem x_callS {ix n : Nat} {y : MethodName} {N : xM} {As : List Value} {σ1 : xS} {v1 : Option Value} (hE : xEV l w y N As σ v1 σ1) (hc : xCs M.1 ix y N n) (hlv : N.2.2.2.2 < M.2.2.2.2) (hn : As.length = n) (hst : (st.map fun v => v.category).sum ≤ 8) (st0 : List Value) (hs0 : st0 = As.reverse ++ st) (hd : decode M.2.1 pc = .ok (.invokestatic ix, 3)) (st1 : List Value) (hs1 : v1.toList ++ st = st1) (h : xAt l w M (pc + 3) L st1 σ1 v τ) : xAt l w M pc L st0 σ v τ := by
  subst hs0
  subst hs1
  intro p' e R s m args below meth c H locs ls A hP hS hl
  obtain ⟨h1, h2, h4, h5, h6, h7⟩ := hc
  have hts := A.2.2.2.2.1
  have hR := A.2.2.2.2.2.2.2.2.2
  have cb : CallB R s args M.1 ix y N.2.1 N.2.2.1 N.2.2.2.1 (Cond.code y N.2.1 N.2.2.1 N.2.2.2.1 :: xT) (xRm N.2.2.2.2) 0 0 n :=
    callB_of n hts (x_GoodIn h5) rfl rfl rfl (hts _ h4) (hts _ h1) h6 ⟨by have := hR.1; show N.2.2.2.2 + 1 ≤ R.frames; omega, by have := hR.2; show 8 + (N.2.2.1 + 11) + 40 * N.2.2.2.2 ≤ R.locals; omega⟩
  refine x_goes rfl (va_runS (As := As) (rest := st) ⟨A.1, A.2.1, A.2.2.2.1, A.2.2.2.2.2.1, hts⟩ (hE H.size) ⟨cb, hts _ h2⟩ ⟨x_blind w σ H.size _, fun U hU hW => ⟨rfl, A.2.2.2.2.2.2.2.2.1, by rw [hU], by rw [hU]; exact hP, va_K.moved hW.alike A.2.2.2.2.2.2.1⟩⟩ rfl hn hl.1 rfl (lv_room hst) hd ⟨Nat.zero_le _, Nat.zero_le _⟩) hS (fun H1 locs1 hP1 hS1 => ?_)
  exact h p' e R s m args below meth c H1 locs1 ls A hP1 hS1 hl
end XR
-- the decompiled functions' own words
def x_let {α β : Type} (a : α) (k : α → β) : β := k a
theorem x_let_e {α β : Type} {a : α} {k : α → β} {z : β} (h : x_let a k = z) : ∃ t, t = a ∧ k t = z := ⟨a, rfl, h⟩
def x_b {α β : Type} (o : Option (α × xS)) (k : α → xS → Option β) : Option β := match o with
  | none => none
  | some q => k q.1 q.2
theorem x_b_e {α β : Type} {o : Option (α × xS)} {k : α → xS → Option β} {z : β} (h : x_b o k = some z) : ∃ (r : α) (s : xS), o = some (r, s) ∧ k r s = some z := by
  cases o with
  | none => cases h
  | some q => exact ⟨q.1, q.2, rfl, h⟩
def x_g {β : Type} (b : Bool) (k : Option β) : Option β := if b = true then k else none
theorem x_g_e {β : Type} {b : Bool} {k : Option β} {z : β} (h : x_g b k = some z) : b = true ∧ k = some z := by
  cases b with
  | false => cases h
  | true => exact ⟨rfl, h⟩
theorem x_t {α : Type} {c : Prop} [Decidable c] {a b z : α} (hc : c) (h : (if c then a else b) = z) : a = z := by rw [if_pos hc] at h; exact h
theorem x_f {α : Type} {c : Prop} [Decidable c] {a b z : α} (hc : ¬ c) (h : (if c then a else b) = z) : b = z := by rw [if_neg hc] at h; exact h
def x_FU : Nat := 200000
theorem x_nz_e {α β : Type} [DecidableEq α] {y o : α} {k : Option β} {z : β} (h : (if y = o then none else k) = some z) : ¬ y = o ∧ k = some z := by
  by_cases hc : y = o
  · rw [if_pos hc] at h; cases h
  · rw [if_neg hc] at h; exact ⟨hc, h⟩
theorem x_ne_i {x : Int32} (c : Int32) (n : Int) (hn : c.toInt = n) (h : ¬ x = c) : x.toInt ≠ n := fun e => h (Int32.toInt_inj.mp (e.trans hn.symm))
theorem ok_a {d K : Nat} (hK : K ≤ 12) (hd : d < 4) : x_ok d K 0 0 = true := by simp [x_ok, hK, hd]
theorem ok_b {d K p : Nat} (h1 : 13 ≤ K) (h2 : K ≤ 15) (hd : d < 4) (hp : p < 6) : x_ok d K p 0 = true := by
  have : ¬ K ≤ 12 := by omega
  simp [x_ok, this, h2, hd, hp]
theorem ok_c {d p r : Nat} (hd : d < 4) (hp : p < 6) (hr : r < 3) : x_ok d 16 p r = true := by simp [x_ok, hd, hp, hr]
theorem ok_e20 : x_ok 4 20 0 0 = true := rfl
theorem ok_e21 : x_ok 4 21 0 0 = true := rfl
theorem ok_e22 : x_ok 4 22 0 0 = true := rfl
theorem ok_e23 : x_ok 4 23 0 0 = true := rfl
theorem ok_e24 : x_ok 4 24 0 0 = true := rfl
theorem ok_e30 : x_ok 5 30 0 0 = true := rfl
theorem ok_e31 : x_ok 5 31 0 0 = true := rfl
theorem ok_e32 : x_ok 5 32 0 0 = true := rfl
theorem ok_e33 : x_ok 5 33 0 0 = true := rfl
theorem ok_e34 : x_ok 5 34 0 0 = true := rfl
theorem ok_e35 : x_ok 5 35 0 0 = true := rfl
theorem ok_e36 : x_ok 5 36 0 0 = true := rfl
theorem ok_e37 : x_ok 5 37 0 0 = true := rfl
def ok2 (t : Nat × Nat) : Bool := decide (t.1 < 4 ∧ t.2 < 6)
def ok3 (t : Nat × Nat × Nat) : Bool := decide (t.1 < 4 ∧ t.2.1 < 6 ∧ t.2.2 < 3)
theorem ok2_d {t : Nat × Nat} (h : ok2 t = true) : t.1 < 4 := (of_decide_eq_true h).1
theorem ok2_p {t : Nat × Nat} (h : ok2 t = true) : t.2 < 6 := (of_decide_eq_true h).2
theorem ok3_d {t : Nat × Nat × Nat} (h : ok3 t = true) : t.1 < 4 := (of_decide_eq_true h).1
theorem ok3_p {t : Nat × Nat × Nat} (h : ok3 t = true) : t.2.1 < 6 := (of_decide_eq_true h).2.1
theorem ok3_r {t : Nat × Nat × Nat} (h : ok3 t = true) : t.2.2 < 3 := (of_decide_eq_true h).2.2
end
section
theorem xT_t1 {c : Cond} (h : c ∈ tables_1_1) (hg : goodWord c = true) : c ∈ xT := xT_of (List.mem_append_right _ (List.mem_append_left _ h)) hg
theorem xT_t2 {c : Cond} (h : c ∈ tables_1_2) (hg : goodWord c = true) : c ∈ xT := xT_of (List.mem_append_right _ (List.mem_append_right _ (List.mem_append_left _ h))) hg
theorem xT_t3 {c : Cond} (h : c ∈ tables_1_3) (hg : goodWord c = true) : c ∈ xT := xT_of (List.mem_append_right _ (List.mem_append_right _ (List.mem_append_right _ (List.mem_append_left _ h)))) hg
theorem xT_t4 {c : Cond} (h : c ∈ tables_1_4) (hg : goodWord c = true) : c ∈ xT := xT_of (List.mem_append_right _ (List.mem_append_right _ (List.mem_append_right _ (List.mem_append_right _ (List.mem_append_left _ h))))) hg
theorem xT_t5 {c : Cond} (h : c ∈ tables_1_5) (hg : goodWord c = true) : c ∈ xT := xT_of (List.mem_append_right _ (List.mem_append_right _ (List.mem_append_right _ (List.mem_append_right _ (List.mem_append_right _ (List.mem_append_left _ h)))))) hg
theorem xT_t6 {c : Cond} (h : c ∈ tables_1_6) (hg : goodWord c = true) : c ∈ xT := xT_of (List.mem_append_right _ (List.mem_append_right _ (List.mem_append_right _ (List.mem_append_right _ (List.mem_append_right _ (List.mem_append_right _ (h))))))) hg
theorem xT_s {c : Cond} (h : c ∈ k2_sels lw_privs) (hg : goodWord c = true) : c ∈ xT := xT_of (List.mem_append_left _ h) hg
theorem inxX0 : ∀ x ∈ u_ws RX0 TX0 13, x ∈ xT := by
  have h : ∀ x ∈ u_ws RX0 TX0 13, x ∈ tables_1 ∧ goodWord x = true := by decide +kernel
  exact fun x hx => xT_of (List.mem_append_right _ (h x hx).1) (h x hx).2
theorem inxX1 : ∀ x ∈ u_ws RX1 TX1 9, x ∈ xT := by
  have h : ∀ x ∈ u_ws RX1 TX1 9, x ∈ tables_1 ∧ goodWord x = true := by decide +kernel
  exact fun x hx => xT_of (List.mem_append_right _ (h x hx).1) (h x hx).2
theorem inxX2 : ∀ x ∈ u_ws RX2 TX2 12, x ∈ xT := by
  have h : ∀ x ∈ u_ws RX2 TX2 12, x ∈ tables_1 ∧ goodWord x = true := by decide +kernel
  exact fun x hx => xT_of (List.mem_append_right _ (h x hx).1) (h x hx).2
theorem inxX3 : ∀ x ∈ u_ws RX3 TX3 16, x ∈ xT := by
  have h : ∀ x ∈ u_ws RX3 TX3 16, x ∈ tables_1 ∧ goodWord x = true := by decide +kernel
  exact fun x hx => xT_of (List.mem_append_right _ (h x hx).1) (h x hx).2
theorem inxX4 : ∀ x ∈ u_ws RX4 TX4 9, x ∈ xT := by
  have h : ∀ x ∈ u_ws RX4 TX4 9, x ∈ tables_1 ∧ goodWord x = true := by decide +kernel
  exact fun x hx => xT_of (List.mem_append_right _ (h x hx).1) (h x hx).2
theorem inxX5 : ∀ x ∈ u_ws RX5 TX5 5, x ∈ xT := by
  have h : ∀ x ∈ u_ws RX5 TX5 5, x ∈ tables_1 ∧ goodWord x = true := by decide +kernel
  exact fun x hx => xT_of (List.mem_append_right _ (h x hx).1) (h x hx).2
theorem inxX6 : ∀ x ∈ u_ws RX6 TX6 13, x ∈ xT := by
  have h : ∀ x ∈ u_ws RX6 TX6 13, x ∈ tables_1 ∧ goodWord x = true := by decide +kernel
  exact fun x hx => xT_of (List.mem_append_right _ (h x hx).1) (h x hx).2
abbrev mX0_startAnew : xM := (RX0, cX0_startAnew, 7, none, 2)
abbrev mX0_copyFrom : xM := (RX0, cX0_copyFrom, 3, none, 2)
abbrev mX0_portAt : xM := (RX0, cX0_portAt, 2, (some (.object RX2)), 0)
abbrev mX0_queueAt : xM := (RX0, cX0_queueAt, 3, (some (.object RX3)), 0)
abbrev mX0_poolSize : xM := (RX0, cX0_poolSize, 4, (some .int), 0)
abbrev mX0_sharedLeft : xM := (RX0, cX0_sharedLeft, 3, (some .int), 1)
abbrev mX0_giveGrant : xM := (RX0, cX0_giveGrant, 7, (some .int), 4)
abbrev mX0_rememberGrant : xM := (RX0, cX0_rememberGrant, 2, none, 0)
abbrev mX0_endGrant : xM := (RX0, cX0_endGrant, 3, none, 3)
abbrev mX0_judge : xM := (RX0, cX0_judge, 7, none, 3)
abbrev mX0_headroomRefusal : xM := (RX0, cX0_headroomRefusal, 3, (some .int), 1)
abbrev mX0_victimsNeeded : xM := (RX0, cX0_victimsNeeded, 18, (some .int), 2)
abbrev mX0_receive : xM := (RX0, cX0_receive, 5, (some .int), 4)
abbrev mX0_removeVictims : xM := (RX0, cX0_removeVictims, 8, none, 3)
abbrev mX0_chargeCells : xM := (RX0, cX0_chargeCells, 6, none, 2)
abbrev mX0_takeOut : xM := (RX0, cX0_takeOut, 4, none, 2)
abbrev mX0_discardAll : xM := (RX0, cX0_discardAll, 8, (some .int), 3)
abbrev mX0_passTick : xM := (RX0, cX0_passTick, 8, (some .int), 5)
abbrev mX0_send : xM := (RX0, cX0_send, 3, (some .int), 4)
abbrev mX0_sendByPriority : xM := (RX0, cX0_sendByPriority, 6, (some .int), 3)
abbrev mX0_sendInTurns : xM := (RX0, cX0_sendInTurns, 6, (some .int), 3)
abbrev mX1_startAnew : xM := (RX1, cX1_startAnew, 3, none, 0)
abbrev mX1_copyFrom : xM := (RX1, cX1_copyFrom, 3, none, 1)
abbrev mX1_isCell : xM := (RX1, cX1_isCell, 2, (some .boolean), 0)
abbrev mX1_numberOf : xM := (RX1, cX1_numberOf, 2, (some .int), 1)
abbrev mX1_sizeOf : xM := (RX1, cX1_sizeOf, 2, (some .int), 1)
abbrev mX1_partsOf : xM := (RX1, cX1_partsOf, 2, (some .int), 1)
abbrev mX1_packetAhead : xM := (RX1, cX1_packetAhead, 2, (some .int), 1)
abbrev mX1_packetBehind : xM := (RX1, cX1_packetBehind, 2, (some .int), 1)
abbrev mX1_partBehind : xM := (RX1, cX1_partBehind, 2, (some .int), 1)
abbrev mX1_find : xM := (RX1, cX1_find, 3, (some .int), 0)
abbrev mX1_partStart : xM := (RX1, cX1_partStart, 5, (some .int), 2)
abbrev mX1_startsRun : xM := (RX1, cX1_startsRun, 2, (some .boolean), 0)
abbrev mX1_freeLength : xM := (RX1, cX1_freeLength, 4, (some .int), 1)
abbrev mX1_countRuns : xM := (RX1, cX1_countRuns, 3, (some .int), 1)
abbrev mX1_findRun : xM := (RX1, cX1_findRun, 4, (some .int), 1)
abbrev mX1_place : xM := (RX1, cX1_place, 10, (some .int), 3)
abbrev mX1_chooseRun : xM := (RX1, cX1_chooseRun, 6, (some .int), 2)
abbrev mX1_suitsBetter : xM := (RX1, cX1_suitsBetter, 3, (some .boolean), 0)
abbrev mX1_occupy : xM := (RX1, cX1_occupy, 4, none, 0)
abbrev mX1_release : xM := (RX1, cX1_release, 6, none, 1)
abbrev mX1_joinQueue : xM := (RX1, cX1_joinQueue, 3, none, 1)
abbrev mX1_leaveQueue : xM := (RX1, cX1_leaveQueue, 5, none, 1)
abbrev mX2_startAnew : xM := (RX2, cX2_startAnew, 5, none, 1)
abbrev mX2_copyFrom : xM := (RX2, cX2_copyFrom, 3, none, 1)
abbrev mX2_guaranteedInUse : xM := (RX2, cX2_guaranteedInUse, 1, (some .int), 0)
abbrev mX2_sharedInUse : xM := (RX2, cX2_sharedInUse, 1, (some .int), 0)
abbrev mX2_headroomInUse : xM := (RX2, cX2_headroomInUse, 1, (some .int), 0)
abbrev mX2_guaranteeLeft : xM := (RX2, cX2_guaranteeLeft, 1, (some .int), 1)
abbrev mX2_isIdle : xM := (RX2, cX2_isIdle, 1, (some .boolean), 0)
abbrev mX2_highestBusyQueue : xM := (RX2, cX2_highestBusyQueue, 5, (some (.object RX3)), 0)
abbrev mX2_queueAtTurn : xM := (RX2, cX2_queueAtTurn, 1, (some (.object RX3)), 0)
abbrev mX2_passTurn : xM := (RX2, cX2_passTurn, 1, none, 0)
abbrev mX2_restartSending : xM := (RX2, cX2_restartSending, 1, none, 0)
abbrev mX2_shareBeyondGuarantee : xM := (RX2, cX2_shareBeyondGuarantee, 5, none, 2)
abbrev mX2_countLoss : xM := (RX2, cX2_countLoss, 3, none, 0)
abbrev mX3_startAnew : xM := (RX3, cX3_startAnew, 1, none, 0)
abbrev mX3_copyFrom : xM := (RX3, cX3_copyFrom, 2, none, 0)
abbrev mX3_limitWith : xM := (RX3, cX3_limitWith, 2, (some .int), 0)
abbrev mX3_poolRefusal : xM := (RX3, cX3_poolRefusal, 3, (some .int), 1)
abbrev mX3_addShared : xM := (RX3, cX3_addShared, 3, none, 1)
abbrev mX3_pause : xM := (RX3, cX3_pause, 1, none, 0)
abbrev mX3_giveBack : xM := (RX3, cX3_giveBack, 4, none, 1)
abbrev mX4_rewind : xM := (RX4, cX4_rewind, 1, none, 0)
abbrev mX4_hasMore : xM := (RX4, cX4_hasMore, 1, (some .boolean), 0)
abbrev mX4_findFault : xM := (RX4, cX4_findFault, 3, (some .int), 4)
abbrev mX4_readOrder : xM := (RX4, cX4_readOrder, 2, none, 3)
abbrev mX4_readCount : xM := (RX4, cX4_readCount, 1, none, 2)
abbrev mX4_letterHere : xM := (RX4, cX4_letterHere, 1, (some .int), 0)
abbrev mX4_expect : xM := (RX4, cX4_expect, 2, none, 1)
abbrev mX4_readDigit : xM := (RX4, cX4_readDigit, 3, (some .int), 1)
abbrev mX4_readNumber : xM := (RX4, cX4_readNumber, 6, (some .int), 1)
abbrev mX5_reset : xM := (RX5, cX5_reset, 4, (some .int), 3)
abbrev mX5_setReserve : xM := (RX5, cX5_setReserve, 5, (some .int), 3)
abbrev mX5_setHeadroom : xM := (RX5, cX5_setHeadroom, 5, (some .int), 2)
abbrev mX5_setAlpha : xM := (RX5, cX5_setAlpha, 6, (some .int), 1)
abbrev mX5_setBurst : xM := (RX5, cX5_setBurst, 7, (some .int), 1)
abbrev mX5_setLossless : xM := (RX5, cX5_setLossless, 6, (some .int), 1)
abbrev mX5_setScheduler : xM := (RX5, cX5_setScheduler, 6, (some .int), 1)
abbrev mX5_setQuantum : xM := (RX5, cX5_setQuantum, 6, (some .int), 1)
abbrev mX5_setPushOut : xM := (RX5, cX5_setPushOut, 3, (some .int), 1)
abbrev mX5_grant : xM := (RX5, cX5_grant, 4, (some .int), 5)
abbrev mX5_withdraw : xM := (RX5, cX5_withdraw, 4, (some .int), 4)
abbrev mX5_arrive : xM := (RX5, cX5_arrive, 6, (some .int), 5)
abbrev mX5_ticks : xM := (RX5, cX5_ticks, 4, (some .int), 6)
abbrev mX5_flush : xM := (RX5, cX5_flush, 3, (some .int), 4)
abbrev mX5_traffic : xM := (RX5, cX5_traffic, 13, (some .int), 6)
abbrev mX5_freeShared : xM := (RX5, cX5_freeShared, 1, (some .int), 2)
abbrev mX5_sharedPool : xM := (RX5, cX5_sharedPool, 1, (some .int), 1)
abbrev mX5_freeGuarantee : xM := (RX5, cX5_freeGuarantee, 3, (some .int), 2)
abbrev mX5_grantOf : xM := (RX5, cX5_grantOf, 3, (some .int), 1)
abbrev mX5_threshold : xM := (RX5, cX5_threshold, 4, (some .int), 2)
abbrev mX5_guaranteedCells : xM := (RX5, cX5_guaranteedCells, 4, (some .int), 1)
abbrev mX5_sharedCells : xM := (RX5, cX5_sharedCells, 4, (some .int), 1)
abbrev mX5_headroomCells : xM := (RX5, cX5_headroomCells, 4, (some .int), 1)
abbrev mX5_burstTank : xM := (RX5, cX5_burstTank, 4, (some .int), 1)
abbrev mX5_isPaused : xM := (RX5, cX5_isPaused, 4, (some .int), 1)
abbrev mX5_pauses : xM := (RX5, cX5_pauses, 4, (some .int), 1)
abbrev mX5_credit : xM := (RX5, cX5_credit, 3, (some .int), 1)
abbrev mX5_deficit : xM := (RX5, cX5_deficit, 4, (some .int), 1)
abbrev mX5_losses : xM := (RX5, cX5_losses, 4, (some .int), 1)
abbrev mX5_lostCells : xM := (RX5, cX5_lostCells, 3, (some .int), 1)
abbrev mX5_lossCause : xM := (RX5, cX5_lossCause, 2, (some .int), 1)
abbrev mX5_departed : xM := (RX5, cX5_departed, 3, (some .int), 1)
abbrev mX5_admitted : xM := (RX5, cX5_admitted, 1, (some .int), 0)
abbrev mX5_time : xM := (RX5, cX5_time, 1, (some .int), 0)
abbrev mX5_queueLength : xM := (RX5, cX5_queueLength, 4, (some .int), 1)
abbrev mX5_packetAt : xM := (RX5, cX5_packetAt, 7, (some .int), 2)
abbrev mX5_fragments : xM := (RX5, cX5_fragments, 3, (some .int), 2)
abbrev mX5_fragmentStart : xM := (RX5, cX5_fragmentStart, 4, (some .int), 3)
abbrev mX5_fragmentLength : xM := (RX5, cX5_fragmentLength, 4, (some .int), 3)
abbrev mX5_freeRuns : xM := (RX5, cX5_freeRuns, 1, (some .int), 2)
abbrev mX5_runStart : xM := (RX5, cX5_runStart, 3, (some .int), 2)
abbrev mX5_runLength : xM := (RX5, cX5_runLength, 3, (some .int), 2)
abbrev mX5_stageFor : xM := (RX5, cX5_stageFor, 6, (some .int), 4)
abbrev mX5_largestAdmissible : xM := (RX5, cX5_largestAdmissible, 6, (some .int), 4)
abbrev mX5_burstCapacity : xM := (RX5, cX5_burstCapacity, 7, (some .int), 5)
abbrev mX5_drainTicks : xM := (RX5, cX5_drainTicks, 6, (some .int), 5)
abbrev mX5_equilibrium : xM := (RX5, cX5_equilibrium, 7, (some .int), 1)
abbrev mX5_append : xM := (RX5, cX5_append, 2, (some .int), 1)
abbrev mX5_clearText : xM := (RX5, cX5_clearText, 2, (some .int), 0)
abbrev mX5_faultPosition : xM := (RX5, cX5_faultPosition, 2, (some .int), 5)
abbrev mX5_run : xM := (RX5, cX5_run, 6, (some .int), 6)
abbrev mX5_save : xM := (RX5, cX5_save, 2, (some .int), 3)
abbrev mX5_restore : xM := (RX5, cX5_restore, 2, (some .int), 3)
abbrev mX5_checksum : xM := (RX5, cX5_checksum, 5, (some .long), 4)
abbrev mX5_mixPort : xM := (RX5, cX5_mixPort, 10, (some .long), 3)
abbrev mX5_mixPackets : xM := (RX5, cX5_mixPackets, 11, (some .long), 2)
abbrev mX5_lossOfArrivals : xM := (RX5, cX5_lossOfArrivals, 7, (some .int), 5)
abbrev mX5_isOutside : xM := (RX5, cX5_isOutside, 3, (some .boolean), 0)
abbrev mX5_asNumber : xM := (RX5, cX5_asNumber, 1, (some .int), 0)
abbrev mX5_greatestCommonDivisor : xM := (RX5, cX5_greatestCommonDivisor, 6, (some .int), 0)
abbrev mX6_in : xM := (RX6, cX6_in, 3, (some .boolean), 0)
abbrev mX6_least : xM := (RX6, cX6_least, 2, (some .int), 0)
abbrev mX6_most : xM := (RX6, cX6_most, 2, (some .int), 0)
abbrev mX6_port : xM := (RX6, cX6_port, 2, (some .int), 0)
abbrev mX6_queue : xM := (RX6, cX6_queue, 2, (some .int), 0)
abbrev mX6_entry : xM := (RX6, cX6_entry, 2, (some .int), 0)
abbrev mX6_packet : xM := (RX6, cX6_packet, 2, (some .int), 0)
abbrev mX6_isPort : xM := (RX6, cX6_isPort, 2, (some .boolean), 1)
abbrev mX6_isQueue : xM := (RX6, cX6_isQueue, 3, (some .boolean), 2)
abbrev mX6_starts : xM := (RX6, cX6_starts, 4, none, 1)
abbrev mX6_sum : xM := (RX6, cX6_sum, 3, (some .int), 1)
abbrev mX6_guarantee : xM := (RX6, cX6_guarantee, 2, (some .int), 1)
abbrev mX6_pool : xM := (RX6, cX6_pool, 3, (some .int), 2)
abbrev mX6_free : xM := (RX6, cX6_free, 3, (some .int), 3)
abbrev mX6_freeOf : xM := (RX6, cX6_freeOf, 2, (some .int), 2)
abbrev mX6_limit : xM := (RX6, cX6_limit, 2, (some .int), 4)
abbrev mX6_converts : xM := (RX6, cX6_converts, 6, none, 3)
abbrev mX6_reset : xM := (RX6, cX6_reset, 4, (some .int), 2)
abbrev mX6_setReserve : xM := (RX6, cX6_setReserve, 4, (some .int), 4)
abbrev mX6_setHeadroom : xM := (RX6, cX6_setHeadroom, 4, (some .int), 4)
abbrev mX6_set : xM := (RX6, cX6_set, 9, (some .int), 3)
abbrev mX6_setAlpha : xM := (RX6, cX6_setAlpha, 4, (some .int), 4)
abbrev mX6_setBurst : xM := (RX6, cX6_setBurst, 7, (some .int), 3)
abbrev mX6_setLossless : xM := (RX6, cX6_setLossless, 6, (some .int), 3)
abbrev mX6_setScheduler : xM := (RX6, cX6_setScheduler, 5, (some .int), 2)
abbrev mX6_setQuantum : xM := (RX6, cX6_setQuantum, 4, (some .int), 4)
abbrev mX6_setPushOut : xM := (RX6, cX6_setPushOut, 3, (some .int), 0)
abbrev mX6_drops : xM := (RX6, cX6_drops, 2, none, 4)
abbrev mX6_grant : xM := (RX6, cX6_grant, 6, (some .int), 5)
abbrev mX6_withdraw : xM := (RX6, cX6_withdraw, 3, (some .int), 5)
abbrev mX6_keeps : xM := (RX6, cX6_keeps, 2, none, 0)
abbrev mX6_brings : xM := (RX6, cX6_brings, 2, none, 0)
abbrev mX6_slotOf : xM := (RX6, cX6_slotOf, 3, (some .int), 1)
abbrev mX6_newSlot : xM := (RX6, cX6_newSlot, 2, (some .int), 1)
abbrev mX6_isFree : xM := (RX6, cX6_isFree, 2, (some .boolean), 0)
abbrev mX6_runAt : xM := (RX6, cX6_runAt, 3, (some .int), 1)
abbrev mX6_places : xM := (RX6, cX6_places, 9, none, 2)
abbrev mX6_enters : xM := (RX6, cX6_enters, 4, none, 3)
abbrev mX6_hasPackets : xM := (RX6, cX6_hasPackets, 2, (some .boolean), 2)
abbrev mX6_leaves : xM := (RX6, cX6_leaves, 8, (some .int), 1)
abbrev mX6_settles : xM := (RX6, cX6_settles, 3, none, 3)
abbrev mX6_loses : xM := (RX6, cX6_loses, 4, none, 1)
abbrev mX6_early : xM := (RX6, cX6_early, 6, (some .int), 5)
abbrev mX6_lessens : xM := (RX6, cX6_lessens, 6, none, 1)
abbrev mX6_decides : xM := (RX6, cX6_decides, 6, (some .int), 7)
abbrev mX6_pushes : xM := (RX6, cX6_pushes, 11, (some .boolean), 6)
abbrev mX6_counts : xM := (RX6, cX6_counts, 7, none, 5)
abbrev mX6_removesVictims : xM := (RX6, cX6_removesVictims, 5, none, 4)
abbrev mX6_arrives : xM := (RX6, cX6_arrives, 5, (some .int), 8)
abbrev mX6_arrive : xM := (RX6, cX6_arrive, 4, (some .int), 9)
abbrev mX6_firstSize : xM := (RX6, cX6_firstSize, 2, (some .int), 1)
abbrev mX6_departs : xM := (RX6, cX6_departs, 4, none, 2)
abbrev mX6_sends : xM := (RX6, cX6_sends, 5, (some .int), 4)
abbrev mX6_tick : xM := (RX6, cX6_tick, 3, (some .int), 5)
abbrev mX6_ticking : xM := (RX6, cX6_ticking, 4, (some .int), 6)
abbrev mX6_ticks : xM := (RX6, cX6_ticks, 2, (some .int), 7)
abbrev mX6_flushes : xM := (RX6, cX6_flushes, 4, (some .int), 4)
abbrev mX6_flush : xM := (RX6, cX6_flush, 2, (some .int), 5)
abbrev mX6_traffic : xM := (RX6, cX6_traffic, 11, (some .int), 9)
abbrev mX6_freeShared : xM := (RX6, cX6_freeShared, 1, (some .int), 4)
abbrev mX6_sharedPool : xM := (RX6, cX6_sharedPool, 1, (some .int), 3)
abbrev mX6_freeGuarantee : xM := (RX6, cX6_freeGuarantee, 2, (some .int), 3)
abbrev mX6_ofPort : xM := (RX6, cX6_ofPort, 3, (some .int), 2)
abbrev mX6_ofQueue : xM := (RX6, cX6_ofQueue, 4, (some .int), 3)
abbrev mX6_grantOf : xM := (RX6, cX6_grantOf, 2, (some .int), 3)
abbrev mX6_threshold : xM := (RX6, cX6_threshold, 3, (some .int), 5)
abbrev mX6_guaranteedCells : xM := (RX6, cX6_guaranteedCells, 3, (some .int), 4)
abbrev mX6_sharedCells : xM := (RX6, cX6_sharedCells, 3, (some .int), 4)
abbrev mX6_headroomCells : xM := (RX6, cX6_headroomCells, 3, (some .int), 4)
abbrev mX6_burstTank : xM := (RX6, cX6_burstTank, 3, (some .int), 4)
abbrev mX6_isPaused : xM := (RX6, cX6_isPaused, 3, (some .int), 4)
abbrev mX6_pauses : xM := (RX6, cX6_pauses, 3, (some .int), 4)
abbrev mX6_credit : xM := (RX6, cX6_credit, 2, (some .int), 3)
abbrev mX6_deficit : xM := (RX6, cX6_deficit, 3, (some .int), 4)
abbrev mX6_losses : xM := (RX6, cX6_losses, 4, (some .int), 2)
abbrev mX6_lostCells : xM := (RX6, cX6_lostCells, 2, (some .int), 3)
abbrev mX6_lossCause : xM := (RX6, cX6_lossCause, 2, (some .int), 1)
abbrev mX6_departed : xM := (RX6, cX6_departed, 2, (some .int), 3)
abbrev mX6_admitted : xM := (RX6, cX6_admitted, 1, (some .int), 0)
abbrev mX6_time : xM := (RX6, cX6_time, 1, (some .int), 0)
abbrev mX6_queueLength : xM := (RX6, cX6_queueLength, 3, (some .int), 4)
abbrev mX6_packetAt : xM := (RX6, cX6_packetAt, 4, (some .int), 3)
abbrev mX6_fragments : xM := (RX6, cX6_fragments, 3, (some .int), 2)
abbrev mX6_ofFragment : xM := (RX6, cX6_ofFragment, 5, (some .int), 2)
abbrev mX6_fragmentStart : xM := (RX6, cX6_fragmentStart, 3, (some .int), 3)
abbrev mX6_fragmentLength : xM := (RX6, cX6_fragmentLength, 3, (some .int), 3)
abbrev mX6_freeRuns : xM := (RX6, cX6_freeRuns, 3, (some .int), 2)
abbrev mX6_beginOf : xM := (RX6, cX6_beginOf, 4, (some .int), 2)
abbrev mX6_runStart : xM := (RX6, cX6_runStart, 2, (some .int), 3)
abbrev mX6_runLength : xM := (RX6, cX6_runLength, 3, (some .int), 3)
abbrev mX6_stageFor : xM := (RX6, cX6_stageFor, 5, (some .int), 8)
abbrev mX6_largestAdmissible : xM := (RX6, cX6_largestAdmissible, 4, (some .int), 8)
abbrev mX6_burstCapacity : xM := (RX6, cX6_burstCapacity, 7, (some .int), 8)
abbrev mX6_drainTicks : xM := (RX6, cX6_drainTicks, 3, (some .int), 5)
abbrev mX6_equilibrium : xM := (RX6, cX6_equilibrium, 8, (some .int), 3)
abbrev mX6_append : xM := (RX6, cX6_append, 2, (some .int), 1)
abbrev mX6_clearText : xM := (RX6, cX6_clearText, 2, (some .int), 0)
abbrev mX6_here : xM := (RX6, cX6_here, 1, (some .int), 0)
abbrev mX6_isDigit : xM := (RX6, cX6_isDigit, 1, (some .boolean), 1)
abbrev mX6_faults : xM := (RX6, cX6_faults, 2, none, 0)
abbrev mX6_digit : xM := (RX6, cX6_digit, 3, (some .int), 2)
abbrev mX6_number : xM := (RX6, cX6_number, 5, (some .int), 2)
abbrev mX6_sign : xM := (RX6, cX6_sign, 2, none, 1)
abbrev mX6_order : xM := (RX6, cX6_order, 7, none, 9)
abbrev mX6_ends : xM := (RX6, cX6_ends, 1, none, 2)
abbrev mX6_acts : xM := (RX6, cX6_acts, 1, (some .boolean), 0)
abbrev mX6_reads : xM := (RX6, cX6_reads, 2, none, 10)
abbrev mX6_faultPosition : xM := (RX6, cX6_faultPosition, 1, (some .int), 11)
abbrev mX6_run : xM := (RX6, cX6_run, 1, (some .int), 11)
abbrev mX6_save : xM := (RX6, cX6_save, 3, (some .int), 1)
abbrev mX6_restore : xM := (RX6, cX6_restore, 3, (some .int), 1)
abbrev mX6_sumOf : xM := (RX6, cX6_sumOf, 4, (some .long), 0)
abbrev mX6_sumOfQueue : xM := (RX6, cX6_sumOfQueue, 9, (some .long), 1)
abbrev mX6_checksum : xM := (RX6, cX6_checksum, 5, (some .long), 4)
theorem fl_X0_12 : xFl RX0 12 0 0 := ⟨(0, 13), RX0, TX0, 13, rfl, Nat.le_of_ble_eq_true rfl, rfl, Nat.le_of_ble_eq_true rfl, inxX0, (xT_t1 (List.mem_of_getElem? (i := 217) rfl) rfl)⟩
theorem fl_X0_20 : xFl RX0 20 0 1 := ⟨(0, 13), RX0, TX0, 13, rfl, Nat.le_of_ble_eq_true rfl, rfl, Nat.le_of_ble_eq_true rfl, inxX0, (xT_t1 (List.mem_of_getElem? (i := 219) rfl) rfl)⟩
theorem fl_X0_25 : xFl RX0 25 0 8 := ⟨(0, 13), RX0, TX0, 13, rfl, Nat.le_of_ble_eq_true rfl, rfl, Nat.le_of_ble_eq_true rfl, inxX0, (xT_t1 (List.mem_of_getElem? (i := 231) rfl) rfl)⟩
theorem fl_X0_29 : xFl RX0 29 0 11 := ⟨(0, 13), RX0, TX0, 13, rfl, Nat.le_of_ble_eq_true rfl, rfl, Nat.le_of_ble_eq_true rfl, inxX0, (xT_t1 (List.mem_of_getElem? (i := 237) rfl) rfl)⟩
theorem fl_X0_38 : xFl RX0 38 0 2 := ⟨(0, 13), RX0, TX0, 13, rfl, Nat.le_of_ble_eq_true rfl, rfl, Nat.le_of_ble_eq_true rfl, inxX0, (xT_t1 (List.mem_of_getElem? (i := 221) rfl) rfl)⟩
theorem fl_X0_42 : xFl RX0 42 0 3 := ⟨(0, 13), RX0, TX0, 13, rfl, Nat.le_of_ble_eq_true rfl, rfl, Nat.le_of_ble_eq_true rfl, inxX0, (xT_t1 (List.mem_of_getElem? (i := 223) rfl) rfl)⟩
theorem fl_X0_46 : xFl RX0 46 0 4 := ⟨(0, 13), RX0, TX0, 13, rfl, Nat.le_of_ble_eq_true rfl, rfl, Nat.le_of_ble_eq_true rfl, inxX0, (xT_t1 (List.mem_of_getElem? (i := 225) rfl) rfl)⟩
theorem fl_X0_49 : xFl RX0 49 0 5 := ⟨(0, 13), RX0, TX0, 13, rfl, Nat.le_of_ble_eq_true rfl, rfl, Nat.le_of_ble_eq_true rfl, inxX0, (xT_t1 (List.mem_of_getElem? (i := 227) rfl) rfl)⟩
theorem fl_X0_52 : xFl RX0 52 0 6 := ⟨(0, 13), RX0, TX0, 13, rfl, Nat.le_of_ble_eq_true rfl, rfl, Nat.le_of_ble_eq_true rfl, inxX0, (xT_t1 (List.mem_of_getElem? (i := 229) rfl) rfl)⟩
theorem fl_X0_55 : xFl RX0 55 0 7 := ⟨(0, 13), RX0, TX0, 13, rfl, Nat.le_of_ble_eq_true rfl, rfl, Nat.le_of_ble_eq_true rfl, inxX0, (xT_t1 (List.mem_of_getElem? (i := 230) rfl) rfl)⟩
theorem fl_X0_58 : xFl RX0 58 0 9 := ⟨(0, 13), RX0, TX0, 13, rfl, Nat.le_of_ble_eq_true rfl, rfl, Nat.le_of_ble_eq_true rfl, inxX0, (xT_t1 (List.mem_of_getElem? (i := 233) rfl) rfl)⟩
theorem fl_X0_74 : xFl RX0 74 13 0 := ⟨(2, 12), RX2, TX2, 12, rfl, Nat.le_of_ble_eq_true rfl, rfl, Nat.le_of_ble_eq_true rfl, inxX2, (xT_t1 (List.mem_of_getElem? (i := 162) rfl) rfl)⟩
theorem fl_X0_78 : xFl RX0 78 1 0 := ⟨(1, 9), RX1, TX1, 9, rfl, Nat.le_of_ble_eq_true rfl, rfl, Nat.le_of_ble_eq_true rfl, inxX1, (xT_t1 (List.mem_of_getElem? (i := 32) rfl) rfl)⟩
theorem fl_X0_81 : xFl RX0 81 13 2 := ⟨(2, 12), RX2, TX2, 12, rfl, Nat.le_of_ble_eq_true rfl, rfl, Nat.le_of_ble_eq_true rfl, inxX2, (xT_t1 (List.mem_of_getElem? (i := 168) rfl) rfl)⟩
theorem fl_X0_84 : xFl RX0 84 13 4 := ⟨(2, 12), RX2, TX2, 12, rfl, Nat.le_of_ble_eq_true rfl, rfl, Nat.le_of_ble_eq_true rfl, inxX2, (xT_t1 (List.mem_of_getElem? (i := 173) rfl) rfl)⟩
theorem fl_X0_87 : xFl RX0 87 13 3 := ⟨(2, 12), RX2, TX2, 12, rfl, Nat.le_of_ble_eq_true rfl, rfl, Nat.le_of_ble_eq_true rfl, inxX2, (xT_t1 (List.mem_of_getElem? (i := 171) rfl) rfl)⟩
theorem fl_X0_129 : xFl RX0 129 0 10 := ⟨(0, 13), RX0, TX0, 13, rfl, Nat.le_of_ble_eq_true rfl, rfl, Nat.le_of_ble_eq_true rfl, inxX0, (xT_t1 (List.mem_of_getElem? (i := 235) rfl) rfl)⟩
theorem fl_X0_132 : xFl RX0 132 0 12 := ⟨(0, 13), RX0, TX0, 13, rfl, Nat.le_of_ble_eq_true rfl, rfl, Nat.le_of_ble_eq_true rfl, inxX0, (xT_t1 (List.mem_of_getElem? (i := 238) rfl) rfl)⟩
theorem fl_X0_148 : xFl RX0 148 16 7 := ⟨(3, 16), RX3, TX3, 16, rfl, Nat.le_of_ble_eq_true rfl, rfl, Nat.le_of_ble_eq_true rfl, inxX3, (xT_t1 (List.mem_of_getElem? (i := 98) rfl) rfl)⟩
theorem fl_X0_154 : xFl RX0 154 16 0 := ⟨(3, 16), RX3, TX3, 16, rfl, Nat.le_of_ble_eq_true rfl, rfl, Nat.le_of_ble_eq_true rfl, inxX3, (xT_t1 (List.mem_of_getElem? (i := 78) rfl) rfl)⟩
theorem fl_X0_157 : xFl RX0 157 16 12 := ⟨(3, 16), RX3, TX3, 16, rfl, Nat.le_of_ble_eq_true rfl, rfl, Nat.le_of_ble_eq_true rfl, inxX3, (xT_t1 (List.mem_of_getElem? (i := 115) rfl) rfl)⟩
theorem fl_X0_160 : xFl RX0 160 16 11 := ⟨(3, 16), RX3, TX3, 16, rfl, Nat.le_of_ble_eq_true rfl, rfl, Nat.le_of_ble_eq_true rfl, inxX3, (xT_t1 (List.mem_of_getElem? (i := 110) rfl) rfl)⟩
theorem fl_X0_163 : xFl RX0 163 16 14 := ⟨(3, 16), RX3, TX3, 16, rfl, Nat.le_of_ble_eq_true rfl, rfl, Nat.le_of_ble_eq_true rfl, inxX3, (xT_t1 (List.mem_of_getElem? (i := 121) rfl) rfl)⟩
theorem fl_X0_166 : xFl RX0 166 16 15 := ⟨(3, 16), RX3, TX3, 16, rfl, Nat.le_of_ble_eq_true rfl, rfl, Nat.le_of_ble_eq_true rfl, inxX3, (xT_t1 (List.mem_of_getElem? (i := 125) rfl) rfl)⟩
theorem fl_X0_206 : xFl RX0 206 16 10 := ⟨(3, 16), RX3, TX3, 16, rfl, Nat.le_of_ble_eq_true rfl, rfl, Nat.le_of_ble_eq_true rfl, inxX3, (xT_t1 (List.mem_of_getElem? (i := 106) rfl) rfl)⟩
theorem fl_X0_218 : xFl RX0 218 16 6 := ⟨(3, 16), RX3, TX3, 16, rfl, Nat.le_of_ble_eq_true rfl, rfl, Nat.le_of_ble_eq_true rfl, inxX3, (xT_t1 (List.mem_of_getElem? (i := 94) rfl) rfl)⟩
theorem fl_X0_228 : xFl RX0 228 16 13 := ⟨(3, 16), RX3, TX3, 16, rfl, Nat.le_of_ble_eq_true rfl, rfl, Nat.le_of_ble_eq_true rfl, inxX3, (xT_t1 (List.mem_of_getElem? (i := 117) rfl) rfl)⟩
theorem fl_X0_235 : xFl RX0 235 16 2 := ⟨(3, 16), RX3, TX3, 16, rfl, Nat.le_of_ble_eq_true rfl, rfl, Nat.le_of_ble_eq_true rfl, inxX3, (xT_t1 (List.mem_of_getElem? (i := 83) rfl) rfl)⟩
theorem fl_X0_238 : xFl RX0 238 16 4 := ⟨(3, 16), RX3, TX3, 16, rfl, Nat.le_of_ble_eq_true rfl, rfl, Nat.le_of_ble_eq_true rfl, inxX3, (xT_t1 (List.mem_of_getElem? (i := 89) rfl) rfl)⟩
theorem fl_X0_241 : xFl RX0 241 16 3 := ⟨(3, 16), RX3, TX3, 16, rfl, Nat.le_of_ble_eq_true rfl, rfl, Nat.le_of_ble_eq_true rfl, inxX3, (xT_t1 (List.mem_of_getElem? (i := 86) rfl) rfl)⟩
theorem fl_X0_247 : xFl RX0 247 16 8 := ⟨(3, 16), RX3, TX3, 16, rfl, Nat.le_of_ble_eq_true rfl, rfl, Nat.le_of_ble_eq_true rfl, inxX3, (xT_t1 (List.mem_of_getElem? (i := 101) rfl) rfl)⟩
theorem fl_X0_250 : xFl RX0 250 13 7 := ⟨(2, 12), RX2, TX2, 12, rfl, Nat.le_of_ble_eq_true rfl, rfl, Nat.le_of_ble_eq_true rfl, inxX2, (xT_t1 (List.mem_of_getElem? (i := 182) rfl) rfl)⟩
theorem fl_X0_253 : xFl RX0 253 13 6 := ⟨(2, 12), RX2, TX2, 12, rfl, Nat.le_of_ble_eq_true rfl, rfl, Nat.le_of_ble_eq_true rfl, inxX2, (xT_t1 (List.mem_of_getElem? (i := 180) rfl) rfl)⟩
theorem fl_X0_256 : xFl RX0 256 13 5 := ⟨(2, 12), RX2, TX2, 12, rfl, Nat.le_of_ble_eq_true rfl, rfl, Nat.le_of_ble_eq_true rfl, inxX2, (xT_t1 (List.mem_of_getElem? (i := 177) rfl) rfl)⟩
theorem fl_X0_265 : xFl RX0 265 13 11 := ⟨(2, 12), RX2, TX2, 12, rfl, Nat.le_of_ble_eq_true rfl, rfl, Nat.le_of_ble_eq_true rfl, inxX2, (xT_t1 (List.mem_of_getElem? (i := 190) rfl) rfl)⟩
theorem fl_X0_279 : xFl RX0 279 13 9 := ⟨(2, 12), RX2, TX2, 12, rfl, Nat.le_of_ble_eq_true rfl, rfl, Nat.le_of_ble_eq_true rfl, inxX2, (xT_t1 (List.mem_of_getElem? (i := 186) rfl) rfl)⟩
theorem fl_X0_282 : xFl RX0 282 16 5 := ⟨(3, 16), RX3, TX3, 16, rfl, Nat.le_of_ble_eq_true rfl, rfl, Nat.le_of_ble_eq_true rfl, inxX3, (xT_t1 (List.mem_of_getElem? (i := 92) rfl) rfl)⟩
theorem fl_X1_9 : xFl RX1 9 1 1 := ⟨(1, 9), RX1, TX1, 9, rfl, Nat.le_of_ble_eq_true rfl, rfl, Nat.le_of_ble_eq_true rfl, inxX1, (xT_t1 (List.mem_of_getElem? (i := 33) rfl) rfl)⟩
theorem fl_X1_15 : xFl RX1 15 1 2 := ⟨(1, 9), RX1, TX1, 9, rfl, Nat.le_of_ble_eq_true rfl, rfl, Nat.le_of_ble_eq_true rfl, inxX1, (xT_t1 (List.mem_of_getElem? (i := 34) rfl) rfl)⟩
theorem fl_X1_19 : xFl RX1 19 1 3 := ⟨(1, 9), RX1, TX1, 9, rfl, Nat.le_of_ble_eq_true rfl, rfl, Nat.le_of_ble_eq_true rfl, inxX1, (xT_t1 (List.mem_of_getElem? (i := 36) rfl) rfl)⟩
theorem fl_X1_22 : xFl RX1 22 1 4 := ⟨(1, 9), RX1, TX1, 9, rfl, Nat.le_of_ble_eq_true rfl, rfl, Nat.le_of_ble_eq_true rfl, inxX1, (xT_t1 (List.mem_of_getElem? (i := 37) rfl) rfl)⟩
theorem fl_X1_25 : xFl RX1 25 1 5 := ⟨(1, 9), RX1, TX1, 9, rfl, Nat.le_of_ble_eq_true rfl, rfl, Nat.le_of_ble_eq_true rfl, inxX1, (xT_t1 (List.mem_of_getElem? (i := 38) rfl) rfl)⟩
theorem fl_X1_28 : xFl RX1 28 1 6 := ⟨(1, 9), RX1, TX1, 9, rfl, Nat.le_of_ble_eq_true rfl, rfl, Nat.le_of_ble_eq_true rfl, inxX1, (xT_t1 (List.mem_of_getElem? (i := 39) rfl) rfl)⟩
theorem fl_X1_31 : xFl RX1 31 1 7 := ⟨(1, 9), RX1, TX1, 9, rfl, Nat.le_of_ble_eq_true rfl, rfl, Nat.le_of_ble_eq_true rfl, inxX1, (xT_t1 (List.mem_of_getElem? (i := 40) rfl) rfl)⟩
theorem fl_X1_34 : xFl RX1 34 1 8 := ⟨(1, 9), RX1, TX1, 9, rfl, Nat.le_of_ble_eq_true rfl, rfl, Nat.le_of_ble_eq_true rfl, inxX1, (xT_t1 (List.mem_of_getElem? (i := 41) rfl) rfl)⟩
theorem fl_X1_37 : xFl RX1 37 1 0 := ⟨(1, 9), RX1, TX1, 9, rfl, Nat.le_of_ble_eq_true rfl, rfl, Nat.le_of_ble_eq_true rfl, inxX1, (xT_t1 (List.mem_of_getElem? (i := 30) rfl) rfl)⟩
theorem fl_X1_84 : xFl RX1 84 16 14 := ⟨(3, 16), RX3, TX3, 16, rfl, Nat.le_of_ble_eq_true rfl, rfl, Nat.le_of_ble_eq_true rfl, inxX3, (xT_t1 (List.mem_of_getElem? (i := 122) rfl) rfl)⟩
theorem fl_X1_89 : xFl RX1 89 16 13 := ⟨(3, 16), RX3, TX3, 16, rfl, Nat.le_of_ble_eq_true rfl, rfl, Nat.le_of_ble_eq_true rfl, inxX3, (xT_t1 (List.mem_of_getElem? (i := 118) rfl) rfl)⟩
theorem fl_X1_92 : xFl RX1 92 16 15 := ⟨(3, 16), RX3, TX3, 16, rfl, Nat.le_of_ble_eq_true rfl, rfl, Nat.le_of_ble_eq_true rfl, inxX3, (xT_t1 (List.mem_of_getElem? (i := 126) rfl) rfl)⟩
theorem fl_X2_11 : xFl RX2 11 13 0 := ⟨(2, 12), RX2, TX2, 12, rfl, Nat.le_of_ble_eq_true rfl, rfl, Nat.le_of_ble_eq_true rfl, inxX2, (xT_t1 (List.mem_of_getElem? (i := 161) rfl) rfl)⟩
theorem fl_X2_20 : xFl RX2 20 13 1 := ⟨(2, 12), RX2, TX2, 12, rfl, Nat.le_of_ble_eq_true rfl, rfl, Nat.le_of_ble_eq_true rfl, inxX2, (xT_t1 (List.mem_of_getElem? (i := 164) rfl) rfl)⟩
theorem fl_X2_27 : xFl RX2 27 13 2 := ⟨(2, 12), RX2, TX2, 12, rfl, Nat.le_of_ble_eq_true rfl, rfl, Nat.le_of_ble_eq_true rfl, inxX2, (xT_t1 (List.mem_of_getElem? (i := 166) rfl) rfl)⟩
theorem fl_X2_31 : xFl RX2 31 13 3 := ⟨(2, 12), RX2, TX2, 12, rfl, Nat.le_of_ble_eq_true rfl, rfl, Nat.le_of_ble_eq_true rfl, inxX2, (xT_t1 (List.mem_of_getElem? (i := 169) rfl) rfl)⟩
theorem fl_X2_34 : xFl RX2 34 13 4 := ⟨(2, 12), RX2, TX2, 12, rfl, Nat.le_of_ble_eq_true rfl, rfl, Nat.le_of_ble_eq_true rfl, inxX2, (xT_t1 (List.mem_of_getElem? (i := 172) rfl) rfl)⟩
theorem fl_X2_37 : xFl RX2 37 13 5 := ⟨(2, 12), RX2, TX2, 12, rfl, Nat.le_of_ble_eq_true rfl, rfl, Nat.le_of_ble_eq_true rfl, inxX2, (xT_t1 (List.mem_of_getElem? (i := 175) rfl) rfl)⟩
theorem fl_X2_41 : xFl RX2 41 13 6 := ⟨(2, 12), RX2, TX2, 12, rfl, Nat.le_of_ble_eq_true rfl, rfl, Nat.le_of_ble_eq_true rfl, inxX2, (xT_t1 (List.mem_of_getElem? (i := 178) rfl) rfl)⟩
theorem fl_X2_47 : xFl RX2 47 13 10 := ⟨(2, 12), RX2, TX2, 12, rfl, Nat.le_of_ble_eq_true rfl, rfl, Nat.le_of_ble_eq_true rfl, inxX2, (xT_t1 (List.mem_of_getElem? (i := 187) rfl) rfl)⟩
theorem fl_X2_50 : xFl RX2 50 13 11 := ⟨(2, 12), RX2, TX2, 12, rfl, Nat.le_of_ble_eq_true rfl, rfl, Nat.le_of_ble_eq_true rfl, inxX2, (xT_t1 (List.mem_of_getElem? (i := 189) rfl) rfl)⟩
theorem fl_X2_63 : xFl RX2 63 13 7 := ⟨(2, 12), RX2, TX2, 12, rfl, Nat.le_of_ble_eq_true rfl, rfl, Nat.le_of_ble_eq_true rfl, inxX2, (xT_t1 (List.mem_of_getElem? (i := 181) rfl) rfl)⟩
theorem fl_X2_66 : xFl RX2 66 13 8 := ⟨(2, 12), RX2, TX2, 12, rfl, Nat.le_of_ble_eq_true rfl, rfl, Nat.le_of_ble_eq_true rfl, inxX2, (xT_t1 (List.mem_of_getElem? (i := 184) rfl) rfl)⟩
theorem fl_X2_69 : xFl RX2 69 13 9 := ⟨(2, 12), RX2, TX2, 12, rfl, Nat.le_of_ble_eq_true rfl, rfl, Nat.le_of_ble_eq_true rfl, inxX2, (xT_t1 (List.mem_of_getElem? (i := 185) rfl) rfl)⟩
theorem fl_X2_72 : xFl RX2 72 16 10 := ⟨(3, 16), RX3, TX3, 16, rfl, Nat.le_of_ble_eq_true rfl, rfl, Nat.le_of_ble_eq_true rfl, inxX3, (xT_t1 (List.mem_of_getElem? (i := 105) rfl) rfl)⟩
theorem fl_X2_75 : xFl RX2 75 16 11 := ⟨(3, 16), RX3, TX3, 16, rfl, Nat.le_of_ble_eq_true rfl, rfl, Nat.le_of_ble_eq_true rfl, inxX3, (xT_t1 (List.mem_of_getElem? (i := 109) rfl) rfl)⟩
theorem fl_X2_78 : xFl RX2 78 16 12 := ⟨(3, 16), RX3, TX3, 16, rfl, Nat.le_of_ble_eq_true rfl, rfl, Nat.le_of_ble_eq_true rfl, inxX3, (xT_t1 (List.mem_of_getElem? (i := 113) rfl) rfl)⟩
theorem fl_X2_85 : xFl RX2 85 16 15 := ⟨(3, 16), RX3, TX3, 16, rfl, Nat.le_of_ble_eq_true rfl, rfl, Nat.le_of_ble_eq_true rfl, inxX3, (xT_t1 (List.mem_of_getElem? (i := 124) rfl) rfl)⟩
theorem fl_X3_15 : xFl RX3 15 16 1 := ⟨(3, 16), RX3, TX3, 16, rfl, Nat.le_of_ble_eq_true rfl, rfl, Nat.le_of_ble_eq_true rfl, inxX3, (xT_t1 (List.mem_of_getElem? (i := 79) rfl) rfl)⟩
theorem fl_X3_18 : xFl RX3 18 16 2 := ⟨(3, 16), RX3, TX3, 16, rfl, Nat.le_of_ble_eq_true rfl, rfl, Nat.le_of_ble_eq_true rfl, inxX3, (xT_t1 (List.mem_of_getElem? (i := 81) rfl) rfl)⟩
theorem fl_X3_21 : xFl RX3 21 16 3 := ⟨(3, 16), RX3, TX3, 16, rfl, Nat.le_of_ble_eq_true rfl, rfl, Nat.le_of_ble_eq_true rfl, inxX3, (xT_t1 (List.mem_of_getElem? (i := 84) rfl) rfl)⟩
theorem fl_X3_24 : xFl RX3 24 16 4 := ⟨(3, 16), RX3, TX3, 16, rfl, Nat.le_of_ble_eq_true rfl, rfl, Nat.le_of_ble_eq_true rfl, inxX3, (xT_t1 (List.mem_of_getElem? (i := 87) rfl) rfl)⟩
theorem fl_X3_27 : xFl RX3 27 16 5 := ⟨(3, 16), RX3, TX3, 16, rfl, Nat.le_of_ble_eq_true rfl, rfl, Nat.le_of_ble_eq_true rfl, inxX3, (xT_t1 (List.mem_of_getElem? (i := 90) rfl) rfl)⟩
theorem fl_X3_30 : xFl RX3 30 16 6 := ⟨(3, 16), RX3, TX3, 16, rfl, Nat.le_of_ble_eq_true rfl, rfl, Nat.le_of_ble_eq_true rfl, inxX3, (xT_t1 (List.mem_of_getElem? (i := 93) rfl) rfl)⟩
theorem fl_X3_33 : xFl RX3 33 16 7 := ⟨(3, 16), RX3, TX3, 16, rfl, Nat.le_of_ble_eq_true rfl, rfl, Nat.le_of_ble_eq_true rfl, inxX3, (xT_t1 (List.mem_of_getElem? (i := 96) rfl) rfl)⟩
theorem fl_X3_37 : xFl RX3 37 16 8 := ⟨(3, 16), RX3, TX3, 16, rfl, Nat.le_of_ble_eq_true rfl, rfl, Nat.le_of_ble_eq_true rfl, inxX3, (xT_t1 (List.mem_of_getElem? (i := 99) rfl) rfl)⟩
theorem fl_X3_40 : xFl RX3 40 16 9 := ⟨(3, 16), RX3, TX3, 16, rfl, Nat.le_of_ble_eq_true rfl, rfl, Nat.le_of_ble_eq_true rfl, inxX3, (xT_t1 (List.mem_of_getElem? (i := 102) rfl) rfl)⟩
theorem fl_X3_43 : xFl RX3 43 16 10 := ⟨(3, 16), RX3, TX3, 16, rfl, Nat.le_of_ble_eq_true rfl, rfl, Nat.le_of_ble_eq_true rfl, inxX3, (xT_t1 (List.mem_of_getElem? (i := 104) rfl) rfl)⟩
theorem fl_X3_46 : xFl RX3 46 16 11 := ⟨(3, 16), RX3, TX3, 16, rfl, Nat.le_of_ble_eq_true rfl, rfl, Nat.le_of_ble_eq_true rfl, inxX3, (xT_t1 (List.mem_of_getElem? (i := 108) rfl) rfl)⟩
theorem fl_X3_49 : xFl RX3 49 16 12 := ⟨(3, 16), RX3, TX3, 16, rfl, Nat.le_of_ble_eq_true rfl, rfl, Nat.le_of_ble_eq_true rfl, inxX3, (xT_t1 (List.mem_of_getElem? (i := 112) rfl) rfl)⟩
theorem fl_X3_52 : xFl RX3 52 16 13 := ⟨(3, 16), RX3, TX3, 16, rfl, Nat.le_of_ble_eq_true rfl, rfl, Nat.le_of_ble_eq_true rfl, inxX3, (xT_t1 (List.mem_of_getElem? (i := 116) rfl) rfl)⟩
theorem fl_X3_55 : xFl RX3 55 16 14 := ⟨(3, 16), RX3, TX3, 16, rfl, Nat.le_of_ble_eq_true rfl, rfl, Nat.le_of_ble_eq_true rfl, inxX3, (xT_t1 (List.mem_of_getElem? (i := 120) rfl) rfl)⟩
theorem fl_X3_58 : xFl RX3 58 16 15 := ⟨(3, 16), RX3, TX3, 16, rfl, Nat.le_of_ble_eq_true rfl, rfl, Nat.le_of_ble_eq_true rfl, inxX3, (xT_t1 (List.mem_of_getElem? (i := 123) rfl) rfl)⟩
theorem fl_X4_9 : xFl RX4 9 23 0 := ⟨(4, 9), RX4, TX4, 9, rfl, Nat.le_of_ble_eq_true rfl, rfl, Nat.le_of_ble_eq_true rfl, inxX4, (xT_t2 (List.mem_of_getElem? (i := 33) rfl) rfl)⟩
theorem fl_X4_15 : xFl RX4 15 23 2 := ⟨(4, 9), RX4, TX4, 9, rfl, Nat.le_of_ble_eq_true rfl, rfl, Nat.le_of_ble_eq_true rfl, inxX4, (xT_t2 (List.mem_of_getElem? (i := 37) rfl) rfl)⟩
theorem fl_X4_19 : xFl RX4 19 23 3 := ⟨(4, 9), RX4, TX4, 9, rfl, Nat.le_of_ble_eq_true rfl, rfl, Nat.le_of_ble_eq_true rfl, inxX4, (xT_t2 (List.mem_of_getElem? (i := 38) rfl) rfl)⟩
theorem fl_X4_22 : xFl RX4 22 23 1 := ⟨(4, 9), RX4, TX4, 9, rfl, Nat.le_of_ble_eq_true rfl, rfl, Nat.le_of_ble_eq_true rfl, inxX4, (xT_t2 (List.mem_of_getElem? (i := 35) rfl) rfl)⟩
theorem fl_X4_36 : xFl RX4 36 23 4 := ⟨(4, 9), RX4, TX4, 9, rfl, Nat.le_of_ble_eq_true rfl, rfl, Nat.le_of_ble_eq_true rfl, inxX4, (xT_t2 (List.mem_of_getElem? (i := 39) rfl) rfl)⟩
theorem fl_X4_39 : xFl RX4 39 23 5 := ⟨(4, 9), RX4, TX4, 9, rfl, Nat.le_of_ble_eq_true rfl, rfl, Nat.le_of_ble_eq_true rfl, inxX4, (xT_t2 (List.mem_of_getElem? (i := 41) rfl) rfl)⟩
theorem fl_X4_42 : xFl RX4 42 23 8 := ⟨(4, 9), RX4, TX4, 9, rfl, Nat.le_of_ble_eq_true rfl, rfl, Nat.le_of_ble_eq_true rfl, inxX4, (xT_t2 (List.mem_of_getElem? (i := 47) rfl) rfl)⟩
theorem fl_X4_49 : xFl RX4 49 23 6 := ⟨(4, 9), RX4, TX4, 9, rfl, Nat.le_of_ble_eq_true rfl, rfl, Nat.le_of_ble_eq_true rfl, inxX4, (xT_t2 (List.mem_of_getElem? (i := 43) rfl) rfl)⟩
theorem fl_X4_56 : xFl RX4 56 23 7 := ⟨(4, 9), RX4, TX4, 9, rfl, Nat.le_of_ble_eq_true rfl, rfl, Nat.le_of_ble_eq_true rfl, inxX4, (xT_t2 (List.mem_of_getElem? (i := 45) rfl) rfl)⟩
theorem fl_X5_10 : xFl RX5 10 20 0 := ⟨(5, 5), RX5, TX5, 5, rfl, Nat.le_of_ble_eq_true rfl, rfl, Nat.le_of_ble_eq_true rfl, inxX5, (xT_t2 (List.mem_of_getElem? (i := 88) rfl) rfl)⟩
theorem fl_X5_16 : xFl RX5 16 20 1 := ⟨(5, 5), RX5, TX5, 5, rfl, Nat.le_of_ble_eq_true rfl, rfl, Nat.le_of_ble_eq_true rfl, inxX5, (xT_t2 (List.mem_of_getElem? (i := 89) rfl) rfl)⟩
theorem fl_X5_19 : xFl RX5 19 20 2 := ⟨(5, 5), RX5, TX5, 5, rfl, Nat.le_of_ble_eq_true rfl, rfl, Nat.le_of_ble_eq_true rfl, inxX5, (xT_t2 (List.mem_of_getElem? (i := 90) rfl) rfl)⟩
theorem fl_X5_23 : xFl RX5 23 20 3 := ⟨(5, 5), RX5, TX5, 5, rfl, Nat.le_of_ble_eq_true rfl, rfl, Nat.le_of_ble_eq_true rfl, inxX5, (xT_t2 (List.mem_of_getElem? (i := 91) rfl) rfl)⟩
theorem fl_X5_30 : xFl RX5 30 20 4 := ⟨(5, 5), RX5, TX5, 5, rfl, Nat.le_of_ble_eq_true rfl, rfl, Nat.le_of_ble_eq_true rfl, inxX5, (xT_t2 (List.mem_of_getElem? (i := 92) rfl) rfl)⟩
theorem fl_X5_42 : xFl RX5 42 0 0 := ⟨(0, 13), RX0, TX0, 13, rfl, Nat.le_of_ble_eq_true rfl, rfl, Nat.le_of_ble_eq_true rfl, inxX0, (xT_t1 (List.mem_of_getElem? (i := 218) rfl) rfl)⟩
theorem fl_X5_46 : xFl RX5 46 1 0 := ⟨(1, 9), RX1, TX1, 9, rfl, Nat.le_of_ble_eq_true rfl, rfl, Nat.le_of_ble_eq_true rfl, inxX1, (xT_t1 (List.mem_of_getElem? (i := 31) rfl) rfl)⟩
theorem fl_X5_56 : xFl RX5 56 13 2 := ⟨(2, 12), RX2, TX2, 12, rfl, Nat.le_of_ble_eq_true rfl, rfl, Nat.le_of_ble_eq_true rfl, inxX2, (xT_t1 (List.mem_of_getElem? (i := 167) rfl) rfl)⟩
theorem fl_X5_71 : xFl RX5 71 13 3 := ⟨(2, 12), RX2, TX2, 12, rfl, Nat.le_of_ble_eq_true rfl, rfl, Nat.le_of_ble_eq_true rfl, inxX2, (xT_t1 (List.mem_of_getElem? (i := 170) rfl) rfl)⟩
theorem fl_X5_78 : xFl RX5 78 16 1 := ⟨(3, 16), RX3, TX3, 16, rfl, Nat.le_of_ble_eq_true rfl, rfl, Nat.le_of_ble_eq_true rfl, inxX3, (xT_t1 (List.mem_of_getElem? (i := 80) rfl) rfl)⟩
theorem fl_X5_83 : xFl RX5 83 16 4 := ⟨(3, 16), RX3, TX3, 16, rfl, Nat.le_of_ble_eq_true rfl, rfl, Nat.le_of_ble_eq_true rfl, inxX3, (xT_t1 (List.mem_of_getElem? (i := 88) rfl) rfl)⟩
theorem fl_X5_86 : xFl RX5 86 16 2 := ⟨(3, 16), RX3, TX3, 16, rfl, Nat.le_of_ble_eq_true rfl, rfl, Nat.le_of_ble_eq_true rfl, inxX3, (xT_t1 (List.mem_of_getElem? (i := 82) rfl) rfl)⟩
theorem fl_X5_89 : xFl RX5 89 16 3 := ⟨(3, 16), RX3, TX3, 16, rfl, Nat.le_of_ble_eq_true rfl, rfl, Nat.le_of_ble_eq_true rfl, inxX3, (xT_t1 (List.mem_of_getElem? (i := 85) rfl) rfl)⟩
theorem fl_X5_92 : xFl RX5 92 16 12 := ⟨(3, 16), RX3, TX3, 16, rfl, Nat.le_of_ble_eq_true rfl, rfl, Nat.le_of_ble_eq_true rfl, inxX3, (xT_t1 (List.mem_of_getElem? (i := 114) rfl) rfl)⟩
theorem fl_X5_95 : xFl RX5 95 16 7 := ⟨(3, 16), RX3, TX3, 16, rfl, Nat.le_of_ble_eq_true rfl, rfl, Nat.le_of_ble_eq_true rfl, inxX3, (xT_t1 (List.mem_of_getElem? (i := 97) rfl) rfl)⟩
theorem fl_X5_103 : xFl RX5 103 16 8 := ⟨(3, 16), RX3, TX3, 16, rfl, Nat.le_of_ble_eq_true rfl, rfl, Nat.le_of_ble_eq_true rfl, inxX3, (xT_t1 (List.mem_of_getElem? (i := 100) rfl) rfl)⟩
theorem fl_X5_106 : xFl RX5 106 13 6 := ⟨(2, 12), RX2, TX2, 12, rfl, Nat.le_of_ble_eq_true rfl, rfl, Nat.le_of_ble_eq_true rfl, inxX2, (xT_t1 (List.mem_of_getElem? (i := 179) rfl) rfl)⟩
theorem fl_X5_109 : xFl RX5 109 13 5 := ⟨(2, 12), RX2, TX2, 12, rfl, Nat.le_of_ble_eq_true rfl, rfl, Nat.le_of_ble_eq_true rfl, inxX2, (xT_t1 (List.mem_of_getElem? (i := 176) rfl) rfl)⟩
theorem fl_X5_112 : xFl RX5 112 16 5 := ⟨(3, 16), RX3, TX3, 16, rfl, Nat.le_of_ble_eq_true rfl, rfl, Nat.le_of_ble_eq_true rfl, inxX3, (xT_t1 (List.mem_of_getElem? (i := 91) rfl) rfl)⟩
theorem fl_X5_115 : xFl RX5 115 0 3 := ⟨(0, 13), RX0, TX0, 13, rfl, Nat.le_of_ble_eq_true rfl, rfl, Nat.le_of_ble_eq_true rfl, inxX0, (xT_t1 (List.mem_of_getElem? (i := 224) rfl) rfl)⟩
theorem fl_X5_122 : xFl RX5 122 13 4 := ⟨(2, 12), RX2, TX2, 12, rfl, Nat.le_of_ble_eq_true rfl, rfl, Nat.le_of_ble_eq_true rfl, inxX2, (xT_t1 (List.mem_of_getElem? (i := 174) rfl) rfl)⟩
theorem fl_X5_140 : xFl RX5 140 0 2 := ⟨(0, 13), RX0, TX0, 13, rfl, Nat.le_of_ble_eq_true rfl, rfl, Nat.le_of_ble_eq_true rfl, inxX0, (xT_t1 (List.mem_of_getElem? (i := 222) rfl) rfl)⟩
theorem fl_X5_171 : xFl RX5 171 16 10 := ⟨(3, 16), RX3, TX3, 16, rfl, Nat.le_of_ble_eq_true rfl, rfl, Nat.le_of_ble_eq_true rfl, inxX3, (xT_t1 (List.mem_of_getElem? (i := 107) rfl) rfl)⟩
theorem fl_X5_174 : xFl RX5 174 16 11 := ⟨(3, 16), RX3, TX3, 16, rfl, Nat.le_of_ble_eq_true rfl, rfl, Nat.le_of_ble_eq_true rfl, inxX3, (xT_t1 (List.mem_of_getElem? (i := 111) rfl) rfl)⟩
theorem fl_X5_177 : xFl RX5 177 16 9 := ⟨(3, 16), RX3, TX3, 16, rfl, Nat.le_of_ble_eq_true rfl, rfl, Nat.le_of_ble_eq_true rfl, inxX3, (xT_t1 (List.mem_of_getElem? (i := 103) rfl) rfl)⟩
theorem fl_X5_180 : xFl RX5 180 13 7 := ⟨(2, 12), RX2, TX2, 12, rfl, Nat.le_of_ble_eq_true rfl, rfl, Nat.le_of_ble_eq_true rfl, inxX2, (xT_t1 (List.mem_of_getElem? (i := 183) rfl) rfl)⟩
theorem fl_X5_183 : xFl RX5 183 16 6 := ⟨(3, 16), RX3, TX3, 16, rfl, Nat.le_of_ble_eq_true rfl, rfl, Nat.le_of_ble_eq_true rfl, inxX3, (xT_t1 (List.mem_of_getElem? (i := 95) rfl) rfl)⟩
theorem fl_X5_186 : xFl RX5 186 13 1 := ⟨(2, 12), RX2, TX2, 12, rfl, Nat.le_of_ble_eq_true rfl, rfl, Nat.le_of_ble_eq_true rfl, inxX2, (xT_t1 (List.mem_of_getElem? (i := 165) rfl) rfl)⟩
theorem fl_X5_190 : xFl RX5 190 13 10 := ⟨(2, 12), RX2, TX2, 12, rfl, Nat.le_of_ble_eq_true rfl, rfl, Nat.le_of_ble_eq_true rfl, inxX2, (xT_t1 (List.mem_of_getElem? (i := 188) rfl) rfl)⟩
theorem fl_X5_193 : xFl RX5 193 0 9 := ⟨(0, 13), RX0, TX0, 13, rfl, Nat.le_of_ble_eq_true rfl, rfl, Nat.le_of_ble_eq_true rfl, inxX0, (xT_t1 (List.mem_of_getElem? (i := 234) rfl) rfl)⟩
theorem fl_X5_196 : xFl RX5 196 0 8 := ⟨(0, 13), RX0, TX0, 13, rfl, Nat.le_of_ble_eq_true rfl, rfl, Nat.le_of_ble_eq_true rfl, inxX0, (xT_t1 (List.mem_of_getElem? (i := 232) rfl) rfl)⟩
theorem fl_X5_199 : xFl RX5 199 13 11 := ⟨(2, 12), RX2, TX2, 12, rfl, Nat.le_of_ble_eq_true rfl, rfl, Nat.le_of_ble_eq_true rfl, inxX2, (xT_t1 (List.mem_of_getElem? (i := 191) rfl) rfl)⟩
theorem fl_X5_202 : xFl RX5 202 0 5 := ⟨(0, 13), RX0, TX0, 13, rfl, Nat.le_of_ble_eq_true rfl, rfl, Nat.le_of_ble_eq_true rfl, inxX0, (xT_t1 (List.mem_of_getElem? (i := 228) rfl) rfl)⟩
theorem fl_X5_205 : xFl RX5 205 0 4 := ⟨(0, 13), RX0, TX0, 13, rfl, Nat.le_of_ble_eq_true rfl, rfl, Nat.le_of_ble_eq_true rfl, inxX0, (xT_t1 (List.mem_of_getElem? (i := 226) rfl) rfl)⟩
theorem fl_X5_208 : xFl RX5 208 16 15 := ⟨(3, 16), RX3, TX3, 16, rfl, Nat.le_of_ble_eq_true rfl, rfl, Nat.le_of_ble_eq_true rfl, inxX3, (xT_t1 (List.mem_of_getElem? (i := 127) rfl) rfl)⟩
theorem fl_X5_211 : xFl RX5 211 16 13 := ⟨(3, 16), RX3, TX3, 16, rfl, Nat.le_of_ble_eq_true rfl, rfl, Nat.le_of_ble_eq_true rfl, inxX3, (xT_t1 (List.mem_of_getElem? (i := 119) rfl) rfl)⟩
theorem fl_X5_229 : xFl RX5 229 1 2 := ⟨(1, 9), RX1, TX1, 9, rfl, Nat.le_of_ble_eq_true rfl, rfl, Nat.le_of_ble_eq_true rfl, inxX1, (xT_t1 (List.mem_of_getElem? (i := 35) rfl) rfl)⟩
theorem fl_X5_245 : xFl RX5 245 0 10 := ⟨(0, 13), RX0, TX0, 13, rfl, Nat.le_of_ble_eq_true rfl, rfl, Nat.le_of_ble_eq_true rfl, inxX0, (xT_t1 (List.mem_of_getElem? (i := 236) rfl) rfl)⟩
theorem fl_X5_262 : xFl RX5 262 23 1 := ⟨(4, 9), RX4, TX4, 9, rfl, Nat.le_of_ble_eq_true rfl, rfl, Nat.le_of_ble_eq_true rfl, inxX4, (xT_t2 (List.mem_of_getElem? (i := 36) rfl) rfl)⟩
theorem fl_X5_263 : xFl RX5 263 23 0 := ⟨(4, 9), RX4, TX4, 9, rfl, Nat.le_of_ble_eq_true rfl, rfl, Nat.le_of_ble_eq_true rfl, inxX4, (xT_t2 (List.mem_of_getElem? (i := 34) rfl) rfl)⟩
theorem fl_X5_279 : xFl RX5 279 23 5 := ⟨(4, 9), RX4, TX4, 9, rfl, Nat.le_of_ble_eq_true rfl, rfl, Nat.le_of_ble_eq_true rfl, inxX4, (xT_t2 (List.mem_of_getElem? (i := 42) rfl) rfl)⟩
theorem fl_X5_282 : xFl RX5 282 23 4 := ⟨(4, 9), RX4, TX4, 9, rfl, Nat.le_of_ble_eq_true rfl, rfl, Nat.le_of_ble_eq_true rfl, inxX4, (xT_t2 (List.mem_of_getElem? (i := 40) rfl) rfl)⟩
theorem fl_X5_285 : xFl RX5 285 23 6 := ⟨(4, 9), RX4, TX4, 9, rfl, Nat.le_of_ble_eq_true rfl, rfl, Nat.le_of_ble_eq_true rfl, inxX4, (xT_t2 (List.mem_of_getElem? (i := 44) rfl) rfl)⟩
theorem fl_X5_288 : xFl RX5 288 23 7 := ⟨(4, 9), RX4, TX4, 9, rfl, Nat.le_of_ble_eq_true rfl, rfl, Nat.le_of_ble_eq_true rfl, inxX4, (xT_t2 (List.mem_of_getElem? (i := 46) rfl) rfl)⟩
theorem fl_X5_291 : xFl RX5 291 23 8 := ⟨(4, 9), RX4, TX4, 9, rfl, Nat.le_of_ble_eq_true rfl, rfl, Nat.le_of_ble_eq_true rfl, inxX4, (xT_t2 (List.mem_of_getElem? (i := 48) rfl) rfl)⟩
theorem fl_X5_298 : xFl RX5 298 0 1 := ⟨(0, 13), RX0, TX0, 13, rfl, Nat.le_of_ble_eq_true rfl, rfl, Nat.le_of_ble_eq_true rfl, inxX0, (xT_t1 (List.mem_of_getElem? (i := 220) rfl) rfl)⟩
theorem fl_X5_310 : xFl RX5 310 13 0 := ⟨(2, 12), RX2, TX2, 12, rfl, Nat.le_of_ble_eq_true rfl, rfl, Nat.le_of_ble_eq_true rfl, inxX2, (xT_t1 (List.mem_of_getElem? (i := 163) rfl) rfl)⟩
theorem fl_X6_7 : xFl RX6 7 30 0 := ⟨(6, 13), RX6, TX6, 13, rfl, Nat.le_of_ble_eq_true rfl, rfl, Nat.le_of_ble_eq_true rfl, inxX6, (xT_t4 (List.mem_of_getElem? (i := 189) rfl) rfl)⟩
theorem fl_X6_13 : xFl RX6 13 30 1 := ⟨(6, 13), RX6, TX6, 13, rfl, Nat.le_of_ble_eq_true rfl, rfl, Nat.le_of_ble_eq_true rfl, inxX6, (xT_t4 (List.mem_of_getElem? (i := 190) rfl) rfl)⟩
theorem fl_X6_16 : xFl RX6 16 30 2 := ⟨(6, 13), RX6, TX6, 13, rfl, Nat.le_of_ble_eq_true rfl, rfl, Nat.le_of_ble_eq_true rfl, inxX6, (xT_t4 (List.mem_of_getElem? (i := 191) rfl) rfl)⟩
theorem fl_X6_19 : xFl RX6 19 30 3 := ⟨(6, 13), RX6, TX6, 13, rfl, Nat.le_of_ble_eq_true rfl, rfl, Nat.le_of_ble_eq_true rfl, inxX6, (xT_t4 (List.mem_of_getElem? (i := 192) rfl) rfl)⟩
theorem fl_X6_23 : xFl RX6 23 30 4 := ⟨(6, 13), RX6, TX6, 13, rfl, Nat.le_of_ble_eq_true rfl, rfl, Nat.le_of_ble_eq_true rfl, inxX6, (xT_t4 (List.mem_of_getElem? (i := 193) rfl) rfl)⟩
theorem fl_X6_26 : xFl RX6 26 30 6 := ⟨(6, 13), RX6, TX6, 13, rfl, Nat.le_of_ble_eq_true rfl, rfl, Nat.le_of_ble_eq_true rfl, inxX6, (xT_t4 (List.mem_of_getElem? (i := 195) rfl) rfl)⟩
theorem fl_X6_29 : xFl RX6 29 30 8 := ⟨(6, 13), RX6, TX6, 13, rfl, Nat.le_of_ble_eq_true rfl, rfl, Nat.le_of_ble_eq_true rfl, inxX6, (xT_t4 (List.mem_of_getElem? (i := 197) rfl) rfl)⟩
theorem fl_X6_125 : xFl RX6 125 30 7 := ⟨(6, 13), RX6, TX6, 13, rfl, Nat.le_of_ble_eq_true rfl, rfl, Nat.le_of_ble_eq_true rfl, inxX6, (xT_t4 (List.mem_of_getElem? (i := 196) rfl) rfl)⟩
theorem fl_X6_199 : xFl RX6 199 30 5 := ⟨(6, 13), RX6, TX6, 13, rfl, Nat.le_of_ble_eq_true rfl, rfl, Nat.le_of_ble_eq_true rfl, inxX6, (xT_t4 (List.mem_of_getElem? (i := 194) rfl) rfl)⟩
theorem fl_X6_202 : xFl RX6 202 30 9 := ⟨(6, 13), RX6, TX6, 13, rfl, Nat.le_of_ble_eq_true rfl, rfl, Nat.le_of_ble_eq_true rfl, inxX6, (xT_t4 (List.mem_of_getElem? (i := 198) rfl) rfl)⟩
theorem fl_X6_208 : xFl RX6 208 30 10 := ⟨(6, 13), RX6, TX6, 13, rfl, Nat.le_of_ble_eq_true rfl, rfl, Nat.le_of_ble_eq_true rfl, inxX6, (xT_t4 (List.mem_of_getElem? (i := 199) rfl) rfl)⟩
theorem fl_X6_230 : xFl RX6 230 30 12 := ⟨(6, 13), RX6, TX6, 13, rfl, Nat.le_of_ble_eq_true rfl, rfl, Nat.le_of_ble_eq_true rfl, inxX6, (xT_t4 (List.mem_of_getElem? (i := 201) rfl) rfl)⟩
theorem fl_X6_239 : xFl RX6 239 30 11 := ⟨(6, 13), RX6, TX6, 13, rfl, Nat.le_of_ble_eq_true rfl, rfl, Nat.le_of_ble_eq_true rfl, inxX6, (xT_t4 (List.mem_of_getElem? (i := 200) rfl) rfl)⟩
theorem fp_X0_38 : xFp RX0 38 0 2 .int := ⟨(0, 13), RX0, TX0, 13, tyX0, rfl, Nat.le_of_ble_eq_true rfl, rfl, Nat.le_of_ble_eq_true rfl, inxX0, (xT_t1 (List.mem_of_getElem? (i := 221) rfl) rfl), tyX0_ok, nmX0, rfl, by decide +kernel⟩
theorem fp_X0_42 : xFp RX0 42 0 3 .boolean := ⟨(0, 13), RX0, TX0, 13, tyX0, rfl, Nat.le_of_ble_eq_true rfl, rfl, Nat.le_of_ble_eq_true rfl, inxX0, (xT_t1 (List.mem_of_getElem? (i := 223) rfl) rfl), tyX0_ok, nmX0, rfl, by decide +kernel⟩
theorem fp_X0_46 : xFp RX0 46 0 4 .int := ⟨(0, 13), RX0, TX0, 13, tyX0, rfl, Nat.le_of_ble_eq_true rfl, rfl, Nat.le_of_ble_eq_true rfl, inxX0, (xT_t1 (List.mem_of_getElem? (i := 225) rfl) rfl), tyX0_ok, nmX0, rfl, by decide +kernel⟩
theorem fp_X0_49 : xFp RX0 49 0 5 .int := ⟨(0, 13), RX0, TX0, 13, tyX0, rfl, Nat.le_of_ble_eq_true rfl, rfl, Nat.le_of_ble_eq_true rfl, inxX0, (xT_t1 (List.mem_of_getElem? (i := 227) rfl) rfl), tyX0_ok, nmX0, rfl, by decide +kernel⟩
theorem fp_X0_52 : xFp RX0 52 0 6 .int := ⟨(0, 13), RX0, TX0, 13, tyX0, rfl, Nat.le_of_ble_eq_true rfl, rfl, Nat.le_of_ble_eq_true rfl, inxX0, (xT_t1 (List.mem_of_getElem? (i := 229) rfl) rfl), tyX0_ok, nmX0, rfl, by decide +kernel⟩
theorem fp_X0_55 : xFp RX0 55 0 7 .int := ⟨(0, 13), RX0, TX0, 13, tyX0, rfl, Nat.le_of_ble_eq_true rfl, rfl, Nat.le_of_ble_eq_true rfl, inxX0, (xT_t1 (List.mem_of_getElem? (i := 230) rfl) rfl), tyX0_ok, nmX0, rfl, by decide +kernel⟩
theorem fp_X0_58 : xFp RX0 58 0 9 .boolean := ⟨(0, 13), RX0, TX0, 13, tyX0, rfl, Nat.le_of_ble_eq_true rfl, rfl, Nat.le_of_ble_eq_true rfl, inxX0, (xT_t1 (List.mem_of_getElem? (i := 233) rfl) rfl), tyX0_ok, nmX0, rfl, by decide +kernel⟩
theorem fp_X0_84 : xFp RX0 84 13 4 .int := ⟨(2, 12), RX2, TX2, 12, tyX2, rfl, Nat.le_of_ble_eq_true rfl, rfl, Nat.le_of_ble_eq_true rfl, inxX2, (xT_t1 (List.mem_of_getElem? (i := 173) rfl) rfl), tyX2_ok, nmX2, rfl, by decide +kernel⟩
theorem fp_X0_129 : xFp RX0 129 0 10 .int := ⟨(0, 13), RX0, TX0, 13, tyX0, rfl, Nat.le_of_ble_eq_true rfl, rfl, Nat.le_of_ble_eq_true rfl, inxX0, (xT_t1 (List.mem_of_getElem? (i := 235) rfl) rfl), tyX0_ok, nmX0, rfl, by decide +kernel⟩
theorem fp_X0_132 : xFp RX0 132 0 12 .int := ⟨(0, 13), RX0, TX0, 13, tyX0, rfl, Nat.le_of_ble_eq_true rfl, rfl, Nat.le_of_ble_eq_true rfl, inxX0, (xT_t1 (List.mem_of_getElem? (i := 238) rfl) rfl), tyX0_ok, nmX0, rfl, by decide +kernel⟩
theorem fp_X0_157 : xFp RX0 157 16 12 .int := ⟨(3, 16), RX3, TX3, 16, tyX3, rfl, Nat.le_of_ble_eq_true rfl, rfl, Nat.le_of_ble_eq_true rfl, inxX3, (xT_t1 (List.mem_of_getElem? (i := 115) rfl) rfl), tyX3_ok, nmX3, rfl, by decide +kernel⟩
theorem fp_X0_206 : xFp RX0 206 16 10 .int := ⟨(3, 16), RX3, TX3, 16, tyX3, rfl, Nat.le_of_ble_eq_true rfl, rfl, Nat.le_of_ble_eq_true rfl, inxX3, (xT_t1 (List.mem_of_getElem? (i := 106) rfl) rfl), tyX3_ok, nmX3, rfl, by decide +kernel⟩
theorem fp_X0_218 : xFp RX0 218 16 6 .int := ⟨(3, 16), RX3, TX3, 16, tyX3, rfl, Nat.le_of_ble_eq_true rfl, rfl, Nat.le_of_ble_eq_true rfl, inxX3, (xT_t1 (List.mem_of_getElem? (i := 94) rfl) rfl), tyX3_ok, nmX3, rfl, by decide +kernel⟩
theorem fp_X0_238 : xFp RX0 238 16 4 .int := ⟨(3, 16), RX3, TX3, 16, tyX3, rfl, Nat.le_of_ble_eq_true rfl, rfl, Nat.le_of_ble_eq_true rfl, inxX3, (xT_t1 (List.mem_of_getElem? (i := 89) rfl) rfl), tyX3_ok, nmX3, rfl, by decide +kernel⟩
theorem fp_X0_247 : xFp RX0 247 16 8 .boolean := ⟨(3, 16), RX3, TX3, 16, tyX3, rfl, Nat.le_of_ble_eq_true rfl, rfl, Nat.le_of_ble_eq_true rfl, inxX3, (xT_t1 (List.mem_of_getElem? (i := 101) rfl) rfl), tyX3_ok, nmX3, rfl, by decide +kernel⟩
theorem fp_X0_250 : xFp RX0 250 13 7 .int := ⟨(2, 12), RX2, TX2, 12, tyX2, rfl, Nat.le_of_ble_eq_true rfl, rfl, Nat.le_of_ble_eq_true rfl, inxX2, (xT_t1 (List.mem_of_getElem? (i := 182) rfl) rfl), tyX2_ok, nmX2, rfl, by decide +kernel⟩
theorem fp_X0_265 : xFp RX0 265 13 11 .int := ⟨(2, 12), RX2, TX2, 12, tyX2, rfl, Nat.le_of_ble_eq_true rfl, rfl, Nat.le_of_ble_eq_true rfl, inxX2, (xT_t1 (List.mem_of_getElem? (i := 190) rfl) rfl), tyX2_ok, nmX2, rfl, by decide +kernel⟩
theorem fp_X0_279 : xFp RX0 279 13 9 .boolean := ⟨(2, 12), RX2, TX2, 12, tyX2, rfl, Nat.le_of_ble_eq_true rfl, rfl, Nat.le_of_ble_eq_true rfl, inxX2, (xT_t1 (List.mem_of_getElem? (i := 186) rfl) rfl), tyX2_ok, nmX2, rfl, by decide +kernel⟩
theorem fp_X1_37 : xFp RX1 37 1 0 .int := ⟨(1, 9), RX1, TX1, 9, tyX1, rfl, Nat.le_of_ble_eq_true rfl, rfl, Nat.le_of_ble_eq_true rfl, inxX1, (xT_t1 (List.mem_of_getElem? (i := 30) rfl) rfl), tyX1_ok, nmX1, rfl, by decide +kernel⟩
theorem fp_X1_84 : xFp RX1 84 16 14 .int := ⟨(3, 16), RX3, TX3, 16, tyX3, rfl, Nat.le_of_ble_eq_true rfl, rfl, Nat.le_of_ble_eq_true rfl, inxX3, (xT_t1 (List.mem_of_getElem? (i := 122) rfl) rfl), tyX3_ok, nmX3, rfl, by decide +kernel⟩
theorem fp_X1_89 : xFp RX1 89 16 13 .int := ⟨(3, 16), RX3, TX3, 16, tyX3, rfl, Nat.le_of_ble_eq_true rfl, rfl, Nat.le_of_ble_eq_true rfl, inxX3, (xT_t1 (List.mem_of_getElem? (i := 118) rfl) rfl), tyX3_ok, nmX3, rfl, by decide +kernel⟩
theorem fp_X1_92 : xFp RX1 92 16 15 .int := ⟨(3, 16), RX3, TX3, 16, tyX3, rfl, Nat.le_of_ble_eq_true rfl, rfl, Nat.le_of_ble_eq_true rfl, inxX3, (xT_t1 (List.mem_of_getElem? (i := 126) rfl) rfl), tyX3_ok, nmX3, rfl, by decide +kernel⟩
theorem fp_X2_27 : xFp RX2 27 13 2 .int := ⟨(2, 12), RX2, TX2, 12, tyX2, rfl, Nat.le_of_ble_eq_true rfl, rfl, Nat.le_of_ble_eq_true rfl, inxX2, (xT_t1 (List.mem_of_getElem? (i := 166) rfl) rfl), tyX2_ok, nmX2, rfl, by decide +kernel⟩
theorem fp_X2_31 : xFp RX2 31 13 3 .int := ⟨(2, 12), RX2, TX2, 12, tyX2, rfl, Nat.le_of_ble_eq_true rfl, rfl, Nat.le_of_ble_eq_true rfl, inxX2, (xT_t1 (List.mem_of_getElem? (i := 169) rfl) rfl), tyX2_ok, nmX2, rfl, by decide +kernel⟩
theorem fp_X2_34 : xFp RX2 34 13 4 .int := ⟨(2, 12), RX2, TX2, 12, tyX2, rfl, Nat.le_of_ble_eq_true rfl, rfl, Nat.le_of_ble_eq_true rfl, inxX2, (xT_t1 (List.mem_of_getElem? (i := 172) rfl) rfl), tyX2_ok, nmX2, rfl, by decide +kernel⟩
theorem fp_X2_37 : xFp RX2 37 13 5 .boolean := ⟨(2, 12), RX2, TX2, 12, tyX2, rfl, Nat.le_of_ble_eq_true rfl, rfl, Nat.le_of_ble_eq_true rfl, inxX2, (xT_t1 (List.mem_of_getElem? (i := 175) rfl) rfl), tyX2_ok, nmX2, rfl, by decide +kernel⟩
theorem fp_X2_41 : xFp RX2 41 13 6 .int := ⟨(2, 12), RX2, TX2, 12, tyX2, rfl, Nat.le_of_ble_eq_true rfl, rfl, Nat.le_of_ble_eq_true rfl, inxX2, (xT_t1 (List.mem_of_getElem? (i := 178) rfl) rfl), tyX2_ok, nmX2, rfl, by decide +kernel⟩
theorem fp_X2_47 : xFp RX2 47 13 10 .int := ⟨(2, 12), RX2, TX2, 12, tyX2, rfl, Nat.le_of_ble_eq_true rfl, rfl, Nat.le_of_ble_eq_true rfl, inxX2, (xT_t1 (List.mem_of_getElem? (i := 187) rfl) rfl), tyX2_ok, nmX2, rfl, by decide +kernel⟩
theorem fp_X2_50 : xFp RX2 50 13 11 .int := ⟨(2, 12), RX2, TX2, 12, tyX2, rfl, Nat.le_of_ble_eq_true rfl, rfl, Nat.le_of_ble_eq_true rfl, inxX2, (xT_t1 (List.mem_of_getElem? (i := 189) rfl) rfl), tyX2_ok, nmX2, rfl, by decide +kernel⟩
theorem fp_X2_63 : xFp RX2 63 13 7 .int := ⟨(2, 12), RX2, TX2, 12, tyX2, rfl, Nat.le_of_ble_eq_true rfl, rfl, Nat.le_of_ble_eq_true rfl, inxX2, (xT_t1 (List.mem_of_getElem? (i := 181) rfl) rfl), tyX2_ok, nmX2, rfl, by decide +kernel⟩
theorem fp_X2_66 : xFp RX2 66 13 8 .int := ⟨(2, 12), RX2, TX2, 12, tyX2, rfl, Nat.le_of_ble_eq_true rfl, rfl, Nat.le_of_ble_eq_true rfl, inxX2, (xT_t1 (List.mem_of_getElem? (i := 184) rfl) rfl), tyX2_ok, nmX2, rfl, by decide +kernel⟩
theorem fp_X2_69 : xFp RX2 69 13 9 .boolean := ⟨(2, 12), RX2, TX2, 12, tyX2, rfl, Nat.le_of_ble_eq_true rfl, rfl, Nat.le_of_ble_eq_true rfl, inxX2, (xT_t1 (List.mem_of_getElem? (i := 185) rfl) rfl), tyX2_ok, nmX2, rfl, by decide +kernel⟩
theorem fp_X2_72 : xFp RX2 72 16 10 .int := ⟨(3, 16), RX3, TX3, 16, tyX3, rfl, Nat.le_of_ble_eq_true rfl, rfl, Nat.le_of_ble_eq_true rfl, inxX3, (xT_t1 (List.mem_of_getElem? (i := 105) rfl) rfl), tyX3_ok, nmX3, rfl, by decide +kernel⟩
theorem fp_X2_75 : xFp RX2 75 16 11 .int := ⟨(3, 16), RX3, TX3, 16, tyX3, rfl, Nat.le_of_ble_eq_true rfl, rfl, Nat.le_of_ble_eq_true rfl, inxX3, (xT_t1 (List.mem_of_getElem? (i := 109) rfl) rfl), tyX3_ok, nmX3, rfl, by decide +kernel⟩
theorem fp_X3_15 : xFp RX3 15 16 1 .int := ⟨(3, 16), RX3, TX3, 16, tyX3, rfl, Nat.le_of_ble_eq_true rfl, rfl, Nat.le_of_ble_eq_true rfl, inxX3, (xT_t1 (List.mem_of_getElem? (i := 79) rfl) rfl), tyX3_ok, nmX3, rfl, by decide +kernel⟩
theorem fp_X3_18 : xFp RX3 18 16 2 .int := ⟨(3, 16), RX3, TX3, 16, tyX3, rfl, Nat.le_of_ble_eq_true rfl, rfl, Nat.le_of_ble_eq_true rfl, inxX3, (xT_t1 (List.mem_of_getElem? (i := 81) rfl) rfl), tyX3_ok, nmX3, rfl, by decide +kernel⟩
theorem fp_X3_21 : xFp RX3 21 16 3 .int := ⟨(3, 16), RX3, TX3, 16, tyX3, rfl, Nat.le_of_ble_eq_true rfl, rfl, Nat.le_of_ble_eq_true rfl, inxX3, (xT_t1 (List.mem_of_getElem? (i := 84) rfl) rfl), tyX3_ok, nmX3, rfl, by decide +kernel⟩
theorem fp_X3_24 : xFp RX3 24 16 4 .int := ⟨(3, 16), RX3, TX3, 16, tyX3, rfl, Nat.le_of_ble_eq_true rfl, rfl, Nat.le_of_ble_eq_true rfl, inxX3, (xT_t1 (List.mem_of_getElem? (i := 87) rfl) rfl), tyX3_ok, nmX3, rfl, by decide +kernel⟩
theorem fp_X3_27 : xFp RX3 27 16 5 .int := ⟨(3, 16), RX3, TX3, 16, tyX3, rfl, Nat.le_of_ble_eq_true rfl, rfl, Nat.le_of_ble_eq_true rfl, inxX3, (xT_t1 (List.mem_of_getElem? (i := 90) rfl) rfl), tyX3_ok, nmX3, rfl, by decide +kernel⟩
theorem fp_X3_30 : xFp RX3 30 16 6 .int := ⟨(3, 16), RX3, TX3, 16, tyX3, rfl, Nat.le_of_ble_eq_true rfl, rfl, Nat.le_of_ble_eq_true rfl, inxX3, (xT_t1 (List.mem_of_getElem? (i := 93) rfl) rfl), tyX3_ok, nmX3, rfl, by decide +kernel⟩
theorem fp_X3_33 : xFp RX3 33 16 7 .boolean := ⟨(3, 16), RX3, TX3, 16, tyX3, rfl, Nat.le_of_ble_eq_true rfl, rfl, Nat.le_of_ble_eq_true rfl, inxX3, (xT_t1 (List.mem_of_getElem? (i := 96) rfl) rfl), tyX3_ok, nmX3, rfl, by decide +kernel⟩
theorem fp_X3_37 : xFp RX3 37 16 8 .boolean := ⟨(3, 16), RX3, TX3, 16, tyX3, rfl, Nat.le_of_ble_eq_true rfl, rfl, Nat.le_of_ble_eq_true rfl, inxX3, (xT_t1 (List.mem_of_getElem? (i := 99) rfl) rfl), tyX3_ok, nmX3, rfl, by decide +kernel⟩
theorem fp_X3_40 : xFp RX3 40 16 9 .int := ⟨(3, 16), RX3, TX3, 16, tyX3, rfl, Nat.le_of_ble_eq_true rfl, rfl, Nat.le_of_ble_eq_true rfl, inxX3, (xT_t1 (List.mem_of_getElem? (i := 102) rfl) rfl), tyX3_ok, nmX3, rfl, by decide +kernel⟩
theorem fp_X3_43 : xFp RX3 43 16 10 .int := ⟨(3, 16), RX3, TX3, 16, tyX3, rfl, Nat.le_of_ble_eq_true rfl, rfl, Nat.le_of_ble_eq_true rfl, inxX3, (xT_t1 (List.mem_of_getElem? (i := 104) rfl) rfl), tyX3_ok, nmX3, rfl, by decide +kernel⟩
theorem fp_X3_46 : xFp RX3 46 16 11 .int := ⟨(3, 16), RX3, TX3, 16, tyX3, rfl, Nat.le_of_ble_eq_true rfl, rfl, Nat.le_of_ble_eq_true rfl, inxX3, (xT_t1 (List.mem_of_getElem? (i := 108) rfl) rfl), tyX3_ok, nmX3, rfl, by decide +kernel⟩
theorem fp_X3_49 : xFp RX3 49 16 12 .int := ⟨(3, 16), RX3, TX3, 16, tyX3, rfl, Nat.le_of_ble_eq_true rfl, rfl, Nat.le_of_ble_eq_true rfl, inxX3, (xT_t1 (List.mem_of_getElem? (i := 112) rfl) rfl), tyX3_ok, nmX3, rfl, by decide +kernel⟩
theorem fp_X3_52 : xFp RX3 52 16 13 .int := ⟨(3, 16), RX3, TX3, 16, tyX3, rfl, Nat.le_of_ble_eq_true rfl, rfl, Nat.le_of_ble_eq_true rfl, inxX3, (xT_t1 (List.mem_of_getElem? (i := 116) rfl) rfl), tyX3_ok, nmX3, rfl, by decide +kernel⟩
theorem fp_X3_55 : xFp RX3 55 16 14 .int := ⟨(3, 16), RX3, TX3, 16, tyX3, rfl, Nat.le_of_ble_eq_true rfl, rfl, Nat.le_of_ble_eq_true rfl, inxX3, (xT_t1 (List.mem_of_getElem? (i := 120) rfl) rfl), tyX3_ok, nmX3, rfl, by decide +kernel⟩
theorem fp_X3_58 : xFp RX3 58 16 15 .int := ⟨(3, 16), RX3, TX3, 16, tyX3, rfl, Nat.le_of_ble_eq_true rfl, rfl, Nat.le_of_ble_eq_true rfl, inxX3, (xT_t1 (List.mem_of_getElem? (i := 123) rfl) rfl), tyX3_ok, nmX3, rfl, by decide +kernel⟩
theorem fp_X4_15 : xFp RX4 15 23 2 .int := ⟨(4, 9), RX4, TX4, 9, tyX4, rfl, Nat.le_of_ble_eq_true rfl, rfl, Nat.le_of_ble_eq_true rfl, inxX4, (xT_t2 (List.mem_of_getElem? (i := 37) rfl) rfl), tyX4_ok, nmX4, rfl, by decide +kernel⟩
theorem fp_X4_19 : xFp RX4 19 23 3 .int := ⟨(4, 9), RX4, TX4, 9, tyX4, rfl, Nat.le_of_ble_eq_true rfl, rfl, Nat.le_of_ble_eq_true rfl, inxX4, (xT_t2 (List.mem_of_getElem? (i := 38) rfl) rfl), tyX4_ok, nmX4, rfl, by decide +kernel⟩
theorem fp_X4_36 : xFp RX4 36 23 4 .int := ⟨(4, 9), RX4, TX4, 9, tyX4, rfl, Nat.le_of_ble_eq_true rfl, rfl, Nat.le_of_ble_eq_true rfl, inxX4, (xT_t2 (List.mem_of_getElem? (i := 39) rfl) rfl), tyX4_ok, nmX4, rfl, by decide +kernel⟩
theorem fp_X4_39 : xFp RX4 39 23 5 .int := ⟨(4, 9), RX4, TX4, 9, tyX4, rfl, Nat.le_of_ble_eq_true rfl, rfl, Nat.le_of_ble_eq_true rfl, inxX4, (xT_t2 (List.mem_of_getElem? (i := 41) rfl) rfl), tyX4_ok, nmX4, rfl, by decide +kernel⟩
theorem fp_X4_42 : xFp RX4 42 23 8 .int := ⟨(4, 9), RX4, TX4, 9, tyX4, rfl, Nat.le_of_ble_eq_true rfl, rfl, Nat.le_of_ble_eq_true rfl, inxX4, (xT_t2 (List.mem_of_getElem? (i := 47) rfl) rfl), tyX4_ok, nmX4, rfl, by decide +kernel⟩
theorem fp_X4_49 : xFp RX4 49 23 6 .int := ⟨(4, 9), RX4, TX4, 9, tyX4, rfl, Nat.le_of_ble_eq_true rfl, rfl, Nat.le_of_ble_eq_true rfl, inxX4, (xT_t2 (List.mem_of_getElem? (i := 43) rfl) rfl), tyX4_ok, nmX4, rfl, by decide +kernel⟩
theorem fp_X4_56 : xFp RX4 56 23 7 .int := ⟨(4, 9), RX4, TX4, 9, tyX4, rfl, Nat.le_of_ble_eq_true rfl, rfl, Nat.le_of_ble_eq_true rfl, inxX4, (xT_t2 (List.mem_of_getElem? (i := 45) rfl) rfl), tyX4_ok, nmX4, rfl, by decide +kernel⟩
theorem fp_X5_56 : xFp RX5 56 13 2 .int := ⟨(2, 12), RX2, TX2, 12, tyX2, rfl, Nat.le_of_ble_eq_true rfl, rfl, Nat.le_of_ble_eq_true rfl, inxX2, (xT_t1 (List.mem_of_getElem? (i := 167) rfl) rfl), tyX2_ok, nmX2, rfl, by decide +kernel⟩
theorem fp_X5_71 : xFp RX5 71 13 3 .int := ⟨(2, 12), RX2, TX2, 12, tyX2, rfl, Nat.le_of_ble_eq_true rfl, rfl, Nat.le_of_ble_eq_true rfl, inxX2, (xT_t1 (List.mem_of_getElem? (i := 170) rfl) rfl), tyX2_ok, nmX2, rfl, by decide +kernel⟩
theorem fp_X5_78 : xFp RX5 78 16 1 .int := ⟨(3, 16), RX3, TX3, 16, tyX3, rfl, Nat.le_of_ble_eq_true rfl, rfl, Nat.le_of_ble_eq_true rfl, inxX3, (xT_t1 (List.mem_of_getElem? (i := 80) rfl) rfl), tyX3_ok, nmX3, rfl, by decide +kernel⟩
theorem fp_X5_83 : xFp RX5 83 16 4 .int := ⟨(3, 16), RX3, TX3, 16, tyX3, rfl, Nat.le_of_ble_eq_true rfl, rfl, Nat.le_of_ble_eq_true rfl, inxX3, (xT_t1 (List.mem_of_getElem? (i := 88) rfl) rfl), tyX3_ok, nmX3, rfl, by decide +kernel⟩
theorem fp_X5_86 : xFp RX5 86 16 2 .int := ⟨(3, 16), RX3, TX3, 16, tyX3, rfl, Nat.le_of_ble_eq_true rfl, rfl, Nat.le_of_ble_eq_true rfl, inxX3, (xT_t1 (List.mem_of_getElem? (i := 82) rfl) rfl), tyX3_ok, nmX3, rfl, by decide +kernel⟩
theorem fp_X5_89 : xFp RX5 89 16 3 .int := ⟨(3, 16), RX3, TX3, 16, tyX3, rfl, Nat.le_of_ble_eq_true rfl, rfl, Nat.le_of_ble_eq_true rfl, inxX3, (xT_t1 (List.mem_of_getElem? (i := 85) rfl) rfl), tyX3_ok, nmX3, rfl, by decide +kernel⟩
theorem fp_X5_95 : xFp RX5 95 16 7 .boolean := ⟨(3, 16), RX3, TX3, 16, tyX3, rfl, Nat.le_of_ble_eq_true rfl, rfl, Nat.le_of_ble_eq_true rfl, inxX3, (xT_t1 (List.mem_of_getElem? (i := 97) rfl) rfl), tyX3_ok, nmX3, rfl, by decide +kernel⟩
theorem fp_X5_103 : xFp RX5 103 16 8 .boolean := ⟨(3, 16), RX3, TX3, 16, tyX3, rfl, Nat.le_of_ble_eq_true rfl, rfl, Nat.le_of_ble_eq_true rfl, inxX3, (xT_t1 (List.mem_of_getElem? (i := 100) rfl) rfl), tyX3_ok, nmX3, rfl, by decide +kernel⟩
theorem fp_X5_106 : xFp RX5 106 13 6 .int := ⟨(2, 12), RX2, TX2, 12, tyX2, rfl, Nat.le_of_ble_eq_true rfl, rfl, Nat.le_of_ble_eq_true rfl, inxX2, (xT_t1 (List.mem_of_getElem? (i := 179) rfl) rfl), tyX2_ok, nmX2, rfl, by decide +kernel⟩
theorem fp_X5_109 : xFp RX5 109 13 5 .boolean := ⟨(2, 12), RX2, TX2, 12, tyX2, rfl, Nat.le_of_ble_eq_true rfl, rfl, Nat.le_of_ble_eq_true rfl, inxX2, (xT_t1 (List.mem_of_getElem? (i := 176) rfl) rfl), tyX2_ok, nmX2, rfl, by decide +kernel⟩
theorem fp_X5_112 : xFp RX5 112 16 5 .int := ⟨(3, 16), RX3, TX3, 16, tyX3, rfl, Nat.le_of_ble_eq_true rfl, rfl, Nat.le_of_ble_eq_true rfl, inxX3, (xT_t1 (List.mem_of_getElem? (i := 91) rfl) rfl), tyX3_ok, nmX3, rfl, by decide +kernel⟩
theorem fp_X5_115 : xFp RX5 115 0 3 .boolean := ⟨(0, 13), RX0, TX0, 13, tyX0, rfl, Nat.le_of_ble_eq_true rfl, rfl, Nat.le_of_ble_eq_true rfl, inxX0, (xT_t1 (List.mem_of_getElem? (i := 224) rfl) rfl), tyX0_ok, nmX0, rfl, by decide +kernel⟩
theorem fp_X5_262 : xFp RX5 262 23 1 .int := ⟨(4, 9), RX4, TX4, 9, tyX4, rfl, Nat.le_of_ble_eq_true rfl, rfl, Nat.le_of_ble_eq_true rfl, inxX4, (xT_t2 (List.mem_of_getElem? (i := 36) rfl) rfl), tyX4_ok, nmX4, rfl, by decide +kernel⟩
theorem fp_X6_125 : xFp RX6 125 30 7 .int := ⟨(6, 13), RX6, TX6, 13, tyX6, rfl, Nat.le_of_ble_eq_true rfl, rfl, Nat.le_of_ble_eq_true rfl, inxX6, (xT_t4 (List.mem_of_getElem? (i := 196) rfl) rfl), tyX6_ok, nmX6, rfl, by decide +kernel⟩
theorem fp_X6_199 : xFp RX6 199 30 5 .int := ⟨(6, 13), RX6, TX6, 13, tyX6, rfl, Nat.le_of_ble_eq_true rfl, rfl, Nat.le_of_ble_eq_true rfl, inxX6, (xT_t4 (List.mem_of_getElem? (i := 194) rfl) rfl), tyX6_ok, nmX6, rfl, by decide +kernel⟩
theorem fp_X6_202 : xFp RX6 202 30 9 .int := ⟨(6, 13), RX6, TX6, 13, tyX6, rfl, Nat.le_of_ble_eq_true rfl, rfl, Nat.le_of_ble_eq_true rfl, inxX6, (xT_t4 (List.mem_of_getElem? (i := 198) rfl) rfl), tyX6_ok, nmX6, rfl, by decide +kernel⟩
theorem fp_X6_208 : xFp RX6 208 30 10 .int := ⟨(6, 13), RX6, TX6, 13, tyX6, rfl, Nat.le_of_ble_eq_true rfl, rfl, Nat.le_of_ble_eq_true rfl, inxX6, (xT_t4 (List.mem_of_getElem? (i := 199) rfl) rfl), tyX6_ok, nmX6, rfl, by decide +kernel⟩
theorem fp_X6_230 : xFp RX6 230 30 12 .int := ⟨(6, 13), RX6, TX6, 13, tyX6, rfl, Nat.le_of_ble_eq_true rfl, rfl, Nat.le_of_ble_eq_true rfl, inxX6, (xT_t4 (List.mem_of_getElem? (i := 201) rfl) rfl), tyX6_ok, nmX6, rfl, by decide +kernel⟩
theorem fp_X6_239 : xFp RX6 239 30 11 .boolean := ⟨(6, 13), RX6, TX6, 13, tyX6, rfl, Nat.le_of_ble_eq_true rfl, rfl, Nat.le_of_ble_eq_true rfl, inxX6, (xT_t4 (List.mem_of_getElem? (i := 200) rfl) rfl), tyX6_ok, nmX6, rfl, by decide +kernel⟩
theorem cv_X0_32 : xCv RX0 32 yX1_startAnew mX1_startAnew 1 1 := ⟨(xT_t2 (List.mem_of_getElem? (i := 72) rfl) rfl), (xT_t2 (List.mem_of_getElem? (i := 73) rfl) rfl), (xT_t2 (List.mem_of_getElem? (i := 74) rfl) rfl), (xT_t1 (List.mem_of_getElem? (i := 3) rfl) rfl), (xT_t2 (List.mem_of_getElem? (i := 75) rfl) rfl), by decide +kernel, Nat.le_of_ble_eq_true rfl, (1, 9), TX1, 9, rfl, rfl⟩
theorem cv_X0_36 : xCv RX0 36 yX2_startAnew mX2_startAnew 13 0 := ⟨(xT_t2 (List.mem_of_getElem? (i := 76) rfl) rfl), (xT_t2 (List.mem_of_getElem? (i := 77) rfl) rfl), (xT_t2 (List.mem_of_getElem? (i := 78) rfl) rfl), (xT_t1 (List.mem_of_getElem? (i := 4) rfl) rfl), (xT_t2 (List.mem_of_getElem? (i := 79) rfl) rfl), by decide +kernel, Nat.le_of_ble_eq_true rfl, (2, 12), TX2, 12, rfl, rfl⟩
theorem cv_X0_61 : xCv RX0 61 yX1_copyFrom mX1_copyFrom 1 1 := ⟨(xT_t4 (List.mem_of_getElem? (i := 67) rfl) rfl), (xT_t4 (List.mem_of_getElem? (i := 68) rfl) rfl), (xT_t4 (List.mem_of_getElem? (i := 69) rfl) rfl), (xT_t1 (List.mem_of_getElem? (i := 3) rfl) rfl), (xT_t4 (List.mem_of_getElem? (i := 70) rfl) rfl), by decide +kernel, Nat.le_of_ble_eq_true rfl, (1, 9), TX1, 9, rfl, rfl⟩
theorem cv_X0_65 : xCv RX0 65 yX2_copyFrom mX2_copyFrom 13 1 := ⟨(xT_t4 (List.mem_of_getElem? (i := 72) rfl) rfl), (xT_t4 (List.mem_of_getElem? (i := 73) rfl) rfl), (xT_t4 (List.mem_of_getElem? (i := 74) rfl) rfl), (xT_t1 (List.mem_of_getElem? (i := 4) rfl) rfl), (xT_t4 (List.mem_of_getElem? (i := 75) rfl) rfl), by decide +kernel, Nat.le_of_ble_eq_true rfl, (2, 12), TX2, 12, rfl, rfl⟩
theorem cv_X0_90 : xCv RX0 90 yX0_poolSize mX0_poolSize 0 0 := ⟨(xT_t2 (List.mem_of_getElem? (i := 123) rfl) rfl), (xT_t2 (List.mem_of_getElem? (i := 124) rfl) rfl), (xT_t2 (List.mem_of_getElem? (i := 125) rfl) rfl), (xT_t1 (List.mem_of_getElem? (i := 2) rfl) rfl), (xT_t2 (List.mem_of_getElem? (i := 126) rfl) rfl), by decide +kernel, Nat.le_of_ble_eq_true rfl, (0, 13), TX0, 13, rfl, rfl⟩
theorem cv_X0_94 : xCv RX0 94 yX2_sharedInUse mX2_sharedInUse 13 0 := ⟨(xT_t2 (List.mem_of_getElem? (i := 127) rfl) rfl), (xT_t2 (List.mem_of_getElem? (i := 128) rfl) rfl), (xT_t2 (List.mem_of_getElem? (i := 129) rfl) rfl), (xT_t1 (List.mem_of_getElem? (i := 4) rfl) rfl), (xT_t2 (List.mem_of_getElem? (i := 130) rfl) rfl), by decide +kernel, Nat.le_of_ble_eq_true rfl, (2, 12), TX2, 12, rfl, rfl⟩
theorem cv_X0_97 : xCv RX0 97 yX0_portAt mX0_portAt 0 1 := ⟨(xT_t2 (List.mem_of_getElem? (i := 193) rfl) rfl), (xT_t2 (List.mem_of_getElem? (i := 116) rfl) rfl), (xT_t2 (List.mem_of_getElem? (i := 117) rfl) rfl), (xT_t1 (List.mem_of_getElem? (i := 2) rfl) rfl), (xT_t2 (List.mem_of_getElem? (i := 118) rfl) rfl), by decide +kernel, Nat.le_of_ble_eq_true rfl, (0, 13), TX0, 13, rfl, rfl⟩
theorem cv_X0_101 : xCv RX0 101 yX0_sharedLeft mX0_sharedLeft 0 0 := ⟨(xT_t2 (List.mem_of_getElem? (i := 194) rfl) rfl), (xT_t2 (List.mem_of_getElem? (i := 120) rfl) rfl), (xT_t2 (List.mem_of_getElem? (i := 121) rfl) rfl), (xT_t1 (List.mem_of_getElem? (i := 2) rfl) rfl), (xT_t2 (List.mem_of_getElem? (i := 122) rfl) rfl), by decide +kernel, Nat.le_of_ble_eq_true rfl, (0, 13), TX0, 13, rfl, rfl⟩
theorem cv_X0_104 : xCv RX0 104 yX2_guaranteedInUse mX2_guaranteedInUse 13 0 := ⟨(xT_t2 (List.mem_of_getElem? (i := 195) rfl) rfl), (xT_t2 (List.mem_of_getElem? (i := 140) rfl) rfl), (xT_t2 (List.mem_of_getElem? (i := 141) rfl) rfl), (xT_t1 (List.mem_of_getElem? (i := 4) rfl) rfl), (xT_t2 (List.mem_of_getElem? (i := 142) rfl) rfl), by decide +kernel, Nat.le_of_ble_eq_true rfl, (2, 12), TX2, 12, rfl, rfl⟩
theorem cv_X0_113 : xCv RX0 113 yX0_endGrant mX0_endGrant 0 2 := ⟨(xT_t2 (List.mem_of_getElem? (i := 199) rfl) rfl), (xT_t2 (List.mem_of_getElem? (i := 200) rfl) rfl), (xT_t2 (List.mem_of_getElem? (i := 201) rfl) rfl), (xT_t1 (List.mem_of_getElem? (i := 2) rfl) rfl), (xT_t2 (List.mem_of_getElem? (i := 202) rfl) rfl), by decide +kernel, Nat.le_of_ble_eq_true rfl, (0, 13), TX0, 13, rfl, rfl⟩
theorem cv_X0_117 : xCv RX0 117 yX0_rememberGrant mX0_rememberGrant 0 1 := ⟨(xT_t2 (List.mem_of_getElem? (i := 204) rfl) rfl), (xT_t2 (List.mem_of_getElem? (i := 206) rfl) rfl), (xT_s (List.mem_of_getElem? (i := 0) rfl) rfl), (xT_t1 (List.mem_of_getElem? (i := 2) rfl) rfl), (xT_t2 (List.mem_of_getElem? (i := 207) rfl) rfl), by decide +kernel, Nat.le_of_ble_eq_true rfl, (0, 13), TX0, 13, rfl, rfl⟩
theorem cv_X0_120 : xCv RX0 120 yX2_shareBeyondGuarantee mX2_shareBeyondGuarantee 13 0 := ⟨(xT_t2 (List.mem_of_getElem? (i := 203) rfl) rfl), (xT_t2 (List.mem_of_getElem? (i := 132) rfl) rfl), (xT_t2 (List.mem_of_getElem? (i := 133) rfl) rfl), (xT_t1 (List.mem_of_getElem? (i := 4) rfl) rfl), (xT_t2 (List.mem_of_getElem? (i := 134) rfl) rfl), by decide +kernel, Nat.le_of_ble_eq_true rfl, (2, 12), TX2, 12, rfl, rfl⟩
theorem cv_X0_123 : xCv RX0 123 yX2_guaranteeLeft mX2_guaranteeLeft 13 0 := ⟨(xT_t2 (List.mem_of_getElem? (i := 225) rfl) rfl), (xT_t2 (List.mem_of_getElem? (i := 136) rfl) rfl), (xT_t2 (List.mem_of_getElem? (i := 137) rfl) rfl), (xT_t1 (List.mem_of_getElem? (i := 4) rfl) rfl), (xT_t2 (List.mem_of_getElem? (i := 138) rfl) rfl), by decide +kernel, Nat.le_of_ble_eq_true rfl, (2, 12), TX2, 12, rfl, rfl⟩
theorem cv_X0_135 : xCv RX0 135 yX3_poolRefusal mX3_poolRefusal 16 2 := ⟨(xT_t2 (List.mem_of_getElem? (i := 227) rfl) rfl), (xT_t2 (List.mem_of_getElem? (i := 228) rfl) rfl), (xT_t2 (List.mem_of_getElem? (i := 229) rfl) rfl), (xT_t1 (List.mem_of_getElem? (i := 5) rfl) rfl), (xT_t2 (List.mem_of_getElem? (i := 230) rfl) rfl), by decide +kernel, Nat.le_of_ble_eq_true rfl, (3, 16), TX3, 16, rfl, rfl⟩
theorem cv_X0_144 : xCv RX0 144 yX0_victimsNeeded mX0_victimsNeeded 0 5 := ⟨(xT_t2 (List.mem_of_getElem? (i := 239) rfl) rfl), (xT_t3 (List.mem_of_getElem? (i := 1) rfl) rfl), (xT_s (List.mem_of_getElem? (i := 1) rfl) rfl), (xT_t1 (List.mem_of_getElem? (i := 2) rfl) rfl), (xT_t3 (List.mem_of_getElem? (i := 2) rfl) rfl), by decide +kernel, Nat.le_of_ble_eq_true rfl, (0, 13), TX0, 13, rfl, rfl⟩
theorem cv_X0_151 : xCv RX0 151 yX2_headroomInUse mX2_headroomInUse 13 0 := ⟨(xT_t2 (List.mem_of_getElem? (i := 238) rfl) rfl), (xT_t2 (List.mem_of_getElem? (i := 151) rfl) rfl), (xT_t2 (List.mem_of_getElem? (i := 152) rfl) rfl), (xT_t1 (List.mem_of_getElem? (i := 4) rfl) rfl), (xT_t2 (List.mem_of_getElem? (i := 153) rfl) rfl), by decide +kernel, Nat.le_of_ble_eq_true rfl, (2, 12), TX2, 12, rfl, rfl⟩
theorem cv_X0_169 : xCv RX0 169 yX1_sizeOf mX1_sizeOf 1 1 := ⟨(xT_t3 (List.mem_of_getElem? (i := 3) rfl) rfl), (xT_t3 (List.mem_of_getElem? (i := 4) rfl) rfl), (xT_t3 (List.mem_of_getElem? (i := 5) rfl) rfl), (xT_t1 (List.mem_of_getElem? (i := 3) rfl) rfl), (xT_t3 (List.mem_of_getElem? (i := 6) rfl) rfl), by decide +kernel, Nat.le_of_ble_eq_true rfl, (1, 9), TX1, 9, rfl, rfl⟩
theorem cv_X0_173 : xCv RX0 173 yX1_packetAhead mX1_packetAhead 1 1 := ⟨(xT_t3 (List.mem_of_getElem? (i := 11) rfl) rfl), (xT_t3 (List.mem_of_getElem? (i := 12) rfl) rfl), (xT_t3 (List.mem_of_getElem? (i := 13) rfl) rfl), (xT_t1 (List.mem_of_getElem? (i := 3) rfl) rfl), (xT_t3 (List.mem_of_getElem? (i := 14) rfl) rfl), by decide +kernel, Nat.le_of_ble_eq_true rfl, (1, 9), TX1, 9, rfl, rfl⟩
theorem cv_X0_176 : xCv RX0 176 yX0_judge mX0_judge 0 3 := ⟨(xT_t2 (List.mem_of_getElem? (i := 221) rfl) rfl), (xT_t2 (List.mem_of_getElem? (i := 222) rfl) rfl), (xT_t2 (List.mem_of_getElem? (i := 223) rfl) rfl), (xT_t1 (List.mem_of_getElem? (i := 2) rfl) rfl), (xT_t2 (List.mem_of_getElem? (i := 224) rfl) rfl), by decide +kernel, Nat.le_of_ble_eq_true rfl, (0, 13), TX0, 13, rfl, rfl⟩
theorem cv_X0_180 : xCv RX0 180 yX2_countLoss mX2_countLoss 13 2 := ⟨(xT_t3 (List.mem_of_getElem? (i := 18) rfl) rfl), (xT_t3 (List.mem_of_getElem? (i := 19) rfl) rfl), (xT_t3 (List.mem_of_getElem? (i := 20) rfl) rfl), (xT_t1 (List.mem_of_getElem? (i := 4) rfl) rfl), (xT_t3 (List.mem_of_getElem? (i := 21) rfl) rfl), by decide +kernel, Nat.le_of_ble_eq_true rfl, (2, 12), TX2, 12, rfl, rfl⟩
theorem cv_X0_184 : xCv RX0 184 yX0_removeVictims mX0_removeVictims 0 2 := ⟨(xT_t3 (List.mem_of_getElem? (i := 22) rfl) rfl), (xT_t3 (List.mem_of_getElem? (i := 24) rfl) rfl), (xT_s (List.mem_of_getElem? (i := 2) rfl) rfl), (xT_t1 (List.mem_of_getElem? (i := 2) rfl) rfl), (xT_t3 (List.mem_of_getElem? (i := 25) rfl) rfl), by decide +kernel, Nat.le_of_ble_eq_true rfl, (0, 13), TX0, 13, rfl, rfl⟩
theorem cv_X0_187 : xCv RX0 187 yX0_chargeCells mX0_chargeCells 0 3 := ⟨(xT_t3 (List.mem_of_getElem? (i := 49) rfl) rfl), (xT_t3 (List.mem_of_getElem? (i := 51) rfl) rfl), (xT_s (List.mem_of_getElem? (i := 4) rfl) rfl), (xT_t1 (List.mem_of_getElem? (i := 2) rfl) rfl), (xT_t3 (List.mem_of_getElem? (i := 52) rfl) rfl), by decide +kernel, Nat.le_of_ble_eq_true rfl, (0, 13), TX0, 13, rfl, rfl⟩
theorem cv_X0_190 : xCv RX0 190 yX1_place mX1_place 1 2 := ⟨(xT_t3 (List.mem_of_getElem? (i := 62) rfl) rfl), (xT_t3 (List.mem_of_getElem? (i := 63) rfl) rfl), (xT_t3 (List.mem_of_getElem? (i := 64) rfl) rfl), (xT_t1 (List.mem_of_getElem? (i := 3) rfl) rfl), (xT_t3 (List.mem_of_getElem? (i := 65) rfl) rfl), by decide +kernel, Nat.le_of_ble_eq_true rfl, (1, 9), TX1, 9, rfl, rfl⟩
theorem cv_X0_193 : xCv RX0 193 yX1_joinQueue mX1_joinQueue 1 2 := ⟨(xT_t3 (List.mem_of_getElem? (i := 86) rfl) rfl), (xT_t3 (List.mem_of_getElem? (i := 87) rfl) rfl), (xT_t3 (List.mem_of_getElem? (i := 88) rfl) rfl), (xT_t1 (List.mem_of_getElem? (i := 3) rfl) rfl), (xT_t3 (List.mem_of_getElem? (i := 89) rfl) rfl), by decide +kernel, Nat.le_of_ble_eq_true rfl, (1, 9), TX1, 9, rfl, rfl⟩
theorem cv_X0_197 : xCv RX0 197 yX0_takeOut mX0_takeOut 0 3 := ⟨(xT_t3 (List.mem_of_getElem? (i := 26) rfl) rfl), (xT_t3 (List.mem_of_getElem? (i := 28) rfl) rfl), (xT_s (List.mem_of_getElem? (i := 3) rfl) rfl), (xT_t1 (List.mem_of_getElem? (i := 2) rfl) rfl), (xT_t3 (List.mem_of_getElem? (i := 29) rfl) rfl), by decide +kernel, Nat.le_of_ble_eq_true rfl, (0, 13), TX0, 13, rfl, rfl⟩
theorem cv_X0_200 : xCv RX0 200 yX3_pause mX3_pause 16 0 := ⟨(xT_t3 (List.mem_of_getElem? (i := 53) rfl) rfl), (xT_t3 (List.mem_of_getElem? (i := 54) rfl) rfl), (xT_t3 (List.mem_of_getElem? (i := 55) rfl) rfl), (xT_t1 (List.mem_of_getElem? (i := 5) rfl) rfl), (xT_t3 (List.mem_of_getElem? (i := 56) rfl) rfl), by decide +kernel, Nat.le_of_ble_eq_true rfl, (3, 16), TX3, 16, rfl, rfl⟩
theorem cv_X0_203 : xCv RX0 203 yX3_addShared mX3_addShared 16 2 := ⟨(xT_t3 (List.mem_of_getElem? (i := 57) rfl) rfl), (xT_t3 (List.mem_of_getElem? (i := 58) rfl) rfl), (xT_t3 (List.mem_of_getElem? (i := 59) rfl) rfl), (xT_t1 (List.mem_of_getElem? (i := 5) rfl) rfl), (xT_t3 (List.mem_of_getElem? (i := 60) rfl) rfl), by decide +kernel, Nat.le_of_ble_eq_true rfl, (3, 16), TX3, 16, rfl, rfl⟩
theorem cv_X0_209 : xCv RX0 209 yX3_giveBack mX3_giveBack 16 1 := ⟨(xT_t3 (List.mem_of_getElem? (i := 30) rfl) rfl), (xT_t3 (List.mem_of_getElem? (i := 31) rfl) rfl), (xT_t3 (List.mem_of_getElem? (i := 32) rfl) rfl), (xT_t1 (List.mem_of_getElem? (i := 5) rfl) rfl), (xT_t3 (List.mem_of_getElem? (i := 33) rfl) rfl), by decide +kernel, Nat.le_of_ble_eq_true rfl, (3, 16), TX3, 16, rfl, rfl⟩
theorem cv_X0_212 : xCv RX0 212 yX1_leaveQueue mX1_leaveQueue 1 2 := ⟨(xT_t3 (List.mem_of_getElem? (i := 35) rfl) rfl), (xT_t3 (List.mem_of_getElem? (i := 36) rfl) rfl), (xT_t3 (List.mem_of_getElem? (i := 37) rfl) rfl), (xT_t1 (List.mem_of_getElem? (i := 3) rfl) rfl), (xT_t3 (List.mem_of_getElem? (i := 38) rfl) rfl), by decide +kernel, Nat.le_of_ble_eq_true rfl, (1, 9), TX1, 9, rfl, rfl⟩
theorem cv_X0_215 : xCv RX0 215 yX1_release mX1_release 1 1 := ⟨(xT_t3 (List.mem_of_getElem? (i := 39) rfl) rfl), (xT_t3 (List.mem_of_getElem? (i := 40) rfl) rfl), (xT_t3 (List.mem_of_getElem? (i := 41) rfl) rfl), (xT_t1 (List.mem_of_getElem? (i := 3) rfl) rfl), (xT_t3 (List.mem_of_getElem? (i := 42) rfl) rfl), by decide +kernel, Nat.le_of_ble_eq_true rfl, (1, 9), TX1, 9, rfl, rfl⟩
theorem cv_X0_221 : xCv RX0 221 yX2_isIdle mX2_isIdle 13 0 := ⟨(xT_t3 (List.mem_of_getElem? (i := 44) rfl) rfl), (xT_t3 (List.mem_of_getElem? (i := 45) rfl) rfl), (xT_t3 (List.mem_of_getElem? (i := 46) rfl) rfl), (xT_t1 (List.mem_of_getElem? (i := 4) rfl) rfl), (xT_t3 (List.mem_of_getElem? (i := 47) rfl) rfl), by decide +kernel, Nat.le_of_ble_eq_true rfl, (2, 12), TX2, 12, rfl, rfl⟩
theorem cv_X0_225 : xCv RX0 225 yX2_restartSending mX2_restartSending 13 0 := ⟨(xT_t3 (List.mem_of_getElem? (i := 48) rfl) rfl), (xT_t2 (List.mem_of_getElem? (i := 85) rfl) rfl), (xT_t2 (List.mem_of_getElem? (i := 86) rfl) rfl), (xT_t1 (List.mem_of_getElem? (i := 4) rfl) rfl), (xT_t2 (List.mem_of_getElem? (i := 87) rfl) rfl), by decide +kernel, Nat.le_of_ble_eq_true rfl, (2, 12), TX2, 12, rfl, rfl⟩
theorem cv_X0_231 : xCv RX0 231 yX0_send mX0_send 0 1 := ⟨(xT_t3 (List.mem_of_getElem? (i := 98) rfl) rfl), (xT_t3 (List.mem_of_getElem? (i := 99) rfl) rfl), (xT_t3 (List.mem_of_getElem? (i := 100) rfl) rfl), (xT_t1 (List.mem_of_getElem? (i := 2) rfl) rfl), (xT_t3 (List.mem_of_getElem? (i := 101) rfl) rfl), by decide +kernel, Nat.le_of_ble_eq_true rfl, (0, 13), TX0, 13, rfl, rfl⟩
theorem cv_X0_244 : xCv RX0 244 yX3_limitWith mX3_limitWith 16 1 := ⟨(xT_t3 (List.mem_of_getElem? (i := 123) rfl) rfl), (xT_t2 (List.mem_of_getElem? (i := 232) rfl) rfl), (xT_t2 (List.mem_of_getElem? (i := 233) rfl) rfl), (xT_t1 (List.mem_of_getElem? (i := 5) rfl) rfl), (xT_t2 (List.mem_of_getElem? (i := 234) rfl) rfl), by decide +kernel, Nat.le_of_ble_eq_true rfl, (3, 16), TX3, 16, rfl, rfl⟩
theorem cv_X0_259 : xCv RX0 259 yX0_sendInTurns mX0_sendInTurns 0 1 := ⟨(xT_t3 (List.mem_of_getElem? (i := 102) rfl) rfl), (xT_t3 (List.mem_of_getElem? (i := 104) rfl) rfl), (xT_s (List.mem_of_getElem? (i := 7) rfl) rfl), (xT_t1 (List.mem_of_getElem? (i := 2) rfl) rfl), (xT_t3 (List.mem_of_getElem? (i := 105) rfl) rfl), by decide +kernel, Nat.le_of_ble_eq_true rfl, (0, 13), TX0, 13, rfl, rfl⟩
theorem cv_X0_262 : xCv RX0 262 yX0_sendByPriority mX0_sendByPriority 0 1 := ⟨(xT_t3 (List.mem_of_getElem? (i := 115) rfl) rfl), (xT_t3 (List.mem_of_getElem? (i := 117) rfl) rfl), (xT_s (List.mem_of_getElem? (i := 8) rfl) rfl), (xT_t1 (List.mem_of_getElem? (i := 2) rfl) rfl), (xT_t3 (List.mem_of_getElem? (i := 118) rfl) rfl), by decide +kernel, Nat.le_of_ble_eq_true rfl, (0, 13), TX0, 13, rfl, rfl⟩
theorem cv_X0_268 : xCv RX0 268 yX2_highestBusyQueue mX2_highestBusyQueue 13 0 := ⟨(xT_t3 (List.mem_of_getElem? (i := 119) rfl) rfl), (xT_t3 (List.mem_of_getElem? (i := 120) rfl) rfl), (xT_t3 (List.mem_of_getElem? (i := 121) rfl) rfl), (xT_t1 (List.mem_of_getElem? (i := 4) rfl) rfl), (xT_t3 (List.mem_of_getElem? (i := 122) rfl) rfl), by decide +kernel, Nat.le_of_ble_eq_true rfl, (2, 12), TX2, 12, rfl, rfl⟩
theorem cv_X0_273 : xCv RX0 273 yX2_queueAtTurn mX2_queueAtTurn 13 0 := ⟨(xT_t3 (List.mem_of_getElem? (i := 107) rfl) rfl), (xT_t3 (List.mem_of_getElem? (i := 108) rfl) rfl), (xT_t3 (List.mem_of_getElem? (i := 109) rfl) rfl), (xT_t1 (List.mem_of_getElem? (i := 4) rfl) rfl), (xT_t3 (List.mem_of_getElem? (i := 110) rfl) rfl), by decide +kernel, Nat.le_of_ble_eq_true rfl, (2, 12), TX2, 12, rfl, rfl⟩
theorem cv_X0_276 : xCv RX0 276 yX2_passTurn mX2_passTurn 13 0 := ⟨(xT_t3 (List.mem_of_getElem? (i := 111) rfl) rfl), (xT_t3 (List.mem_of_getElem? (i := 112) rfl) rfl), (xT_t3 (List.mem_of_getElem? (i := 113) rfl) rfl), (xT_t1 (List.mem_of_getElem? (i := 4) rfl) rfl), (xT_t3 (List.mem_of_getElem? (i := 114) rfl) rfl), by decide +kernel, Nat.le_of_ble_eq_true rfl, (2, 12), TX2, 12, rfl, rfl⟩
theorem cv_X1_47 : xCv RX1 47 yX1_isCell mX1_isCell 1 1 := ⟨(xT_t3 (List.mem_of_getElem? (i := 7) rfl) rfl), (xT_t3 (List.mem_of_getElem? (i := 8) rfl) rfl), (xT_t3 (List.mem_of_getElem? (i := 9) rfl) rfl), (xT_t1 (List.mem_of_getElem? (i := 3) rfl) rfl), (xT_t3 (List.mem_of_getElem? (i := 10) rfl) rfl), by decide +kernel, Nat.le_of_ble_eq_true rfl, (1, 9), TX1, 9, rfl, rfl⟩
theorem cv_X1_51 : xCv RX1 51 yX1_partsOf mX1_partsOf 1 1 := ⟨(xT_t4 (List.mem_of_getElem? (i := 20) rfl) rfl), (xT_t4 (List.mem_of_getElem? (i := 9) rfl) rfl), (xT_t4 (List.mem_of_getElem? (i := 10) rfl) rfl), (xT_t1 (List.mem_of_getElem? (i := 3) rfl) rfl), (xT_t4 (List.mem_of_getElem? (i := 11) rfl) rfl), by decide +kernel, Nat.le_of_ble_eq_true rfl, (1, 9), TX1, 9, rfl, rfl⟩
theorem cv_X1_55 : xCv RX1 55 yX1_partBehind mX1_partBehind 1 1 := ⟨(xT_t4 (List.mem_of_getElem? (i := 21) rfl) rfl), (xT_t4 (List.mem_of_getElem? (i := 22) rfl) rfl), (xT_t4 (List.mem_of_getElem? (i := 23) rfl) rfl), (xT_t1 (List.mem_of_getElem? (i := 3) rfl) rfl), (xT_t4 (List.mem_of_getElem? (i := 24) rfl) rfl), by decide +kernel, Nat.le_of_ble_eq_true rfl, (1, 9), TX1, 9, rfl, rfl⟩
theorem cv_X1_64 : xCv RX1 64 yX1_startsRun mX1_startsRun 1 1 := ⟨(xT_t3 (List.mem_of_getElem? (i := 70) rfl) rfl), (xT_t3 (List.mem_of_getElem? (i := 71) rfl) rfl), (xT_t3 (List.mem_of_getElem? (i := 72) rfl) rfl), (xT_t1 (List.mem_of_getElem? (i := 3) rfl) rfl), (xT_t3 (List.mem_of_getElem? (i := 73) rfl) rfl), by decide +kernel, Nat.le_of_ble_eq_true rfl, (1, 9), TX1, 9, rfl, rfl⟩
theorem cv_X1_67 : xCv RX1 67 yX1_chooseRun mX1_chooseRun 1 1 := ⟨(xT_t3 (List.mem_of_getElem? (i := 66) rfl) rfl), (xT_t3 (List.mem_of_getElem? (i := 68) rfl) rfl), (xT_s (List.mem_of_getElem? (i := 5) rfl) rfl), (xT_t1 (List.mem_of_getElem? (i := 3) rfl) rfl), (xT_t3 (List.mem_of_getElem? (i := 69) rfl) rfl), by decide +kernel, Nat.le_of_ble_eq_true rfl, (1, 9), TX1, 9, rfl, rfl⟩
theorem cv_X1_70 : xCv RX1 70 yX1_freeLength mX1_freeLength 1 1 := ⟨(xT_t3 (List.mem_of_getElem? (i := 74) rfl) rfl), (xT_t3 (List.mem_of_getElem? (i := 75) rfl) rfl), (xT_t3 (List.mem_of_getElem? (i := 76) rfl) rfl), (xT_t1 (List.mem_of_getElem? (i := 3) rfl) rfl), (xT_t3 (List.mem_of_getElem? (i := 77) rfl) rfl), by decide +kernel, Nat.le_of_ble_eq_true rfl, (1, 9), TX1, 9, rfl, rfl⟩
theorem cv_X1_76 : xCv RX1 76 yX1_occupy mX1_occupy 1 2 := ⟨(xT_t3 (List.mem_of_getElem? (i := 82) rfl) rfl), (xT_t3 (List.mem_of_getElem? (i := 84) rfl) rfl), (xT_s (List.mem_of_getElem? (i := 6) rfl) rfl), (xT_t1 (List.mem_of_getElem? (i := 3) rfl) rfl), (xT_t3 (List.mem_of_getElem? (i := 85) rfl) rfl), by decide +kernel, Nat.le_of_ble_eq_true rfl, (1, 9), TX1, 9, rfl, rfl⟩
theorem cv_X2_24 : xCv RX2 24 yX3_startAnew mX3_startAnew 16 0 := ⟨(xT_t2 (List.mem_of_getElem? (i := 80) rfl) rfl), (xT_t2 (List.mem_of_getElem? (i := 81) rfl) rfl), (xT_t2 (List.mem_of_getElem? (i := 82) rfl) rfl), (xT_t1 (List.mem_of_getElem? (i := 5) rfl) rfl), (xT_t2 (List.mem_of_getElem? (i := 83) rfl) rfl), by decide +kernel, Nat.le_of_ble_eq_true rfl, (3, 16), TX3, 16, rfl, rfl⟩
theorem cv_X2_44 : xCv RX2 44 yX2_restartSending mX2_restartSending 13 0 := ⟨(xT_t2 (List.mem_of_getElem? (i := 84) rfl) rfl), (xT_t2 (List.mem_of_getElem? (i := 85) rfl) rfl), (xT_t2 (List.mem_of_getElem? (i := 86) rfl) rfl), (xT_t1 (List.mem_of_getElem? (i := 4) rfl) rfl), (xT_t2 (List.mem_of_getElem? (i := 87) rfl) rfl), by decide +kernel, Nat.le_of_ble_eq_true rfl, (2, 12), TX2, 12, rfl, rfl⟩
theorem cv_X2_53 : xCv RX2 53 yX3_copyFrom mX3_copyFrom 16 1 := ⟨(xT_t4 (List.mem_of_getElem? (i := 76) rfl) rfl), (xT_t4 (List.mem_of_getElem? (i := 77) rfl) rfl), (xT_t4 (List.mem_of_getElem? (i := 78) rfl) rfl), (xT_t1 (List.mem_of_getElem? (i := 5) rfl) rfl), (xT_t4 (List.mem_of_getElem? (i := 79) rfl) rfl), by decide +kernel, Nat.le_of_ble_eq_true rfl, (3, 16), TX3, 16, rfl, rfl⟩
theorem cv_X2_81 : xCv RX2 81 yX2_guaranteedInUse mX2_guaranteedInUse 13 0 := ⟨(xT_t2 (List.mem_of_getElem? (i := 139) rfl) rfl), (xT_t2 (List.mem_of_getElem? (i := 140) rfl) rfl), (xT_t2 (List.mem_of_getElem? (i := 141) rfl) rfl), (xT_t1 (List.mem_of_getElem? (i := 4) rfl) rfl), (xT_t2 (List.mem_of_getElem? (i := 142) rfl) rfl), by decide +kernel, Nat.le_of_ble_eq_true rfl, (2, 12), TX2, 12, rfl, rfl⟩
theorem cv_X2_88 : xCv RX2 88 yX2_guaranteeLeft mX2_guaranteeLeft 13 0 := ⟨(xT_t2 (List.mem_of_getElem? (i := 135) rfl) rfl), (xT_t2 (List.mem_of_getElem? (i := 136) rfl) rfl), (xT_t2 (List.mem_of_getElem? (i := 137) rfl) rfl), (xT_t1 (List.mem_of_getElem? (i := 4) rfl) rfl), (xT_t2 (List.mem_of_getElem? (i := 138) rfl) rfl), by decide +kernel, Nat.le_of_ble_eq_true rfl, (2, 12), TX2, 12, rfl, rfl⟩
theorem cv_X3_61 : xCv RX3 61 yX3_limitWith mX3_limitWith 16 1 := ⟨(xT_t2 (List.mem_of_getElem? (i := 231) rfl) rfl), (xT_t2 (List.mem_of_getElem? (i := 232) rfl) rfl), (xT_t2 (List.mem_of_getElem? (i := 233) rfl) rfl), (xT_t1 (List.mem_of_getElem? (i := 5) rfl) rfl), (xT_t2 (List.mem_of_getElem? (i := 234) rfl) rfl), by decide +kernel, Nat.le_of_ble_eq_true rfl, (3, 16), TX3, 16, rfl, rfl⟩
theorem cv_X4_25 : xCv RX4 25 yX4_rewind mX4_rewind 23 0 := ⟨(xT_t4 (List.mem_of_getElem? (i := 110) rfl) rfl), (xT_t4 (List.mem_of_getElem? (i := 111) rfl) rfl), (xT_t4 (List.mem_of_getElem? (i := 112) rfl) rfl), (xT_t1 (List.mem_of_getElem? (i := 6) rfl) rfl), (xT_t4 (List.mem_of_getElem? (i := 113) rfl) rfl), by decide +kernel, Nat.le_of_ble_eq_true rfl, (4, 9), TX4, 9, rfl, rfl⟩
theorem cv_X4_28 : xCv RX4 28 yX4_readOrder mX4_readOrder 23 1 := ⟨(xT_t4 (List.mem_of_getElem? (i := 114) rfl) rfl), (xT_t4 (List.mem_of_getElem? (i := 115) rfl) rfl), (xT_t4 (List.mem_of_getElem? (i := 116) rfl) rfl), (xT_t1 (List.mem_of_getElem? (i := 6) rfl) rfl), (xT_t4 (List.mem_of_getElem? (i := 117) rfl) rfl), by decide +kernel, Nat.le_of_ble_eq_true rfl, (4, 9), TX4, 9, rfl, rfl⟩
theorem cv_X4_32 : xCv RX4 32 yX4_letterHere mX4_letterHere 23 0 := ⟨(xT_t4 (List.mem_of_getElem? (i := 118) rfl) rfl), (xT_t4 (List.mem_of_getElem? (i := 120) rfl) rfl), (xT_s (List.mem_of_getElem? (i := 10) rfl) rfl), (xT_t1 (List.mem_of_getElem? (i := 6) rfl) rfl), (xT_t4 (List.mem_of_getElem? (i := 121) rfl) rfl), by decide +kernel, Nat.le_of_ble_eq_true rfl, (4, 9), TX4, 9, rfl, rfl⟩
theorem cv_X4_45 : xCv RX4 45 yX4_readDigit mX4_readDigit 23 1 := ⟨(xT_t4 (List.mem_of_getElem? (i := 122) rfl) rfl), (xT_t4 (List.mem_of_getElem? (i := 124) rfl) rfl), (xT_s (List.mem_of_getElem? (i := 11) rfl) rfl), (xT_t1 (List.mem_of_getElem? (i := 6) rfl) rfl), (xT_t4 (List.mem_of_getElem? (i := 125) rfl) rfl), by decide +kernel, Nat.le_of_ble_eq_true rfl, (4, 9), TX4, 9, rfl, rfl⟩
theorem cv_X4_52 : xCv RX4 52 yX4_readNumber mX4_readNumber 23 2 := ⟨(xT_t4 (List.mem_of_getElem? (i := 126) rfl) rfl), (xT_t4 (List.mem_of_getElem? (i := 128) rfl) rfl), (xT_s (List.mem_of_getElem? (i := 12) rfl) rfl), (xT_t1 (List.mem_of_getElem? (i := 6) rfl) rfl), (xT_t4 (List.mem_of_getElem? (i := 129) rfl) rfl), by decide +kernel, Nat.le_of_ble_eq_true rfl, (4, 9), TX4, 9, rfl, rfl⟩
theorem cv_X4_59 : xCv RX4 59 yX4_readCount mX4_readCount 23 0 := ⟨(xT_t4 (List.mem_of_getElem? (i := 131) rfl) rfl), (xT_t4 (List.mem_of_getElem? (i := 133) rfl) rfl), (xT_s (List.mem_of_getElem? (i := 13) rfl) rfl), (xT_t1 (List.mem_of_getElem? (i := 6) rfl) rfl), (xT_t4 (List.mem_of_getElem? (i := 134) rfl) rfl), by decide +kernel, Nat.le_of_ble_eq_true rfl, (4, 9), TX4, 9, rfl, rfl⟩
theorem cv_X4_62 : xCv RX4 62 yX4_expect mX4_expect 23 1 := ⟨(xT_t4 (List.mem_of_getElem? (i := 135) rfl) rfl), (xT_t4 (List.mem_of_getElem? (i := 137) rfl) rfl), (xT_s (List.mem_of_getElem? (i := 14) rfl) rfl), (xT_t1 (List.mem_of_getElem? (i := 6) rfl) rfl), (xT_t4 (List.mem_of_getElem? (i := 138) rfl) rfl), by decide +kernel, Nat.le_of_ble_eq_true rfl, (4, 9), TX4, 9, rfl, rfl⟩
theorem cv_X5_34 : xCv RX5 34 yX0_startAnew mX0_startAnew 0 2 := ⟨(xT_t2 (List.mem_of_getElem? (i := 68) rfl) rfl), (xT_t2 (List.mem_of_getElem? (i := 69) rfl) rfl), (xT_t2 (List.mem_of_getElem? (i := 70) rfl) rfl), (xT_t1 (List.mem_of_getElem? (i := 2) rfl) rfl), (xT_t2 (List.mem_of_getElem? (i := 71) rfl) rfl), by decide +kernel, Nat.le_of_ble_eq_true rfl, (0, 13), TX0, 13, rfl, rfl⟩
theorem cv_X5_52 : xCv RX5 52 yX0_portAt mX0_portAt 0 1 := ⟨(xT_t2 (List.mem_of_getElem? (i := 115) rfl) rfl), (xT_t2 (List.mem_of_getElem? (i := 116) rfl) rfl), (xT_t2 (List.mem_of_getElem? (i := 117) rfl) rfl), (xT_t1 (List.mem_of_getElem? (i := 2) rfl) rfl), (xT_t2 (List.mem_of_getElem? (i := 118) rfl) rfl), by decide +kernel, Nat.le_of_ble_eq_true rfl, (0, 13), TX0, 13, rfl, rfl⟩
theorem cv_X5_61 : xCv RX5 61 yX0_sharedLeft mX0_sharedLeft 0 0 := ⟨(xT_t2 (List.mem_of_getElem? (i := 119) rfl) rfl), (xT_t2 (List.mem_of_getElem? (i := 120) rfl) rfl), (xT_t2 (List.mem_of_getElem? (i := 121) rfl) rfl), (xT_t1 (List.mem_of_getElem? (i := 2) rfl) rfl), (xT_t2 (List.mem_of_getElem? (i := 122) rfl) rfl), by decide +kernel, Nat.le_of_ble_eq_true rfl, (0, 13), TX0, 13, rfl, rfl⟩
theorem cv_X5_65 : xCv RX5 65 yX2_shareBeyondGuarantee mX2_shareBeyondGuarantee 13 0 := ⟨(xT_t2 (List.mem_of_getElem? (i := 131) rfl) rfl), (xT_t2 (List.mem_of_getElem? (i := 132) rfl) rfl), (xT_t2 (List.mem_of_getElem? (i := 133) rfl) rfl), (xT_t1 (List.mem_of_getElem? (i := 4) rfl) rfl), (xT_t2 (List.mem_of_getElem? (i := 134) rfl) rfl), by decide +kernel, Nat.le_of_ble_eq_true rfl, (2, 12), TX2, 12, rfl, rfl⟩
theorem cv_X5_68 : xCv RX5 68 yX2_headroomInUse mX2_headroomInUse 13 0 := ⟨(xT_t2 (List.mem_of_getElem? (i := 150) rfl) rfl), (xT_t2 (List.mem_of_getElem? (i := 151) rfl) rfl), (xT_t2 (List.mem_of_getElem? (i := 152) rfl) rfl), (xT_t1 (List.mem_of_getElem? (i := 4) rfl) rfl), (xT_t2 (List.mem_of_getElem? (i := 153) rfl) rfl), by decide +kernel, Nat.le_of_ble_eq_true rfl, (2, 12), TX2, 12, rfl, rfl⟩
theorem cv_X5_74 : xCv RX5 74 yX0_queueAt mX0_queueAt 0 2 := ⟨(xT_t2 (List.mem_of_getElem? (i := 158) rfl) rfl), (xT_t2 (List.mem_of_getElem? (i := 159) rfl) rfl), (xT_t2 (List.mem_of_getElem? (i := 160) rfl) rfl), (xT_t1 (List.mem_of_getElem? (i := 2) rfl) rfl), (xT_t2 (List.mem_of_getElem? (i := 161) rfl) rfl), by decide +kernel, Nat.le_of_ble_eq_true rfl, (0, 13), TX0, 13, rfl, rfl⟩
theorem cv_X5_118 : xCv RX5 118 yX0_giveGrant mX0_giveGrant 0 3 := ⟨(xT_t2 (List.mem_of_getElem? (i := 189) rfl) rfl), (xT_t2 (List.mem_of_getElem? (i := 190) rfl) rfl), (xT_t2 (List.mem_of_getElem? (i := 191) rfl) rfl), (xT_t1 (List.mem_of_getElem? (i := 2) rfl) rfl), (xT_t2 (List.mem_of_getElem? (i := 192) rfl) rfl), by decide +kernel, Nat.le_of_ble_eq_true rfl, (0, 13), TX0, 13, rfl, rfl⟩
theorem cv_X5_125 : xCv RX5 125 yX0_endGrant mX0_endGrant 0 2 := ⟨(xT_t2 (List.mem_of_getElem? (i := 212) rfl) rfl), (xT_t2 (List.mem_of_getElem? (i := 200) rfl) rfl), (xT_t2 (List.mem_of_getElem? (i := 201) rfl) rfl), (xT_t1 (List.mem_of_getElem? (i := 2) rfl) rfl), (xT_t2 (List.mem_of_getElem? (i := 202) rfl) rfl), by decide +kernel, Nat.le_of_ble_eq_true rfl, (0, 13), TX0, 13, rfl, rfl⟩
theorem cv_X5_129 : xCv RX5 129 yX0_receive mX0_receive 0 3 := ⟨(xT_t2 (List.mem_of_getElem? (i := 217) rfl) rfl), (xT_t2 (List.mem_of_getElem? (i := 218) rfl) rfl), (xT_t2 (List.mem_of_getElem? (i := 219) rfl) rfl), (xT_t1 (List.mem_of_getElem? (i := 2) rfl) rfl), (xT_t2 (List.mem_of_getElem? (i := 220) rfl) rfl), by decide +kernel, Nat.le_of_ble_eq_true rfl, (0, 13), TX0, 13, rfl, rfl⟩
theorem cv_X5_133 : xCv RX5 133 yX0_passTick mX0_passTick 0 0 := ⟨(xT_t3 (List.mem_of_getElem? (i := 94) rfl) rfl), (xT_t3 (List.mem_of_getElem? (i := 95) rfl) rfl), (xT_t3 (List.mem_of_getElem? (i := 96) rfl) rfl), (xT_t1 (List.mem_of_getElem? (i := 2) rfl) rfl), (xT_t3 (List.mem_of_getElem? (i := 97) rfl) rfl), by decide +kernel, Nat.le_of_ble_eq_true rfl, (0, 13), TX0, 13, rfl, rfl⟩
theorem cv_X5_136 : xCv RX5 136 yX0_discardAll mX0_discardAll 0 1 := ⟨(xT_t3 (List.mem_of_getElem? (i := 128) rfl) rfl), (xT_t3 (List.mem_of_getElem? (i := 129) rfl) rfl), (xT_t3 (List.mem_of_getElem? (i := 130) rfl) rfl), (xT_t1 (List.mem_of_getElem? (i := 2) rfl) rfl), (xT_t3 (List.mem_of_getElem? (i := 131) rfl) rfl), by decide +kernel, Nat.le_of_ble_eq_true rfl, (0, 13), TX0, 13, rfl, rfl⟩
theorem cv_X5_157 : xCv RX5 157 yX5_lossOfArrivals mX5_lossOfArrivals 20 4 := ⟨(xT_t3 (List.mem_of_getElem? (i := 141) rfl) rfl), (xT_t3 (List.mem_of_getElem? (i := 143) rfl) rfl), (xT_s (List.mem_of_getElem? (i := 9) rfl) rfl), (xT_t1 (List.mem_of_getElem? (i := 1) rfl) rfl), (xT_t3 (List.mem_of_getElem? (i := 144) rfl) rfl), by decide +kernel, Nat.le_of_ble_eq_true rfl, (5, 5), TX5, 5, rfl, rfl⟩
theorem cv_X5_161 : xCv RX5 161 yX0_poolSize mX0_poolSize 0 0 := ⟨(xT_t3 (List.mem_of_getElem? (i := 153) rfl) rfl), (xT_t2 (List.mem_of_getElem? (i := 124) rfl) rfl), (xT_t2 (List.mem_of_getElem? (i := 125) rfl) rfl), (xT_t1 (List.mem_of_getElem? (i := 2) rfl) rfl), (xT_t2 (List.mem_of_getElem? (i := 126) rfl) rfl), by decide +kernel, Nat.le_of_ble_eq_true rfl, (0, 13), TX0, 13, rfl, rfl⟩
theorem cv_X5_164 : xCv RX5 164 yX2_guaranteeLeft mX2_guaranteeLeft 13 0 := ⟨(xT_t3 (List.mem_of_getElem? (i := 158) rfl) rfl), (xT_t2 (List.mem_of_getElem? (i := 136) rfl) rfl), (xT_t2 (List.mem_of_getElem? (i := 137) rfl) rfl), (xT_t1 (List.mem_of_getElem? (i := 4) rfl) rfl), (xT_t2 (List.mem_of_getElem? (i := 138) rfl) rfl), by decide +kernel, Nat.le_of_ble_eq_true rfl, (2, 12), TX2, 12, rfl, rfl⟩
theorem cv_X5_167 : xCv RX5 167 yX3_limitWith mX3_limitWith 16 1 := ⟨(xT_t3 (List.mem_of_getElem? (i := 167) rfl) rfl), (xT_t2 (List.mem_of_getElem? (i := 232) rfl) rfl), (xT_t2 (List.mem_of_getElem? (i := 233) rfl) rfl), (xT_t1 (List.mem_of_getElem? (i := 5) rfl) rfl), (xT_t2 (List.mem_of_getElem? (i := 234) rfl) rfl), by decide +kernel, Nat.le_of_ble_eq_true rfl, (3, 16), TX3, 16, rfl, rfl⟩
theorem cv_X5_214 : xCv RX5 214 yX1_packetBehind mX1_packetBehind 1 1 := ⟨(xT_t3 (List.mem_of_getElem? (i := 232) rfl) rfl), (xT_t3 (List.mem_of_getElem? (i := 233) rfl) rfl), (xT_t3 (List.mem_of_getElem? (i := 234) rfl) rfl), (xT_t1 (List.mem_of_getElem? (i := 3) rfl) rfl), (xT_t3 (List.mem_of_getElem? (i := 235) rfl) rfl), by decide +kernel, Nat.le_of_ble_eq_true rfl, (1, 9), TX1, 9, rfl, rfl⟩
theorem cv_X5_217 : xCv RX5 217 yX1_numberOf mX1_numberOf 1 1 := ⟨(xT_t3 (List.mem_of_getElem? (i := 236) rfl) rfl), (xT_t3 (List.mem_of_getElem? (i := 237) rfl) rfl), (xT_t3 (List.mem_of_getElem? (i := 238) rfl) rfl), (xT_t1 (List.mem_of_getElem? (i := 3) rfl) rfl), (xT_t3 (List.mem_of_getElem? (i := 239) rfl) rfl), by decide +kernel, Nat.le_of_ble_eq_true rfl, (1, 9), TX1, 9, rfl, rfl⟩
theorem cv_X5_220 : xCv RX5 220 yX1_find mX1_find 1 1 := ⟨(xT_t4 (List.mem_of_getElem? (i := 4) rfl) rfl), (xT_t4 (List.mem_of_getElem? (i := 5) rfl) rfl), (xT_t4 (List.mem_of_getElem? (i := 6) rfl) rfl), (xT_t1 (List.mem_of_getElem? (i := 3) rfl) rfl), (xT_t4 (List.mem_of_getElem? (i := 7) rfl) rfl), by decide +kernel, Nat.le_of_ble_eq_true rfl, (1, 9), TX1, 9, rfl, rfl⟩
theorem cv_X5_223 : xCv RX5 223 yX1_partsOf mX1_partsOf 1 1 := ⟨(xT_t4 (List.mem_of_getElem? (i := 8) rfl) rfl), (xT_t4 (List.mem_of_getElem? (i := 9) rfl) rfl), (xT_t4 (List.mem_of_getElem? (i := 10) rfl) rfl), (xT_t1 (List.mem_of_getElem? (i := 3) rfl) rfl), (xT_t4 (List.mem_of_getElem? (i := 11) rfl) rfl), by decide +kernel, Nat.le_of_ble_eq_true rfl, (1, 9), TX1, 9, rfl, rfl⟩
theorem cv_X5_226 : xCv RX5 226 yX1_partStart mX1_partStart 1 2 := ⟨(xT_t4 (List.mem_of_getElem? (i := 16) rfl) rfl), (xT_t4 (List.mem_of_getElem? (i := 17) rfl) rfl), (xT_t4 (List.mem_of_getElem? (i := 18) rfl) rfl), (xT_t1 (List.mem_of_getElem? (i := 3) rfl) rfl), (xT_t4 (List.mem_of_getElem? (i := 19) rfl) rfl), by decide +kernel, Nat.le_of_ble_eq_true rfl, (1, 9), TX1, 9, rfl, rfl⟩
theorem cv_X5_232 : xCv RX5 232 yX1_countRuns mX1_countRuns 1 0 := ⟨(xT_t4 (List.mem_of_getElem? (i := 33) rfl) rfl), (xT_t4 (List.mem_of_getElem? (i := 34) rfl) rfl), (xT_t4 (List.mem_of_getElem? (i := 35) rfl) rfl), (xT_t1 (List.mem_of_getElem? (i := 3) rfl) rfl), (xT_t4 (List.mem_of_getElem? (i := 36) rfl) rfl), by decide +kernel, Nat.le_of_ble_eq_true rfl, (1, 9), TX1, 9, rfl, rfl⟩
theorem cv_X5_235 : xCv RX5 235 yX1_findRun mX1_findRun 1 1 := ⟨(xT_t4 (List.mem_of_getElem? (i := 41) rfl) rfl), (xT_t4 (List.mem_of_getElem? (i := 42) rfl) rfl), (xT_t4 (List.mem_of_getElem? (i := 43) rfl) rfl), (xT_t1 (List.mem_of_getElem? (i := 3) rfl) rfl), (xT_t4 (List.mem_of_getElem? (i := 44) rfl) rfl), by decide +kernel, Nat.le_of_ble_eq_true rfl, (1, 9), TX1, 9, rfl, rfl⟩
theorem cv_X5_238 : xCv RX5 238 yX1_freeLength mX1_freeLength 1 1 := ⟨(xT_t4 (List.mem_of_getElem? (i := 49) rfl) rfl), (xT_t3 (List.mem_of_getElem? (i := 75) rfl) rfl), (xT_t3 (List.mem_of_getElem? (i := 76) rfl) rfl), (xT_t1 (List.mem_of_getElem? (i := 3) rfl) rfl), (xT_t3 (List.mem_of_getElem? (i := 77) rfl) rfl), by decide +kernel, Nat.le_of_ble_eq_true rfl, (1, 9), TX1, 9, rfl, rfl⟩
theorem cv_X5_241 : xCv RX5 241 yX0_judge mX0_judge 0 3 := ⟨(xT_t4 (List.mem_of_getElem? (i := 54) rfl) rfl), (xT_t2 (List.mem_of_getElem? (i := 222) rfl) rfl), (xT_t2 (List.mem_of_getElem? (i := 223) rfl) rfl), (xT_t1 (List.mem_of_getElem? (i := 2) rfl) rfl), (xT_t2 (List.mem_of_getElem? (i := 224) rfl) rfl), by decide +kernel, Nat.le_of_ble_eq_true rfl, (0, 13), TX0, 13, rfl, rfl⟩
theorem cv_X5_248 : xCv RX5 248 yX0_copyFrom mX0_copyFrom 0 1 := ⟨(xT_t4 (List.mem_of_getElem? (i := 63) rfl) rfl), (xT_t4 (List.mem_of_getElem? (i := 64) rfl) rfl), (xT_t4 (List.mem_of_getElem? (i := 65) rfl) rfl), (xT_t1 (List.mem_of_getElem? (i := 2) rfl) rfl), (xT_t4 (List.mem_of_getElem? (i := 66) rfl) rfl), by decide +kernel, Nat.le_of_ble_eq_true rfl, (0, 13), TX0, 13, rfl, rfl⟩
theorem cv_X5_252 : xCv RX5 252 yX2_isIdle mX2_isIdle 13 0 := ⟨(xT_t4 (List.mem_of_getElem? (i := 85) rfl) rfl), (xT_t3 (List.mem_of_getElem? (i := 45) rfl) rfl), (xT_t3 (List.mem_of_getElem? (i := 46) rfl) rfl), (xT_t1 (List.mem_of_getElem? (i := 4) rfl) rfl), (xT_t3 (List.mem_of_getElem? (i := 47) rfl) rfl), by decide +kernel, Nat.le_of_ble_eq_true rfl, (2, 12), TX2, 12, rfl, rfl⟩
theorem cv_X5_256 : xCv RX5 256 yX0_send mX0_send 0 1 := ⟨(xT_t4 (List.mem_of_getElem? (i := 86) rfl) rfl), (xT_t3 (List.mem_of_getElem? (i := 99) rfl) rfl), (xT_t3 (List.mem_of_getElem? (i := 100) rfl) rfl), (xT_t1 (List.mem_of_getElem? (i := 2) rfl) rfl), (xT_t3 (List.mem_of_getElem? (i := 101) rfl) rfl), by decide +kernel, Nat.le_of_ble_eq_true rfl, (0, 13), TX0, 13, rfl, rfl⟩
theorem cv_X5_266 : xCv RX5 266 yX4_findFault mX4_findFault 23 1 := ⟨(xT_t4 (List.mem_of_getElem? (i := 106) rfl) rfl), (xT_t4 (List.mem_of_getElem? (i := 107) rfl) rfl), (xT_t4 (List.mem_of_getElem? (i := 108) rfl) rfl), (xT_t1 (List.mem_of_getElem? (i := 6) rfl) rfl), (xT_t4 (List.mem_of_getElem? (i := 109) rfl) rfl), by decide +kernel, Nat.le_of_ble_eq_true rfl, (4, 9), TX4, 9, rfl, rfl⟩
theorem cv_X5_269 : xCv RX5 269 yX4_rewind mX4_rewind 23 0 := ⟨(xT_t4 (List.mem_of_getElem? (i := 143) rfl) rfl), (xT_t4 (List.mem_of_getElem? (i := 111) rfl) rfl), (xT_t4 (List.mem_of_getElem? (i := 112) rfl) rfl), (xT_t1 (List.mem_of_getElem? (i := 6) rfl) rfl), (xT_t4 (List.mem_of_getElem? (i := 113) rfl) rfl), by decide +kernel, Nat.le_of_ble_eq_true rfl, (4, 9), TX4, 9, rfl, rfl⟩
theorem cv_X5_272 : xCv RX5 272 yX4_hasMore mX4_hasMore 23 0 := ⟨(xT_t4 (List.mem_of_getElem? (i := 144) rfl) rfl), (xT_t4 (List.mem_of_getElem? (i := 145) rfl) rfl), (xT_t4 (List.mem_of_getElem? (i := 146) rfl) rfl), (xT_t1 (List.mem_of_getElem? (i := 6) rfl) rfl), (xT_t4 (List.mem_of_getElem? (i := 147) rfl) rfl), by decide +kernel, Nat.le_of_ble_eq_true rfl, (4, 9), TX4, 9, rfl, rfl⟩
theorem cv_X5_275 : xCv RX5 275 yX4_readOrder mX4_readOrder 23 1 := ⟨(xT_t4 (List.mem_of_getElem? (i := 148) rfl) rfl), (xT_t4 (List.mem_of_getElem? (i := 115) rfl) rfl), (xT_t4 (List.mem_of_getElem? (i := 116) rfl) rfl), (xT_t1 (List.mem_of_getElem? (i := 6) rfl) rfl), (xT_t4 (List.mem_of_getElem? (i := 117) rfl) rfl), by decide +kernel, Nat.le_of_ble_eq_true rfl, (4, 9), TX4, 9, rfl, rfl⟩
theorem cv_X5_302 : xCv RX5 302 yX5_mixPort mX5_mixPort 20 2 := ⟨(xT_t4 (List.mem_of_getElem? (i := 163) rfl) rfl), (xT_t4 (List.mem_of_getElem? (i := 165) rfl) rfl), (xT_s (List.mem_of_getElem? (i := 15) rfl) rfl), (xT_t1 (List.mem_of_getElem? (i := 1) rfl) rfl), (xT_t4 (List.mem_of_getElem? (i := 166) rfl) rfl), by decide +kernel, Nat.le_of_ble_eq_true rfl, (5, 5), TX5, 5, rfl, rfl⟩
theorem cv_X5_306 : xCv RX5 306 yX1_startsRun mX1_startsRun 1 1 := ⟨(xT_t4 (List.mem_of_getElem? (i := 172) rfl) rfl), (xT_t3 (List.mem_of_getElem? (i := 71) rfl) rfl), (xT_t3 (List.mem_of_getElem? (i := 72) rfl) rfl), (xT_t1 (List.mem_of_getElem? (i := 3) rfl) rfl), (xT_t3 (List.mem_of_getElem? (i := 73) rfl) rfl), by decide +kernel, Nat.le_of_ble_eq_true rfl, (1, 9), TX1, 9, rfl, rfl⟩
theorem cv_X5_314 : xCv RX5 314 yX5_mixPackets mX5_mixPackets 20 2 := ⟨(xT_t4 (List.mem_of_getElem? (i := 167) rfl) rfl), (xT_t4 (List.mem_of_getElem? (i := 169) rfl) rfl), (xT_s (List.mem_of_getElem? (i := 16) rfl) rfl), (xT_t1 (List.mem_of_getElem? (i := 1) rfl) rfl), (xT_t4 (List.mem_of_getElem? (i := 170) rfl) rfl), by decide +kernel, Nat.le_of_ble_eq_true rfl, (5, 5), TX5, 5, rfl, rfl⟩
theorem cv_X5_318 : xCv RX5 318 yX1_partBehind mX1_partBehind 1 1 := ⟨(xT_t4 (List.mem_of_getElem? (i := 171) rfl) rfl), (xT_t4 (List.mem_of_getElem? (i := 22) rfl) rfl), (xT_t4 (List.mem_of_getElem? (i := 23) rfl) rfl), (xT_t1 (List.mem_of_getElem? (i := 3) rfl) rfl), (xT_t4 (List.mem_of_getElem? (i := 24) rfl) rfl), by decide +kernel, Nat.le_of_ble_eq_true rfl, (1, 9), TX1, 9, rfl, rfl⟩
theorem cv_X6_32 : xCv RX6 32 yX6_starts mX6_starts 30 2 := ⟨(xT_t4 (List.mem_of_getElem? (i := 179) rfl) rfl), (xT_t4 (List.mem_of_getElem? (i := 181) rfl) rfl), (xT_s (List.mem_of_getElem? (i := 17) rfl) rfl), (xT_t1 (List.mem_of_getElem? (i := 7) rfl) rfl), (xT_t4 (List.mem_of_getElem? (i := 182) rfl) rfl), by decide +kernel, Nat.le_of_ble_eq_true rfl, (6, 13), TX6, 13, rfl, rfl⟩
theorem cv_X6_40 : xCv RX6 40 yX6_isPort mX6_isPort 30 1 := ⟨(xT_t5 (List.mem_of_getElem? (i := 0) rfl) rfl), (xT_t5 (List.mem_of_getElem? (i := 2) rfl) rfl), (xT_s (List.mem_of_getElem? (i := 18) rfl) rfl), (xT_t1 (List.mem_of_getElem? (i := 7) rfl) rfl), (xT_t5 (List.mem_of_getElem? (i := 3) rfl) rfl), by decide +kernel, Nat.le_of_ble_eq_true rfl, (6, 13), TX6, 13, rfl, rfl⟩
theorem cv_X6_51 : xCv RX6 51 yX6_guarantee mX6_guarantee 30 1 := ⟨(xT_t5 (List.mem_of_getElem? (i := 12) rfl) rfl), (xT_t5 (List.mem_of_getElem? (i := 14) rfl) rfl), (xT_s (List.mem_of_getElem? (i := 21) rfl) rfl), (xT_t1 (List.mem_of_getElem? (i := 7) rfl) rfl), (xT_t5 (List.mem_of_getElem? (i := 15) rfl) rfl), by decide +kernel, Nat.le_of_ble_eq_true rfl, (6, 13), TX6, 13, rfl, rfl⟩
theorem cv_X6_55 : xCv RX6 55 yX6_pool mX6_pool 30 0 := ⟨(xT_t5 (List.mem_of_getElem? (i := 8) rfl) rfl), (xT_t5 (List.mem_of_getElem? (i := 10) rfl) rfl), (xT_s (List.mem_of_getElem? (i := 20) rfl) rfl), (xT_t1 (List.mem_of_getElem? (i := 7) rfl) rfl), (xT_t5 (List.mem_of_getElem? (i := 11) rfl) rfl), by decide +kernel, Nat.le_of_ble_eq_true rfl, (6, 13), TX6, 13, rfl, rfl⟩
theorem cv_X6_59 : xCv RX6 59 yX6_sum mX6_sum 30 2 := ⟨(xT_t5 (List.mem_of_getElem? (i := 24) rfl) rfl), (xT_t5 (List.mem_of_getElem? (i := 26) rfl) rfl), (xT_s (List.mem_of_getElem? (i := 24) rfl) rfl), (xT_t1 (List.mem_of_getElem? (i := 7) rfl) rfl), (xT_t5 (List.mem_of_getElem? (i := 27) rfl) rfl), by decide +kernel, Nat.le_of_ble_eq_true rfl, (6, 13), TX6, 13, rfl, rfl⟩
theorem cv_X6_62 : xCv RX6 62 yX6_free mX6_free 30 0 := ⟨(xT_t5 (List.mem_of_getElem? (i := 4) rfl) rfl), (xT_t5 (List.mem_of_getElem? (i := 6) rfl) rfl), (xT_s (List.mem_of_getElem? (i := 19) rfl) rfl), (xT_t1 (List.mem_of_getElem? (i := 7) rfl) rfl), (xT_t5 (List.mem_of_getElem? (i := 7) rfl) rfl), by decide +kernel, Nat.le_of_ble_eq_true rfl, (6, 13), TX6, 13, rfl, rfl⟩
theorem cv_X6_65 : xCv RX6 65 yX6_freeOf mX6_freeOf 30 1 := ⟨(xT_t5 (List.mem_of_getElem? (i := 20) rfl) rfl), (xT_t5 (List.mem_of_getElem? (i := 22) rfl) rfl), (xT_s (List.mem_of_getElem? (i := 23) rfl) rfl), (xT_t1 (List.mem_of_getElem? (i := 7) rfl) rfl), (xT_t5 (List.mem_of_getElem? (i := 23) rfl) rfl), by decide +kernel, Nat.le_of_ble_eq_true rfl, (6, 13), TX6, 13, rfl, rfl⟩
theorem cv_X6_71 : xCv RX6 71 yX6_converts mX6_converts 30 1 := ⟨(xT_t5 (List.mem_of_getElem? (i := 16) rfl) rfl), (xT_t5 (List.mem_of_getElem? (i := 18) rfl) rfl), (xT_s (List.mem_of_getElem? (i := 22) rfl) rfl), (xT_t1 (List.mem_of_getElem? (i := 7) rfl) rfl), (xT_t5 (List.mem_of_getElem? (i := 19) rfl) rfl), by decide +kernel, Nat.le_of_ble_eq_true rfl, (6, 13), TX6, 13, rfl, rfl⟩
theorem cv_X6_75 : xCv RX6 75 yX6_isQueue mX6_isQueue 30 2 := ⟨(xT_t5 (List.mem_of_getElem? (i := 43) rfl) rfl), (xT_t5 (List.mem_of_getElem? (i := 45) rfl) rfl), (xT_s (List.mem_of_getElem? (i := 26) rfl) rfl), (xT_t1 (List.mem_of_getElem? (i := 7) rfl) rfl), (xT_t5 (List.mem_of_getElem? (i := 46) rfl) rfl), by decide +kernel, Nat.le_of_ble_eq_true rfl, (6, 13), TX6, 13, rfl, rfl⟩
theorem cv_X6_79 : xCv RX6 79 yX6_set mX6_set 30 6 := ⟨(xT_t5 (List.mem_of_getElem? (i := 39) rfl) rfl), (xT_t5 (List.mem_of_getElem? (i := 41) rfl) rfl), (xT_s (List.mem_of_getElem? (i := 25) rfl) rfl), (xT_t1 (List.mem_of_getElem? (i := 7) rfl) rfl), (xT_t5 (List.mem_of_getElem? (i := 42) rfl) rfl), by decide +kernel, Nat.le_of_ble_eq_true rfl, (6, 13), TX6, 13, rfl, rfl⟩
theorem cv_X6_83 : xCv RX6 83 yX6_keeps mX6_keeps 30 0 := ⟨(xT_t5 (List.mem_of_getElem? (i := 71) rfl) rfl), (xT_t5 (List.mem_of_getElem? (i := 73) rfl) rfl), (xT_s (List.mem_of_getElem? (i := 27) rfl) rfl), (xT_t1 (List.mem_of_getElem? (i := 7) rfl) rfl), (xT_t5 (List.mem_of_getElem? (i := 74) rfl) rfl), by decide +kernel, Nat.le_of_ble_eq_true rfl, (6, 13), TX6, 13, rfl, rfl⟩
theorem cv_X6_86 : xCv RX6 86 yX6_drops mX6_drops 30 1 := ⟨(xT_t5 (List.mem_of_getElem? (i := 75) rfl) rfl), (xT_t5 (List.mem_of_getElem? (i := 77) rfl) rfl), (xT_s (List.mem_of_getElem? (i := 28) rfl) rfl), (xT_t1 (List.mem_of_getElem? (i := 7) rfl) rfl), (xT_t5 (List.mem_of_getElem? (i := 78) rfl) rfl), by decide +kernel, Nat.le_of_ble_eq_true rfl, (6, 13), TX6, 13, rfl, rfl⟩
theorem cv_X6_89 : xCv RX6 89 yX6_brings mX6_brings 30 0 := ⟨(xT_t5 (List.mem_of_getElem? (i := 79) rfl) rfl), (xT_t5 (List.mem_of_getElem? (i := 81) rfl) rfl), (xT_s (List.mem_of_getElem? (i := 29) rfl) rfl), (xT_t1 (List.mem_of_getElem? (i := 7) rfl) rfl), (xT_t5 (List.mem_of_getElem? (i := 82) rfl) rfl), by decide +kernel, Nat.le_of_ble_eq_true rfl, (6, 13), TX6, 13, rfl, rfl⟩
theorem cv_X6_95 : xCv RX6 95 yX6_isFree mX6_isFree 30 1 := ⟨(xT_t5 (List.mem_of_getElem? (i := 164) rfl) rfl), (xT_t5 (List.mem_of_getElem? (i := 166) rfl) rfl), (xT_s (List.mem_of_getElem? (i := 46) rfl) rfl), (xT_t1 (List.mem_of_getElem? (i := 7) rfl) rfl), (xT_t5 (List.mem_of_getElem? (i := 167) rfl) rfl), by decide +kernel, Nat.le_of_ble_eq_true rfl, (6, 13), TX6, 13, rfl, rfl⟩
theorem cv_X6_98 : xCv RX6 98 yX6_runAt mX6_runAt 30 1 := ⟨(xT_t5 (List.mem_of_getElem? (i := 160) rfl) rfl), (xT_t5 (List.mem_of_getElem? (i := 162) rfl) rfl), (xT_s (List.mem_of_getElem? (i := 45) rfl) rfl), (xT_t1 (List.mem_of_getElem? (i := 7) rfl) rfl), (xT_t5 (List.mem_of_getElem? (i := 163) rfl) rfl), by decide +kernel, Nat.le_of_ble_eq_true rfl, (6, 13), TX6, 13, rfl, rfl⟩
theorem cv_X6_101 : xCv RX6 101 yX6_newSlot mX6_newSlot 30 0 := ⟨(xT_t5 (List.mem_of_getElem? (i := 152) rfl) rfl), (xT_t5 (List.mem_of_getElem? (i := 154) rfl) rfl), (xT_s (List.mem_of_getElem? (i := 43) rfl) rfl), (xT_t1 (List.mem_of_getElem? (i := 7) rfl) rfl), (xT_t5 (List.mem_of_getElem? (i := 155) rfl) rfl), by decide +kernel, Nat.le_of_ble_eq_true rfl, (6, 13), TX6, 13, rfl, rfl⟩
theorem cv_X6_104 : xCv RX6 104 yX6_places mX6_places 30 1 := ⟨(xT_t5 (List.mem_of_getElem? (i := 156) rfl) rfl), (xT_t5 (List.mem_of_getElem? (i := 158) rfl) rfl), (xT_s (List.mem_of_getElem? (i := 44) rfl) rfl), (xT_t1 (List.mem_of_getElem? (i := 7) rfl) rfl), (xT_t5 (List.mem_of_getElem? (i := 159) rfl) rfl), by decide +kernel, Nat.le_of_ble_eq_true rfl, (6, 13), TX6, 13, rfl, rfl⟩
theorem cv_X6_110 : xCv RX6 110 yX6_hasPackets mX6_hasPackets 30 1 := ⟨(xT_t5 (List.mem_of_getElem? (i := 137) rfl) rfl), (xT_t5 (List.mem_of_getElem? (i := 139) rfl) rfl), (xT_s (List.mem_of_getElem? (i := 40) rfl) rfl), (xT_t1 (List.mem_of_getElem? (i := 7) rfl) rfl), (xT_t5 (List.mem_of_getElem? (i := 140) rfl) rfl), by decide +kernel, Nat.le_of_ble_eq_true rfl, (6, 13), TX6, 13, rfl, rfl⟩
theorem cv_X6_113 : xCv RX6 113 yX6_limit mX6_limit 30 1 := ⟨(xT_t5 (List.mem_of_getElem? (i := 103) rfl) rfl), (xT_t5 (List.mem_of_getElem? (i := 105) rfl) rfl), (xT_s (List.mem_of_getElem? (i := 33) rfl) rfl), (xT_t1 (List.mem_of_getElem? (i := 7) rfl) rfl), (xT_t5 (List.mem_of_getElem? (i := 106) rfl) rfl), by decide +kernel, Nat.le_of_ble_eq_true rfl, (6, 13), TX6, 13, rfl, rfl⟩
theorem cv_X6_116 : xCv RX6 116 yX6_early mX6_early 30 2 := ⟨(xT_t5 (List.mem_of_getElem? (i := 99) rfl) rfl), (xT_t5 (List.mem_of_getElem? (i := 101) rfl) rfl), (xT_s (List.mem_of_getElem? (i := 32) rfl) rfl), (xT_t1 (List.mem_of_getElem? (i := 7) rfl) rfl), (xT_t5 (List.mem_of_getElem? (i := 102) rfl) rfl), by decide +kernel, Nat.le_of_ble_eq_true rfl, (6, 13), TX6, 13, rfl, rfl⟩
theorem cv_X6_119 : xCv RX6 119 yX6_pushes mX6_pushes 30 2 := ⟨(xT_t5 (List.mem_of_getElem? (i := 107) rfl) rfl), (xT_t5 (List.mem_of_getElem? (i := 109) rfl) rfl), (xT_s (List.mem_of_getElem? (i := 34) rfl) rfl), (xT_t1 (List.mem_of_getElem? (i := 7) rfl) rfl), (xT_t5 (List.mem_of_getElem? (i := 110) rfl) rfl), by decide +kernel, Nat.le_of_ble_eq_true rfl, (6, 13), TX6, 13, rfl, rfl⟩
theorem cv_X6_122 : xCv RX6 122 yX6_lessens mX6_lessens 30 2 := ⟨(xT_t5 (List.mem_of_getElem? (i := 117) rfl) rfl), (xT_t5 (List.mem_of_getElem? (i := 119) rfl) rfl), (xT_s (List.mem_of_getElem? (i := 35) rfl) rfl), (xT_t1 (List.mem_of_getElem? (i := 7) rfl) rfl), (xT_t5 (List.mem_of_getElem? (i := 120) rfl) rfl), by decide +kernel, Nat.le_of_ble_eq_true rfl, (6, 13), TX6, 13, rfl, rfl⟩
theorem cv_X6_132 : xCv RX6 132 yX6_leaves mX6_leaves 30 2 := ⟨(xT_t5 (List.mem_of_getElem? (i := 129) rfl) rfl), (xT_t5 (List.mem_of_getElem? (i := 131) rfl) rfl), (xT_s (List.mem_of_getElem? (i := 38) rfl) rfl), (xT_t1 (List.mem_of_getElem? (i := 7) rfl) rfl), (xT_t5 (List.mem_of_getElem? (i := 132) rfl) rfl), by decide +kernel, Nat.le_of_ble_eq_true rfl, (6, 13), TX6, 13, rfl, rfl⟩
theorem cv_X6_135 : xCv RX6 135 yX6_settles mX6_settles 30 1 := ⟨(xT_t5 (List.mem_of_getElem? (i := 133) rfl) rfl), (xT_t5 (List.mem_of_getElem? (i := 135) rfl) rfl), (xT_s (List.mem_of_getElem? (i := 39) rfl) rfl), (xT_t1 (List.mem_of_getElem? (i := 7) rfl) rfl), (xT_t5 (List.mem_of_getElem? (i := 136) rfl) rfl), by decide +kernel, Nat.le_of_ble_eq_true rfl, (6, 13), TX6, 13, rfl, rfl⟩
theorem cv_X6_138 : xCv RX6 138 yX6_loses mX6_loses 30 3 := ⟨(xT_t5 (List.mem_of_getElem? (i := 121) rfl) rfl), (xT_t5 (List.mem_of_getElem? (i := 123) rfl) rfl), (xT_s (List.mem_of_getElem? (i := 36) rfl) rfl), (xT_t1 (List.mem_of_getElem? (i := 7) rfl) rfl), (xT_t5 (List.mem_of_getElem? (i := 124) rfl) rfl), by decide +kernel, Nat.le_of_ble_eq_true rfl, (6, 13), TX6, 13, rfl, rfl⟩
theorem cv_X6_142 : xCv RX6 142 yX6_decides mX6_decides 30 2 := ⟨(xT_t5 (List.mem_of_getElem? (i := 95) rfl) rfl), (xT_t5 (List.mem_of_getElem? (i := 97) rfl) rfl), (xT_s (List.mem_of_getElem? (i := 31) rfl) rfl), (xT_t1 (List.mem_of_getElem? (i := 7) rfl) rfl), (xT_t5 (List.mem_of_getElem? (i := 98) rfl) rfl), by decide +kernel, Nat.le_of_ble_eq_true rfl, (6, 13), TX6, 13, rfl, rfl⟩
theorem cv_X6_145 : xCv RX6 145 yX6_removesVictims mX6_removesVictims 30 1 := ⟨(xT_t5 (List.mem_of_getElem? (i := 125) rfl) rfl), (xT_t5 (List.mem_of_getElem? (i := 127) rfl) rfl), (xT_s (List.mem_of_getElem? (i := 37) rfl) rfl), (xT_t1 (List.mem_of_getElem? (i := 7) rfl) rfl), (xT_t5 (List.mem_of_getElem? (i := 128) rfl) rfl), by decide +kernel, Nat.le_of_ble_eq_true rfl, (6, 13), TX6, 13, rfl, rfl⟩
theorem cv_X6_148 : xCv RX6 148 yX6_counts mX6_counts 30 3 := ⟨(xT_t5 (List.mem_of_getElem? (i := 141) rfl) rfl), (xT_t5 (List.mem_of_getElem? (i := 143) rfl) rfl), (xT_s (List.mem_of_getElem? (i := 41) rfl) rfl), (xT_t1 (List.mem_of_getElem? (i := 7) rfl) rfl), (xT_t5 (List.mem_of_getElem? (i := 144) rfl) rfl), by decide +kernel, Nat.le_of_ble_eq_true rfl, (6, 13), TX6, 13, rfl, rfl⟩
theorem cv_X6_151 : xCv RX6 151 yX6_enters mX6_enters 30 2 := ⟨(xT_t5 (List.mem_of_getElem? (i := 148) rfl) rfl), (xT_t5 (List.mem_of_getElem? (i := 150) rfl) rfl), (xT_s (List.mem_of_getElem? (i := 42) rfl) rfl), (xT_t1 (List.mem_of_getElem? (i := 7) rfl) rfl), (xT_t5 (List.mem_of_getElem? (i := 151) rfl) rfl), by decide +kernel, Nat.le_of_ble_eq_true rfl, (6, 13), TX6, 13, rfl, rfl⟩
theorem cv_X6_154 : xCv RX6 154 yX6_arrives mX6_arrives 30 2 := ⟨(xT_t5 (List.mem_of_getElem? (i := 91) rfl) rfl), (xT_t5 (List.mem_of_getElem? (i := 93) rfl) rfl), (xT_s (List.mem_of_getElem? (i := 30) rfl) rfl), (xT_t1 (List.mem_of_getElem? (i := 7) rfl) rfl), (xT_t5 (List.mem_of_getElem? (i := 94) rfl) rfl), by decide +kernel, Nat.le_of_ble_eq_true rfl, (6, 13), TX6, 13, rfl, rfl⟩
theorem cv_X6_157 : xCv RX6 157 yX6_firstSize mX6_firstSize 30 1 := ⟨(xT_t5 (List.mem_of_getElem? (i := 184) rfl) rfl), (xT_t5 (List.mem_of_getElem? (i := 186) rfl) rfl), (xT_s (List.mem_of_getElem? (i := 50) rfl) rfl), (xT_t1 (List.mem_of_getElem? (i := 7) rfl) rfl), (xT_t5 (List.mem_of_getElem? (i := 187) rfl) rfl), by decide +kernel, Nat.le_of_ble_eq_true rfl, (6, 13), TX6, 13, rfl, rfl⟩
theorem cv_X6_160 : xCv RX6 160 yX6_departs mX6_departs 30 2 := ⟨(xT_t5 (List.mem_of_getElem? (i := 188) rfl) rfl), (xT_t5 (List.mem_of_getElem? (i := 190) rfl) rfl), (xT_s (List.mem_of_getElem? (i := 51) rfl) rfl), (xT_t1 (List.mem_of_getElem? (i := 7) rfl) rfl), (xT_t5 (List.mem_of_getElem? (i := 191) rfl) rfl), by decide +kernel, Nat.le_of_ble_eq_true rfl, (6, 13), TX6, 13, rfl, rfl⟩
theorem cv_X6_163 : xCv RX6 163 yX6_sends mX6_sends 30 1 := ⟨(xT_t5 (List.mem_of_getElem? (i := 180) rfl) rfl), (xT_t5 (List.mem_of_getElem? (i := 182) rfl) rfl), (xT_s (List.mem_of_getElem? (i := 49) rfl) rfl), (xT_t1 (List.mem_of_getElem? (i := 7) rfl) rfl), (xT_t5 (List.mem_of_getElem? (i := 183) rfl) rfl), by decide +kernel, Nat.le_of_ble_eq_true rfl, (6, 13), TX6, 13, rfl, rfl⟩
theorem cv_X6_166 : xCv RX6 166 yX6_tick mX6_tick 30 0 := ⟨(xT_t5 (List.mem_of_getElem? (i := 176) rfl) rfl), (xT_t5 (List.mem_of_getElem? (i := 178) rfl) rfl), (xT_s (List.mem_of_getElem? (i := 48) rfl) rfl), (xT_t1 (List.mem_of_getElem? (i := 7) rfl) rfl), (xT_t5 (List.mem_of_getElem? (i := 179) rfl) rfl), by decide +kernel, Nat.le_of_ble_eq_true rfl, (6, 13), TX6, 13, rfl, rfl⟩
theorem cv_X6_169 : xCv RX6 169 yX6_ticking mX6_ticking 30 1 := ⟨(xT_t5 (List.mem_of_getElem? (i := 172) rfl) rfl), (xT_t5 (List.mem_of_getElem? (i := 174) rfl) rfl), (xT_s (List.mem_of_getElem? (i := 47) rfl) rfl), (xT_t1 (List.mem_of_getElem? (i := 7) rfl) rfl), (xT_t5 (List.mem_of_getElem? (i := 175) rfl) rfl), by decide +kernel, Nat.le_of_ble_eq_true rfl, (6, 13), TX6, 13, rfl, rfl⟩
theorem cv_X6_172 : xCv RX6 172 yX6_flushes mX6_flushes 30 1 := ⟨(xT_t5 (List.mem_of_getElem? (i := 196) rfl) rfl), (xT_t5 (List.mem_of_getElem? (i := 198) rfl) rfl), (xT_s (List.mem_of_getElem? (i := 52) rfl) rfl), (xT_t1 (List.mem_of_getElem? (i := 7) rfl) rfl), (xT_t5 (List.mem_of_getElem? (i := 199) rfl) rfl), by decide +kernel, Nat.le_of_ble_eq_true rfl, (6, 13), TX6, 13, rfl, rfl⟩
theorem cv_X6_183 : xCv RX6 183 yX6_ofPort mX6_ofPort 30 2 := ⟨(xT_t5 (List.mem_of_getElem? (i := 224) rfl) rfl), (xT_t5 (List.mem_of_getElem? (i := 226) rfl) rfl), (xT_s (List.mem_of_getElem? (i := 53) rfl) rfl), (xT_t1 (List.mem_of_getElem? (i := 7) rfl) rfl), (xT_t5 (List.mem_of_getElem? (i := 227) rfl) rfl), by decide +kernel, Nat.le_of_ble_eq_true rfl, (6, 13), TX6, 13, rfl, rfl⟩
theorem cv_X6_186 : xCv RX6 186 yX6_ofQueue mX6_ofQueue 30 3 := ⟨(xT_t5 (List.mem_of_getElem? (i := 236) rfl) rfl), (xT_t5 (List.mem_of_getElem? (i := 238) rfl) rfl), (xT_s (List.mem_of_getElem? (i := 54) rfl) rfl), (xT_t1 (List.mem_of_getElem? (i := 7) rfl) rfl), (xT_t5 (List.mem_of_getElem? (i := 239) rfl) rfl), by decide +kernel, Nat.le_of_ble_eq_true rfl, (6, 13), TX6, 13, rfl, rfl⟩
theorem cv_X6_190 : xCv RX6 190 yX6_slotOf mX6_slotOf 30 1 := ⟨(xT_t6 (List.mem_of_getElem? (i := 64) rfl) rfl), (xT_t6 (List.mem_of_getElem? (i := 66) rfl) rfl), (xT_s (List.mem_of_getElem? (i := 55) rfl) rfl), (xT_t1 (List.mem_of_getElem? (i := 7) rfl) rfl), (xT_t6 (List.mem_of_getElem? (i := 67) rfl) rfl), by decide +kernel, Nat.le_of_ble_eq_true rfl, (6, 13), TX6, 13, rfl, rfl⟩
theorem cv_X6_193 : xCv RX6 193 yX6_ofFragment mX6_ofFragment 30 3 := ⟨(xT_t6 (List.mem_of_getElem? (i := 72) rfl) rfl), (xT_t6 (List.mem_of_getElem? (i := 74) rfl) rfl), (xT_s (List.mem_of_getElem? (i := 56) rfl) rfl), (xT_t1 (List.mem_of_getElem? (i := 7) rfl) rfl), (xT_t6 (List.mem_of_getElem? (i := 75) rfl) rfl), by decide +kernel, Nat.le_of_ble_eq_true rfl, (6, 13), TX6, 13, rfl, rfl⟩
theorem cv_X6_196 : xCv RX6 196 yX6_beginOf mX6_beginOf 30 1 := ⟨(xT_t6 (List.mem_of_getElem? (i := 88) rfl) rfl), (xT_t6 (List.mem_of_getElem? (i := 90) rfl) rfl), (xT_s (List.mem_of_getElem? (i := 57) rfl) rfl), (xT_t1 (List.mem_of_getElem? (i := 7) rfl) rfl), (xT_t6 (List.mem_of_getElem? (i := 91) rfl) rfl), by decide +kernel, Nat.le_of_ble_eq_true rfl, (6, 13), TX6, 13, rfl, rfl⟩
theorem cv_X6_205 : xCv RX6 205 yX6_here mX6_here 30 0 := ⟨(xT_t6 (List.mem_of_getElem? (i := 136) rfl) rfl), (xT_t6 (List.mem_of_getElem? (i := 138) rfl) rfl), (xT_s (List.mem_of_getElem? (i := 60) rfl) rfl), (xT_t1 (List.mem_of_getElem? (i := 7) rfl) rfl), (xT_t6 (List.mem_of_getElem? (i := 139) rfl) rfl), by decide +kernel, Nat.le_of_ble_eq_true rfl, (6, 13), TX6, 13, rfl, rfl⟩
theorem cv_X6_211 : xCv RX6 211 yX6_isDigit mX6_isDigit 30 0 := ⟨(xT_t6 (List.mem_of_getElem? (i := 144) rfl) rfl), (xT_t6 (List.mem_of_getElem? (i := 146) rfl) rfl), (xT_s (List.mem_of_getElem? (i := 62) rfl) rfl), (xT_t1 (List.mem_of_getElem? (i := 7) rfl) rfl), (xT_t6 (List.mem_of_getElem? (i := 147) rfl) rfl), by decide +kernel, Nat.le_of_ble_eq_true rfl, (6, 13), TX6, 13, rfl, rfl⟩
theorem cv_X6_215 : xCv RX6 215 yX6_faults mX6_faults 30 1 := ⟨(xT_t6 (List.mem_of_getElem? (i := 148) rfl) rfl), (xT_t6 (List.mem_of_getElem? (i := 150) rfl) rfl), (xT_s (List.mem_of_getElem? (i := 63) rfl) rfl), (xT_t1 (List.mem_of_getElem? (i := 7) rfl) rfl), (xT_t6 (List.mem_of_getElem? (i := 151) rfl) rfl), by decide +kernel, Nat.le_of_ble_eq_true rfl, (6, 13), TX6, 13, rfl, rfl⟩
theorem cv_X6_218 : xCv RX6 218 yX6_digit mX6_digit 30 1 := ⟨(xT_t6 (List.mem_of_getElem? (i := 140) rfl) rfl), (xT_t6 (List.mem_of_getElem? (i := 142) rfl) rfl), (xT_s (List.mem_of_getElem? (i := 61) rfl) rfl), (xT_t1 (List.mem_of_getElem? (i := 7) rfl) rfl), (xT_t6 (List.mem_of_getElem? (i := 143) rfl) rfl), by decide +kernel, Nat.le_of_ble_eq_true rfl, (6, 13), TX6, 13, rfl, rfl⟩
theorem cv_X6_221 : xCv RX6 221 yX6_number mX6_number 30 2 := ⟨(xT_t6 (List.mem_of_getElem? (i := 152) rfl) rfl), (xT_t6 (List.mem_of_getElem? (i := 154) rfl) rfl), (xT_s (List.mem_of_getElem? (i := 64) rfl) rfl), (xT_t1 (List.mem_of_getElem? (i := 7) rfl) rfl), (xT_t6 (List.mem_of_getElem? (i := 155) rfl) rfl), by decide +kernel, Nat.le_of_ble_eq_true rfl, (6, 13), TX6, 13, rfl, rfl⟩
theorem cv_X6_224 : xCv RX6 224 yX6_ends mX6_ends 30 0 := ⟨(xT_t6 (List.mem_of_getElem? (i := 156) rfl) rfl), (xT_t6 (List.mem_of_getElem? (i := 158) rfl) rfl), (xT_s (List.mem_of_getElem? (i := 65) rfl) rfl), (xT_t1 (List.mem_of_getElem? (i := 7) rfl) rfl), (xT_t6 (List.mem_of_getElem? (i := 159) rfl) rfl), by decide +kernel, Nat.le_of_ble_eq_true rfl, (6, 13), TX6, 13, rfl, rfl⟩
theorem cv_X6_227 : xCv RX6 227 yX6_acts mX6_acts 30 0 := ⟨(xT_t6 (List.mem_of_getElem? (i := 164) rfl) rfl), (xT_t6 (List.mem_of_getElem? (i := 166) rfl) rfl), (xT_s (List.mem_of_getElem? (i := 67) rfl) rfl), (xT_t1 (List.mem_of_getElem? (i := 7) rfl) rfl), (xT_t6 (List.mem_of_getElem? (i := 167) rfl) rfl), by decide +kernel, Nat.le_of_ble_eq_true rfl, (6, 13), TX6, 13, rfl, rfl⟩
theorem cv_X6_233 : xCv RX6 233 yX6_sign mX6_sign 30 1 := ⟨(xT_t6 (List.mem_of_getElem? (i := 160) rfl) rfl), (xT_t6 (List.mem_of_getElem? (i := 162) rfl) rfl), (xT_s (List.mem_of_getElem? (i := 66) rfl) rfl), (xT_t1 (List.mem_of_getElem? (i := 7) rfl) rfl), (xT_t6 (List.mem_of_getElem? (i := 163) rfl) rfl), by decide +kernel, Nat.le_of_ble_eq_true rfl, (6, 13), TX6, 13, rfl, rfl⟩
theorem cv_X6_236 : xCv RX6 236 yX6_grant mX6_grant 30 2 := ⟨(xT_t6 (List.mem_of_getElem? (i := 168) rfl) rfl), (xT_t5 (List.mem_of_getElem? (i := 68) rfl) rfl), (xT_t5 (List.mem_of_getElem? (i := 69) rfl) rfl), (xT_t1 (List.mem_of_getElem? (i := 7) rfl) rfl), (xT_t5 (List.mem_of_getElem? (i := 70) rfl) rfl), by decide +kernel, Nat.le_of_ble_eq_true rfl, (6, 13), TX6, 13, rfl, rfl⟩
theorem cv_X6_243 : xCv RX6 243 yX6_order mX6_order 30 0 := ⟨(xT_t6 (List.mem_of_getElem? (i := 132) rfl) rfl), (xT_t6 (List.mem_of_getElem? (i := 134) rfl) rfl), (xT_s (List.mem_of_getElem? (i := 59) rfl) rfl), (xT_t1 (List.mem_of_getElem? (i := 7) rfl) rfl), (xT_t6 (List.mem_of_getElem? (i := 135) rfl) rfl), by decide +kernel, Nat.le_of_ble_eq_true rfl, (6, 13), TX6, 13, rfl, rfl⟩
theorem cv_X6_246 : xCv RX6 246 yX6_reads mX6_reads 30 1 := ⟨(xT_t6 (List.mem_of_getElem? (i := 128) rfl) rfl), (xT_t6 (List.mem_of_getElem? (i := 130) rfl) rfl), (xT_s (List.mem_of_getElem? (i := 58) rfl) rfl), (xT_t1 (List.mem_of_getElem? (i := 7) rfl) rfl), (xT_t6 (List.mem_of_getElem? (i := 131) rfl) rfl), by decide +kernel, Nat.le_of_ble_eq_true rfl, (6, 13), TX6, 13, rfl, rfl⟩
theorem cv_X6_252 : xCv RX6 252 yX6_sumOf mX6_sumOf 30 2 := ⟨(xT_t6 (List.mem_of_getElem? (i := 186) rfl) rfl), (xT_t6 (List.mem_of_getElem? (i := 188) rfl) rfl), (xT_s (List.mem_of_getElem? (i := 68) rfl) rfl), (xT_t1 (List.mem_of_getElem? (i := 7) rfl) rfl), (xT_t6 (List.mem_of_getElem? (i := 189) rfl) rfl), by decide +kernel, Nat.le_of_ble_eq_true rfl, (6, 13), TX6, 13, rfl, rfl⟩
theorem cv_X6_258 : xCv RX6 258 yX6_sumOfQueue mX6_sumOfQueue 30 2 := ⟨(xT_t6 (List.mem_of_getElem? (i := 191) rfl) rfl), (xT_t6 (List.mem_of_getElem? (i := 193) rfl) rfl), (xT_s (List.mem_of_getElem? (i := 69) rfl) rfl), (xT_t1 (List.mem_of_getElem? (i := 7) rfl) rfl), (xT_t6 (List.mem_of_getElem? (i := 194) rfl) rfl), by decide +kernel, Nat.le_of_ble_eq_true rfl, (6, 13), TX6, 13, rfl, rfl⟩
theorem cs_X0_140 : xCs RX0 140 yX0_headroomRefusal mX0_headroomRefusal 3 := ⟨(xT_t2 (List.mem_of_getElem? (i := 235) rfl) rfl), (xT_t2 (List.mem_of_getElem? (i := 236) rfl) rfl), (xT_t1 (List.mem_of_getElem? (i := 2) rfl) rfl), (xT_t2 (List.mem_of_getElem? (i := 237) rfl) rfl), by decide +kernel, Nat.le_of_ble_eq_true rfl⟩
theorem cs_X1_80 : xCs RX1 80 yX1_suitsBetter mX1_suitsBetter 3 := ⟨(xT_t3 (List.mem_of_getElem? (i := 79) rfl) rfl), (xT_t3 (List.mem_of_getElem? (i := 80) rfl) rfl), (xT_t1 (List.mem_of_getElem? (i := 3) rfl) rfl), (xT_t3 (List.mem_of_getElem? (i := 81) rfl) rfl), by decide +kernel, Nat.le_of_ble_eq_true rfl⟩
theorem cs_X5_38 : xCs RX5 38 yX5_isOutside mX5_isOutside 3 := ⟨(xT_t2 (List.mem_of_getElem? (i := 108) rfl) rfl), (xT_t2 (List.mem_of_getElem? (i := 109) rfl) rfl), (xT_t1 (List.mem_of_getElem? (i := 1) rfl) rfl), (xT_t2 (List.mem_of_getElem? (i := 110) rfl) rfl), by decide +kernel, Nat.le_of_ble_eq_true rfl⟩
theorem cs_X5_99 : xCs RX5 99 yX5_asNumber mX5_asNumber 1 := ⟨(xT_t2 (List.mem_of_getElem? (i := 170) rfl) rfl), (xT_t2 (List.mem_of_getElem? (i := 171) rfl) rfl), (xT_t1 (List.mem_of_getElem? (i := 1) rfl) rfl), (xT_t2 (List.mem_of_getElem? (i := 172) rfl) rfl), by decide +kernel, Nat.le_of_ble_eq_true rfl⟩
theorem cs_X5_259 : xCs RX5 259 yX5_greatestCommonDivisor mX5_greatestCommonDivisor 2 := ⟨(xT_t4 (List.mem_of_getElem? (i := 91) rfl) rfl), (xT_t4 (List.mem_of_getElem? (i := 92) rfl) rfl), (xT_t1 (List.mem_of_getElem? (i := 1) rfl) rfl), (xT_t4 (List.mem_of_getElem? (i := 93) rfl) rfl), by decide +kernel, Nat.le_of_ble_eq_true rfl⟩
theorem cs_X6_36 : xCs RX6 36 yX6_in mX6_in 3 := ⟨(xT_t4 (List.mem_of_getElem? (i := 233) rfl) rfl), (xT_t4 (List.mem_of_getElem? (i := 234) rfl) rfl), (xT_t1 (List.mem_of_getElem? (i := 7) rfl) rfl), (xT_t4 (List.mem_of_getElem? (i := 235) rfl) rfl), by decide +kernel, Nat.le_of_ble_eq_true rfl⟩
theorem cs_X6_44 : xCs RX6 44 yX6_port mX6_port 2 := ⟨(xT_t4 (List.mem_of_getElem? (i := 183) rfl) rfl), (xT_t4 (List.mem_of_getElem? (i := 184) rfl) rfl), (xT_t1 (List.mem_of_getElem? (i := 7) rfl) rfl), (xT_t4 (List.mem_of_getElem? (i := 185) rfl) rfl), by decide +kernel, Nat.le_of_ble_eq_true rfl⟩
theorem cs_X6_48 : xCs RX6 48 yX6_queue mX6_queue 2 := ⟨(xT_t4 (List.mem_of_getElem? (i := 186) rfl) rfl), (xT_t4 (List.mem_of_getElem? (i := 187) rfl) rfl), (xT_t1 (List.mem_of_getElem? (i := 7) rfl) rfl), (xT_t4 (List.mem_of_getElem? (i := 188) rfl) rfl), by decide +kernel, Nat.le_of_ble_eq_true rfl⟩
theorem cs_X6_68 : xCs RX6 68 yX6_least mX6_least 2 := ⟨(xT_t5 (List.mem_of_getElem? (i := 28) rfl) rfl), (xT_t5 (List.mem_of_getElem? (i := 29) rfl) rfl), (xT_t1 (List.mem_of_getElem? (i := 7) rfl) rfl), (xT_t5 (List.mem_of_getElem? (i := 30) rfl) rfl), by decide +kernel, Nat.le_of_ble_eq_true rfl⟩
theorem cs_X6_92 : xCs RX6 92 yX6_packet mX6_packet 2 := ⟨(xT_t5 (List.mem_of_getElem? (i := 114) rfl) rfl), (xT_t5 (List.mem_of_getElem? (i := 115) rfl) rfl), (xT_t1 (List.mem_of_getElem? (i := 7) rfl) rfl), (xT_t5 (List.mem_of_getElem? (i := 116) rfl) rfl), by decide +kernel, Nat.le_of_ble_eq_true rfl⟩
theorem cs_X6_107 : xCs RX6 107 yX6_entry mX6_entry 2 := ⟨(xT_t5 (List.mem_of_getElem? (i := 111) rfl) rfl), (xT_t5 (List.mem_of_getElem? (i := 112) rfl) rfl), (xT_t1 (List.mem_of_getElem? (i := 7) rfl) rfl), (xT_t5 (List.mem_of_getElem? (i := 113) rfl) rfl), by decide +kernel, Nat.le_of_ble_eq_true rfl⟩
theorem cs_X6_129 : xCs RX6 129 yX6_most mX6_most 2 := ⟨(xT_t5 (List.mem_of_getElem? (i := 145) rfl) rfl), (xT_t5 (List.mem_of_getElem? (i := 146) rfl) rfl), (xT_t1 (List.mem_of_getElem? (i := 7) rfl) rfl), (xT_t5 (List.mem_of_getElem? (i := 147) rfl) rfl), by decide +kernel, Nat.le_of_ble_eq_true rfl⟩
theorem lk_X0_68 : Cond.methodLink RX0 68 arraycopyName ∈ xT := (xT_t3 (List.mem_of_getElem? (i := 15) rfl) rfl)
theorem lk_X1_41 : Cond.methodLink RX1 41 arraycopyName ∈ xT := (xT_t4 (List.mem_of_getElem? (i := 71) rfl) rfl)
theorem lk_X2_57 : Cond.methodLink RX2 57 arraycopyName ∈ xT := (xT_t4 (List.mem_of_getElem? (i := 80) rfl) rfl)
theorem lk_X0_107 : Cond.methodLink RX0 107 Lib.Math.max.name ∈ xT := (xT_t2 (List.mem_of_getElem? (i := 196) rfl) rfl)
theorem lk_X0_126 : Cond.methodLink RX0 126 Lib.Math.min.name ∈ xT := (xT_t2 (List.mem_of_getElem? (i := 226) rfl) rfl)
theorem lk_X1_58 : Cond.methodLink RX1 58 Lib.Math.max.name ∈ xT := (xT_t3 (List.mem_of_getElem? (i := 78) rfl) rfl)
theorem lk_X1_73 : Cond.methodLink RX1 73 Lib.Math.min.name ∈ xT := (xT_t3 (List.mem_of_getElem? (i := 43) rfl) rfl)
theorem lk_X2_91 : Cond.methodLink RX2 91 Lib.Math.min.name ∈ xT := (xT_t2 (List.mem_of_getElem? (i := 143) rfl) rfl)
theorem lk_X3_65 : Cond.methodLink RX3 65 Lib.Math.max.name ∈ xT := (xT_t3 (List.mem_of_getElem? (i := 61) rfl) rfl)
theorem lk_X3_71 : Cond.methodLink RX3 71 Lib.Math.min.name ∈ xT := (xT_t3 (List.mem_of_getElem? (i := 34) rfl) rfl)
theorem lk_X4_65 : Cond.methodLink RX4 65 Lib.Math.min.name ∈ xT := (xT_t4 (List.mem_of_getElem? (i := 130) rfl) rfl)
theorem lk_X5_143 : Cond.methodLink RX5 143 Lib.Math.max.name ∈ xT := (xT_t3 (List.mem_of_getElem? (i := 136) rfl) rfl)
theorem w_copy : Cond.native arraycopyName ∈ xT ∧ Cond.static arraycopyName ∈ xT ∧ Cond.initialized "java/lang/System" ∈ xT := ⟨(xT_t3 (List.mem_of_getElem? (i := 17) rfl) rfl), (xT_t3 (List.mem_of_getElem? (i := 16) rfl) rfl), (xT_t1 (List.mem_of_getElem? (i := 9) rfl) rfl)⟩
theorem w_max : Cond.static Lib.Math.max.name ∈ xT ∧ Cond.initialized "java/lang/Math" ∈ xT ∧ Cond.code Lib.Math.max.name Lib.Math.max.code 2 (some .int) ∈ xT := ⟨(xT_t2 (List.mem_of_getElem? (i := 197) rfl) rfl), (xT_t1 (List.mem_of_getElem? (i := 8) rfl) rfl), (xT_t2 (List.mem_of_getElem? (i := 198) rfl) rfl)⟩
theorem w_min : Cond.static Lib.Math.min.name ∈ xT ∧ Cond.initialized "java/lang/Math" ∈ xT ∧ Cond.code Lib.Math.min.name Lib.Math.min.code 2 (some .int) ∈ xT := ⟨(xT_t2 (List.mem_of_getElem? (i := 144) rfl) rfl), (xT_t1 (List.mem_of_getElem? (i := 8) rfl) rfl), (xT_t2 (List.mem_of_getElem? (i := 145) rfl) rfl)⟩
theorem tk_X0_272 : Cond.constant RX0 272 100000 ∈ xT := (xT_t3 (List.mem_of_getElem? (i := 106) rfl) rfl)
theorem tk_X5_149 : Cond.constantLong RX5 149 1103515245 ∈ xT := (xT_t3 (List.mem_of_getElem? (i := 137) rfl) rfl)
theorem tk_X5_151 : Cond.constantLong RX5 151 12345 ∈ xT := (xT_t3 (List.mem_of_getElem? (i := 138) rfl) rfl)
theorem tk_X5_153 : Cond.constantLong RX5 153 2147483648 ∈ xT := (xT_t3 (List.mem_of_getElem? (i := 139) rfl) rfl)
theorem tk_X5_155 : Cond.constantLong RX5 155 65536 ∈ xT := (xT_t3 (List.mem_of_getElem? (i := 140) rfl) rfl)
theorem tk_X5_294 : Cond.constantLong RX5 294 7 ∈ xT := (xT_t4 (List.mem_of_getElem? (i := 161) rfl) rfl)
theorem tk_X5_296 : Cond.constantLong RX5 296 31 ∈ xT := (xT_t4 (List.mem_of_getElem? (i := 162) rfl) rfl)
theorem tk_X6_175 : Cond.constantLong RX6 175 1103515245 ∈ xT := (xT_t5 (List.mem_of_getElem? (i := 204) rfl) rfl)
theorem tk_X6_177 : Cond.constantLong RX6 177 12345 ∈ xT := (xT_t5 (List.mem_of_getElem? (i := 205) rfl) rfl)
theorem tk_X6_179 : Cond.constantLong RX6 179 2147483648 ∈ xT := (xT_t5 (List.mem_of_getElem? (i := 206) rfl) rfl)
theorem tk_X6_181 : Cond.constantLong RX6 181 65536 ∈ xT := (xT_t5 (List.mem_of_getElem? (i := 207) rfl) rfl)
theorem tk_X6_250 : Cond.constantLong RX6 250 31 ∈ xT := (xT_t6 (List.mem_of_getElem? (i := 190) rfl) rfl)
theorem tk_X6_256 : Cond.constantLong RX6 256 7 ∈ xT := (xT_t6 (List.mem_of_getElem? (i := 185) rfl) rfl)
end
