theorem dX1_init_0 : decode cX1_init 0 = .ok (.aload_n 0, 1) := by decide +kernel
theorem dX1_init_1 : decode cX1_init 1 = .ok (.invokespecial 3, 3) := by decide +kernel
theorem dX1_init_4 : decode cX1_init 4 = .ok (.aload_n 0, 1) := by decide +kernel
theorem dX1_init_5 : decode cX1_init 5 = .ok (.sipush 128, 3) := by decide +kernel
theorem dX1_init_8 : decode cX1_init 8 = .ok (.newarray .boolean, 2) := by decide +kernel
theorem dX1_init_10 : decode cX1_init 10 = .ok (.putfield 9, 3) := by decide +kernel
theorem dX1_init_13 : decode cX1_init 13 = .ok (.aload_n 0, 1) := by decide +kernel
theorem dX1_init_14 : decode cX1_init 14 = .ok (.sipush 128, 3) := by decide +kernel
theorem dX1_init_17 : decode cX1_init 17 = .ok (.newarray .int, 2) := by decide +kernel
theorem dX1_init_19 : decode cX1_init 19 = .ok (.putfield 15, 3) := by decide +kernel
theorem dX1_init_22 : decode cX1_init 22 = .ok (.aload_n 0, 1) := by decide +kernel
theorem dX1_init_23 : decode cX1_init 23 = .ok (.sipush 128, 3) := by decide +kernel
theorem dX1_init_26 : decode cX1_init 26 = .ok (.newarray .int, 2) := by decide +kernel
theorem dX1_init_28 : decode cX1_init 28 = .ok (.putfield 19, 3) := by decide +kernel
theorem dX1_init_31 : decode cX1_init 31 = .ok (.aload_n 0, 1) := by decide +kernel
theorem dX1_init_32 : decode cX1_init 32 = .ok (.sipush 128, 3) := by decide +kernel
theorem dX1_init_35 : decode cX1_init 35 = .ok (.newarray .int, 2) := by decide +kernel
theorem dX1_init_37 : decode cX1_init 37 = .ok (.putfield 22, 3) := by decide +kernel
theorem dX1_init_40 : decode cX1_init 40 = .ok (.aload_n 0, 1) := by decide +kernel
theorem dX1_init_41 : decode cX1_init 41 = .ok (.sipush 128, 3) := by decide +kernel
theorem dX1_init_44 : decode cX1_init 44 = .ok (.newarray .int, 2) := by decide +kernel
theorem dX1_init_46 : decode cX1_init 46 = .ok (.putfield 25, 3) := by decide +kernel
theorem dX1_init_49 : decode cX1_init 49 = .ok (.aload_n 0, 1) := by decide +kernel
theorem dX1_init_50 : decode cX1_init 50 = .ok (.sipush 128, 3) := by decide +kernel
theorem dX1_init_53 : decode cX1_init 53 = .ok (.newarray .int, 2) := by decide +kernel
theorem dX1_init_55 : decode cX1_init 55 = .ok (.putfield 28, 3) := by decide +kernel
theorem dX1_init_58 : decode cX1_init 58 = .ok (.aload_n 0, 1) := by decide +kernel
theorem dX1_init_59 : decode cX1_init 59 = .ok (.sipush 128, 3) := by decide +kernel
theorem dX1_init_62 : decode cX1_init 62 = .ok (.newarray .int, 2) := by decide +kernel
theorem dX1_init_64 : decode cX1_init 64 = .ok (.putfield 31, 3) := by decide +kernel
theorem dX1_init_67 : decode cX1_init 67 = .ok (.aload_n 0, 1) := by decide +kernel
theorem dX1_init_68 : decode cX1_init 68 = .ok (.sipush 128, 3) := by decide +kernel
theorem dX1_init_71 : decode cX1_init 71 = .ok (.newarray .int, 2) := by decide +kernel
theorem dX1_init_73 : decode cX1_init 73 = .ok (.putfield 34, 3) := by decide +kernel
theorem dX1_init_76 : decode cX1_init 76 = .ok (.return_, 1) := by decide +kernel
theorem dX1_startAnew_0 : decode cX1_startAnew 0 = .ok (.aload_n 0, 1) := by decide +kernel
theorem dX1_startAnew_1 : decode cX1_startAnew 1 = .ok (.iload_n 1, 1) := by decide +kernel
theorem dX1_startAnew_2 : decode cX1_startAnew 2 = .ok (.putfield 37, 3) := by decide +kernel
theorem dX1_startAnew_5 : decode cX1_startAnew 5 = .ok (.iconst 0, 1) := by decide +kernel
theorem dX1_startAnew_6 : decode cX1_startAnew 6 = .ok (.istore_n 2, 1) := by decide +kernel
theorem dX1_startAnew_7 : decode cX1_startAnew 7 = .ok (.iload_n 2, 1) := by decide +kernel
theorem dX1_startAnew_8 : decode cX1_startAnew 8 = .ok (.sipush 128, 3) := by decide +kernel
theorem dX1_startAnew_11 : decode cX1_startAnew 11 = .ok (.if_icmp .ge 23, 3) := by decide +kernel
theorem dX1_startAnew_14 : decode cX1_startAnew 14 = .ok (.aload_n 0, 1) := by decide +kernel
theorem dX1_startAnew_15 : decode cX1_startAnew 15 = .ok (.getfield 9, 3) := by decide +kernel
theorem dX1_startAnew_18 : decode cX1_startAnew 18 = .ok (.iload_n 2, 1) := by decide +kernel
theorem dX1_startAnew_19 : decode cX1_startAnew 19 = .ok (.iconst 0, 1) := by decide +kernel
theorem dX1_startAnew_20 : decode cX1_startAnew 20 = .ok (.bastore, 1) := by decide +kernel
theorem dX1_startAnew_21 : decode cX1_startAnew 21 = .ok (.aload_n 0, 1) := by decide +kernel
theorem dX1_startAnew_22 : decode cX1_startAnew 22 = .ok (.getfield 22, 3) := by decide +kernel
theorem dX1_startAnew_25 : decode cX1_startAnew 25 = .ok (.iload_n 2, 1) := by decide +kernel
theorem dX1_startAnew_26 : decode cX1_startAnew 26 = .ok (.iconst (-1), 1) := by decide +kernel
theorem dX1_startAnew_27 : decode cX1_startAnew 27 = .ok (.iastore, 1) := by decide +kernel
theorem dX1_startAnew_28 : decode cX1_startAnew 28 = .ok (.iinc 2 1, 3) := by decide +kernel
theorem dX1_startAnew_31 : decode cX1_startAnew 31 = .ok (.goto (-24), 3) := by decide +kernel
theorem dX1_startAnew_34 : decode cX1_startAnew 34 = .ok (.return_, 1) := by decide +kernel
theorem dX1_copyFrom_0 : decode cX1_copyFrom 0 = .ok (.aload_n 0, 1) := by decide +kernel
theorem dX1_copyFrom_1 : decode cX1_copyFrom 1 = .ok (.aload_n 1, 1) := by decide +kernel
theorem dX1_copyFrom_2 : decode cX1_copyFrom 2 = .ok (.getfield 37, 3) := by decide +kernel
theorem dX1_copyFrom_5 : decode cX1_copyFrom 5 = .ok (.putfield 37, 3) := by decide +kernel
theorem dX1_copyFrom_8 : decode cX1_copyFrom 8 = .ok (.iconst 0, 1) := by decide +kernel
theorem dX1_copyFrom_9 : decode cX1_copyFrom 9 = .ok (.istore_n 2, 1) := by decide +kernel
theorem dX1_copyFrom_10 : decode cX1_copyFrom 10 = .ok (.iload_n 2, 1) := by decide +kernel
theorem dX1_copyFrom_11 : decode cX1_copyFrom 11 = .ok (.sipush 128, 3) := by decide +kernel
theorem dX1_copyFrom_14 : decode cX1_copyFrom 14 = .ok (.if_icmp .ge 21, 3) := by decide +kernel
theorem dX1_copyFrom_17 : decode cX1_copyFrom 17 = .ok (.aload_n 0, 1) := by decide +kernel
theorem dX1_copyFrom_18 : decode cX1_copyFrom 18 = .ok (.getfield 9, 3) := by decide +kernel
theorem dX1_copyFrom_21 : decode cX1_copyFrom 21 = .ok (.iload_n 2, 1) := by decide +kernel
theorem dX1_copyFrom_22 : decode cX1_copyFrom 22 = .ok (.aload_n 1, 1) := by decide +kernel
theorem dX1_copyFrom_23 : decode cX1_copyFrom 23 = .ok (.getfield 9, 3) := by decide +kernel
theorem dX1_copyFrom_26 : decode cX1_copyFrom 26 = .ok (.iload_n 2, 1) := by decide +kernel
theorem dX1_copyFrom_27 : decode cX1_copyFrom 27 = .ok (.baload, 1) := by decide +kernel
theorem dX1_copyFrom_28 : decode cX1_copyFrom 28 = .ok (.bastore, 1) := by decide +kernel
theorem dX1_copyFrom_29 : decode cX1_copyFrom 29 = .ok (.iinc 2 1, 3) := by decide +kernel
theorem dX1_copyFrom_32 : decode cX1_copyFrom 32 = .ok (.goto (-22), 3) := by decide +kernel
theorem dX1_copyFrom_35 : decode cX1_copyFrom 35 = .ok (.aload_n 1, 1) := by decide +kernel
theorem dX1_copyFrom_36 : decode cX1_copyFrom 36 = .ok (.getfield 15, 3) := by decide +kernel
theorem dX1_copyFrom_39 : decode cX1_copyFrom 39 = .ok (.iconst 0, 1) := by decide +kernel
theorem dX1_copyFrom_40 : decode cX1_copyFrom 40 = .ok (.aload_n 0, 1) := by decide +kernel
theorem dX1_copyFrom_41 : decode cX1_copyFrom 41 = .ok (.getfield 15, 3) := by decide +kernel
theorem dX1_copyFrom_44 : decode cX1_copyFrom 44 = .ok (.iconst 0, 1) := by decide +kernel
theorem dX1_copyFrom_45 : decode cX1_copyFrom 45 = .ok (.sipush 128, 3) := by decide +kernel
theorem dX1_copyFrom_48 : decode cX1_copyFrom 48 = .ok (.invokestatic 41, 3) := by decide +kernel
theorem dX1_copyFrom_51 : decode cX1_copyFrom 51 = .ok (.aload_n 1, 1) := by decide +kernel
theorem dX1_copyFrom_52 : decode cX1_copyFrom 52 = .ok (.getfield 19, 3) := by decide +kernel
theorem dX1_copyFrom_55 : decode cX1_copyFrom 55 = .ok (.iconst 0, 1) := by decide +kernel
theorem dX1_copyFrom_56 : decode cX1_copyFrom 56 = .ok (.aload_n 0, 1) := by decide +kernel
theorem dX1_copyFrom_57 : decode cX1_copyFrom 57 = .ok (.getfield 19, 3) := by decide +kernel
theorem dX1_copyFrom_60 : decode cX1_copyFrom 60 = .ok (.iconst 0, 1) := by decide +kernel
theorem dX1_copyFrom_61 : decode cX1_copyFrom 61 = .ok (.sipush 128, 3) := by decide +kernel
theorem dX1_copyFrom_64 : decode cX1_copyFrom 64 = .ok (.invokestatic 41, 3) := by decide +kernel
theorem dX1_copyFrom_67 : decode cX1_copyFrom 67 = .ok (.aload_n 1, 1) := by decide +kernel
theorem dX1_copyFrom_68 : decode cX1_copyFrom 68 = .ok (.getfield 22, 3) := by decide +kernel
theorem dX1_copyFrom_71 : decode cX1_copyFrom 71 = .ok (.iconst 0, 1) := by decide +kernel
theorem dX1_copyFrom_72 : decode cX1_copyFrom 72 = .ok (.aload_n 0, 1) := by decide +kernel
theorem dX1_copyFrom_73 : decode cX1_copyFrom 73 = .ok (.getfield 22, 3) := by decide +kernel
theorem dX1_copyFrom_76 : decode cX1_copyFrom 76 = .ok (.iconst 0, 1) := by decide +kernel
theorem dX1_copyFrom_77 : decode cX1_copyFrom 77 = .ok (.sipush 128, 3) := by decide +kernel
theorem dX1_copyFrom_80 : decode cX1_copyFrom 80 = .ok (.invokestatic 41, 3) := by decide +kernel
theorem dX1_copyFrom_83 : decode cX1_copyFrom 83 = .ok (.aload_n 1, 1) := by decide +kernel
theorem dX1_copyFrom_84 : decode cX1_copyFrom 84 = .ok (.getfield 25, 3) := by decide +kernel
theorem dX1_copyFrom_87 : decode cX1_copyFrom 87 = .ok (.iconst 0, 1) := by decide +kernel
theorem dX1_copyFrom_88 : decode cX1_copyFrom 88 = .ok (.aload_n 0, 1) := by decide +kernel
theorem dX1_copyFrom_89 : decode cX1_copyFrom 89 = .ok (.getfield 25, 3) := by decide +kernel
theorem dX1_copyFrom_92 : decode cX1_copyFrom 92 = .ok (.iconst 0, 1) := by decide +kernel
theorem dX1_copyFrom_93 : decode cX1_copyFrom 93 = .ok (.sipush 128, 3) := by decide +kernel
theorem dX1_copyFrom_96 : decode cX1_copyFrom 96 = .ok (.invokestatic 41, 3) := by decide +kernel
theorem dX1_copyFrom_99 : decode cX1_copyFrom 99 = .ok (.aload_n 1, 1) := by decide +kernel
theorem dX1_copyFrom_100 : decode cX1_copyFrom 100 = .ok (.getfield 28, 3) := by decide +kernel
theorem dX1_copyFrom_103 : decode cX1_copyFrom 103 = .ok (.iconst 0, 1) := by decide +kernel
theorem dX1_copyFrom_104 : decode cX1_copyFrom 104 = .ok (.aload_n 0, 1) := by decide +kernel
theorem dX1_copyFrom_105 : decode cX1_copyFrom 105 = .ok (.getfield 28, 3) := by decide +kernel
theorem dX1_copyFrom_108 : decode cX1_copyFrom 108 = .ok (.iconst 0, 1) := by decide +kernel
theorem dX1_copyFrom_109 : decode cX1_copyFrom 109 = .ok (.sipush 128, 3) := by decide +kernel
theorem dX1_copyFrom_112 : decode cX1_copyFrom 112 = .ok (.invokestatic 41, 3) := by decide +kernel
theorem dX1_copyFrom_115 : decode cX1_copyFrom 115 = .ok (.aload_n 1, 1) := by decide +kernel
theorem dX1_copyFrom_116 : decode cX1_copyFrom 116 = .ok (.getfield 31, 3) := by decide +kernel
theorem dX1_copyFrom_119 : decode cX1_copyFrom 119 = .ok (.iconst 0, 1) := by decide +kernel
theorem dX1_copyFrom_120 : decode cX1_copyFrom 120 = .ok (.aload_n 0, 1) := by decide +kernel
theorem dX1_copyFrom_121 : decode cX1_copyFrom 121 = .ok (.getfield 31, 3) := by decide +kernel
theorem dX1_copyFrom_124 : decode cX1_copyFrom 124 = .ok (.iconst 0, 1) := by decide +kernel
theorem dX1_copyFrom_125 : decode cX1_copyFrom 125 = .ok (.sipush 128, 3) := by decide +kernel
theorem dX1_copyFrom_128 : decode cX1_copyFrom 128 = .ok (.invokestatic 41, 3) := by decide +kernel
theorem dX1_copyFrom_131 : decode cX1_copyFrom 131 = .ok (.aload_n 1, 1) := by decide +kernel
theorem dX1_copyFrom_132 : decode cX1_copyFrom 132 = .ok (.getfield 34, 3) := by decide +kernel
theorem dX1_copyFrom_135 : decode cX1_copyFrom 135 = .ok (.iconst 0, 1) := by decide +kernel
theorem dX1_copyFrom_136 : decode cX1_copyFrom 136 = .ok (.aload_n 0, 1) := by decide +kernel
theorem dX1_copyFrom_137 : decode cX1_copyFrom 137 = .ok (.getfield 34, 3) := by decide +kernel
theorem dX1_copyFrom_140 : decode cX1_copyFrom 140 = .ok (.iconst 0, 1) := by decide +kernel
theorem dX1_copyFrom_141 : decode cX1_copyFrom 141 = .ok (.sipush 128, 3) := by decide +kernel
theorem dX1_copyFrom_144 : decode cX1_copyFrom 144 = .ok (.invokestatic 41, 3) := by decide +kernel
theorem dX1_copyFrom_147 : decode cX1_copyFrom 147 = .ok (.return_, 1) := by decide +kernel
theorem dX1_isCell_0 : decode cX1_isCell 0 = .ok (.iload_n 1, 1) := by decide +kernel
theorem dX1_isCell_1 : decode cX1_isCell 1 = .ok (.ifCond .lt 14, 3) := by decide +kernel
theorem dX1_isCell_4 : decode cX1_isCell 4 = .ok (.iload_n 1, 1) := by decide +kernel
theorem dX1_isCell_5 : decode cX1_isCell 5 = .ok (.sipush 128, 3) := by decide +kernel
theorem dX1_isCell_8 : decode cX1_isCell 8 = .ok (.if_icmp .ge 7, 3) := by decide +kernel
theorem dX1_isCell_11 : decode cX1_isCell 11 = .ok (.iconst 1, 1) := by decide +kernel
theorem dX1_isCell_12 : decode cX1_isCell 12 = .ok (.goto 4, 3) := by decide +kernel
theorem dX1_isCell_15 : decode cX1_isCell 15 = .ok (.iconst 0, 1) := by decide +kernel
theorem dX1_isCell_16 : decode cX1_isCell 16 = .ok (.ireturn, 1) := by decide +kernel
theorem dX1_numberOf_0 : decode cX1_numberOf 0 = .ok (.aload_n 0, 1) := by decide +kernel
theorem dX1_numberOf_1 : decode cX1_numberOf 1 = .ok (.iload_n 1, 1) := by decide +kernel
theorem dX1_numberOf_2 : decode cX1_numberOf 2 = .ok (.invokevirtual 47, 3) := by decide +kernel
theorem dX1_numberOf_5 : decode cX1_numberOf 5 = .ok (.ifCond .eq 12, 3) := by decide +kernel
theorem dX1_numberOf_8 : decode cX1_numberOf 8 = .ok (.aload_n 0, 1) := by decide +kernel
theorem dX1_numberOf_9 : decode cX1_numberOf 9 = .ok (.getfield 22, 3) := by decide +kernel
theorem dX1_numberOf_12 : decode cX1_numberOf 12 = .ok (.iload_n 1, 1) := by decide +kernel
theorem dX1_numberOf_13 : decode cX1_numberOf 13 = .ok (.iaload, 1) := by decide +kernel
theorem dX1_numberOf_14 : decode cX1_numberOf 14 = .ok (.goto 4, 3) := by decide +kernel
theorem dX1_numberOf_17 : decode cX1_numberOf 17 = .ok (.iconst (-1), 1) := by decide +kernel
theorem dX1_numberOf_18 : decode cX1_numberOf 18 = .ok (.ireturn, 1) := by decide +kernel
theorem dX1_sizeOf_0 : decode cX1_sizeOf 0 = .ok (.aload_n 0, 1) := by decide +kernel
theorem dX1_sizeOf_1 : decode cX1_sizeOf 1 = .ok (.iload_n 1, 1) := by decide +kernel
theorem dX1_sizeOf_2 : decode cX1_sizeOf 2 = .ok (.invokevirtual 47, 3) := by decide +kernel
theorem dX1_sizeOf_5 : decode cX1_sizeOf 5 = .ok (.ifCond .eq 12, 3) := by decide +kernel
theorem dX1_sizeOf_8 : decode cX1_sizeOf 8 = .ok (.aload_n 0, 1) := by decide +kernel
theorem dX1_sizeOf_9 : decode cX1_sizeOf 9 = .ok (.getfield 25, 3) := by decide +kernel
theorem dX1_sizeOf_12 : decode cX1_sizeOf 12 = .ok (.iload_n 1, 1) := by decide +kernel
theorem dX1_sizeOf_13 : decode cX1_sizeOf 13 = .ok (.iaload, 1) := by decide +kernel
theorem dX1_sizeOf_14 : decode cX1_sizeOf 14 = .ok (.goto 4, 3) := by decide +kernel
theorem dX1_sizeOf_17 : decode cX1_sizeOf 17 = .ok (.iconst 0, 1) := by decide +kernel
theorem dX1_sizeOf_18 : decode cX1_sizeOf 18 = .ok (.ireturn, 1) := by decide +kernel
theorem dX1_partsOf_0 : decode cX1_partsOf 0 = .ok (.aload_n 0, 1) := by decide +kernel
theorem dX1_partsOf_1 : decode cX1_partsOf 1 = .ok (.iload_n 1, 1) := by decide +kernel
theorem dX1_partsOf_2 : decode cX1_partsOf 2 = .ok (.invokevirtual 47, 3) := by decide +kernel
theorem dX1_partsOf_5 : decode cX1_partsOf 5 = .ok (.ifCond .eq 12, 3) := by decide +kernel
theorem dX1_partsOf_8 : decode cX1_partsOf 8 = .ok (.aload_n 0, 1) := by decide +kernel
theorem dX1_partsOf_9 : decode cX1_partsOf 9 = .ok (.getfield 28, 3) := by decide +kernel
theorem dX1_partsOf_12 : decode cX1_partsOf 12 = .ok (.iload_n 1, 1) := by decide +kernel
theorem dX1_partsOf_13 : decode cX1_partsOf 13 = .ok (.iaload, 1) := by decide +kernel
theorem dX1_partsOf_14 : decode cX1_partsOf 14 = .ok (.goto 4, 3) := by decide +kernel
theorem dX1_partsOf_17 : decode cX1_partsOf 17 = .ok (.iconst 0, 1) := by decide +kernel
theorem dX1_partsOf_18 : decode cX1_partsOf 18 = .ok (.ireturn, 1) := by decide +kernel
theorem dX1_packetAhead_0 : decode cX1_packetAhead 0 = .ok (.aload_n 0, 1) := by decide +kernel
theorem dX1_packetAhead_1 : decode cX1_packetAhead 1 = .ok (.iload_n 1, 1) := by decide +kernel
theorem dX1_packetAhead_2 : decode cX1_packetAhead 2 = .ok (.invokevirtual 47, 3) := by decide +kernel
theorem dX1_packetAhead_5 : decode cX1_packetAhead 5 = .ok (.ifCond .eq 12, 3) := by decide +kernel
theorem dX1_packetAhead_8 : decode cX1_packetAhead 8 = .ok (.aload_n 0, 1) := by decide +kernel
theorem dX1_packetAhead_9 : decode cX1_packetAhead 9 = .ok (.getfield 31, 3) := by decide +kernel
theorem dX1_packetAhead_12 : decode cX1_packetAhead 12 = .ok (.iload_n 1, 1) := by decide +kernel
theorem dX1_packetAhead_13 : decode cX1_packetAhead 13 = .ok (.iaload, 1) := by decide +kernel
theorem dX1_packetAhead_14 : decode cX1_packetAhead 14 = .ok (.goto 4, 3) := by decide +kernel
theorem dX1_packetAhead_17 : decode cX1_packetAhead 17 = .ok (.iconst (-1), 1) := by decide +kernel
theorem dX1_packetAhead_18 : decode cX1_packetAhead 18 = .ok (.ireturn, 1) := by decide +kernel
theorem dX1_packetBehind_0 : decode cX1_packetBehind 0 = .ok (.aload_n 0, 1) := by decide +kernel
theorem dX1_packetBehind_1 : decode cX1_packetBehind 1 = .ok (.iload_n 1, 1) := by decide +kernel
theorem dX1_packetBehind_2 : decode cX1_packetBehind 2 = .ok (.invokevirtual 47, 3) := by decide +kernel
theorem dX1_packetBehind_5 : decode cX1_packetBehind 5 = .ok (.ifCond .eq 12, 3) := by decide +kernel
theorem dX1_packetBehind_8 : decode cX1_packetBehind 8 = .ok (.aload_n 0, 1) := by decide +kernel
theorem dX1_packetBehind_9 : decode cX1_packetBehind 9 = .ok (.getfield 34, 3) := by decide +kernel
theorem dX1_packetBehind_12 : decode cX1_packetBehind 12 = .ok (.iload_n 1, 1) := by decide +kernel
theorem dX1_packetBehind_13 : decode cX1_packetBehind 13 = .ok (.iaload, 1) := by decide +kernel
theorem dX1_packetBehind_14 : decode cX1_packetBehind 14 = .ok (.goto 4, 3) := by decide +kernel
theorem dX1_packetBehind_17 : decode cX1_packetBehind 17 = .ok (.iconst (-1), 1) := by decide +kernel
theorem dX1_packetBehind_18 : decode cX1_packetBehind 18 = .ok (.ireturn, 1) := by decide +kernel
theorem dX1_partBehind_0 : decode cX1_partBehind 0 = .ok (.aload_n 0, 1) := by decide +kernel
theorem dX1_partBehind_1 : decode cX1_partBehind 1 = .ok (.iload_n 1, 1) := by decide +kernel
theorem dX1_partBehind_2 : decode cX1_partBehind 2 = .ok (.invokevirtual 47, 3) := by decide +kernel
theorem dX1_partBehind_5 : decode cX1_partBehind 5 = .ok (.ifCond .eq 12, 3) := by decide +kernel
theorem dX1_partBehind_8 : decode cX1_partBehind 8 = .ok (.aload_n 0, 1) := by decide +kernel
theorem dX1_partBehind_9 : decode cX1_partBehind 9 = .ok (.getfield 19, 3) := by decide +kernel
theorem dX1_partBehind_12 : decode cX1_partBehind 12 = .ok (.iload_n 1, 1) := by decide +kernel
theorem dX1_partBehind_13 : decode cX1_partBehind 13 = .ok (.iaload, 1) := by decide +kernel
theorem dX1_partBehind_14 : decode cX1_partBehind 14 = .ok (.goto 4, 3) := by decide +kernel
theorem dX1_partBehind_17 : decode cX1_partBehind 17 = .ok (.iconst (-1), 1) := by decide +kernel
theorem dX1_partBehind_18 : decode cX1_partBehind 18 = .ok (.ireturn, 1) := by decide +kernel
theorem dX1_find_0 : decode cX1_find 0 = .ok (.iload_n 1, 1) := by decide +kernel
theorem dX1_find_1 : decode cX1_find 1 = .ok (.ifCond .ge 5, 3) := by decide +kernel
theorem dX1_find_4 : decode cX1_find 4 = .ok (.iconst (-1), 1) := by decide +kernel
theorem dX1_find_5 : decode cX1_find 5 = .ok (.ireturn, 1) := by decide +kernel
theorem dX1_find_6 : decode cX1_find 6 = .ok (.iconst 0, 1) := by decide +kernel
theorem dX1_find_7 : decode cX1_find 7 = .ok (.istore_n 2, 1) := by decide +kernel
theorem dX1_find_8 : decode cX1_find 8 = .ok (.iload_n 2, 1) := by decide +kernel
theorem dX1_find_9 : decode cX1_find 9 = .ok (.aload_n 0, 1) := by decide +kernel
theorem dX1_find_10 : decode cX1_find 10 = .ok (.getfield 37, 3) := by decide +kernel
theorem dX1_find_13 : decode cX1_find 13 = .ok (.if_icmp .ge 21, 3) := by decide +kernel
theorem dX1_find_16 : decode cX1_find 16 = .ok (.aload_n 0, 1) := by decide +kernel
theorem dX1_find_17 : decode cX1_find 17 = .ok (.getfield 22, 3) := by decide +kernel
theorem dX1_find_20 : decode cX1_find 20 = .ok (.iload_n 2, 1) := by decide +kernel
theorem dX1_find_21 : decode cX1_find 21 = .ok (.iaload, 1) := by decide +kernel
theorem dX1_find_22 : decode cX1_find 22 = .ok (.iload_n 1, 1) := by decide +kernel
theorem dX1_find_23 : decode cX1_find 23 = .ok (.if_icmp .ne 5, 3) := by decide +kernel
theorem dX1_find_26 : decode cX1_find 26 = .ok (.iload_n 2, 1) := by decide +kernel
theorem dX1_find_27 : decode cX1_find 27 = .ok (.ireturn, 1) := by decide +kernel
theorem dX1_find_28 : decode cX1_find 28 = .ok (.iinc 2 1, 3) := by decide +kernel
theorem dX1_find_31 : decode cX1_find 31 = .ok (.goto (-23), 3) := by decide +kernel
theorem dX1_find_34 : decode cX1_find 34 = .ok (.iconst (-1), 1) := by decide +kernel
theorem dX1_find_35 : decode cX1_find 35 = .ok (.ireturn, 1) := by decide +kernel
theorem dX1_partStart_0 : decode cX1_partStart 0 = .ok (.iload_n 2, 1) := by decide +kernel
theorem dX1_partStart_1 : decode cX1_partStart 1 = .ok (.ifCond .lt 12, 3) := by decide +kernel
theorem dX1_partStart_4 : decode cX1_partStart 4 = .ok (.iload_n 2, 1) := by decide +kernel
theorem dX1_partStart_5 : decode cX1_partStart 5 = .ok (.aload_n 0, 1) := by decide +kernel
theorem dX1_partStart_6 : decode cX1_partStart 6 = .ok (.iload_n 1, 1) := by decide +kernel
theorem dX1_partStart_7 : decode cX1_partStart 7 = .ok (.invokevirtual 51, 3) := by decide +kernel
theorem dX1_partStart_10 : decode cX1_partStart 10 = .ok (.if_icmp .lt 5, 3) := by decide +kernel
theorem dX1_partStart_13 : decode cX1_partStart 13 = .ok (.iconst (-1), 1) := by decide +kernel
theorem dX1_partStart_14 : decode cX1_partStart 14 = .ok (.ireturn, 1) := by decide +kernel
theorem dX1_partStart_15 : decode cX1_partStart 15 = .ok (.iload_n 1, 1) := by decide +kernel
theorem dX1_partStart_16 : decode cX1_partStart 16 = .ok (.istore_n 3, 1) := by decide +kernel
theorem dX1_partStart_17 : decode cX1_partStart 17 = .ok (.iconst 0, 1) := by decide +kernel
theorem dX1_partStart_18 : decode cX1_partStart 18 = .ok (.istore 4, 2) := by decide +kernel
theorem dX1_partStart_20 : decode cX1_partStart 20 = .ok (.iload 4, 2) := by decide +kernel
theorem dX1_partStart_22 : decode cX1_partStart 22 = .ok (.iload_n 2, 1) := by decide +kernel
theorem dX1_partStart_23 : decode cX1_partStart 23 = .ok (.if_icmp .ge 15, 3) := by decide +kernel
theorem dX1_partStart_26 : decode cX1_partStart 26 = .ok (.aload_n 0, 1) := by decide +kernel
theorem dX1_partStart_27 : decode cX1_partStart 27 = .ok (.iload_n 3, 1) := by decide +kernel
theorem dX1_partStart_28 : decode cX1_partStart 28 = .ok (.invokevirtual 55, 3) := by decide +kernel
theorem dX1_partStart_31 : decode cX1_partStart 31 = .ok (.istore_n 3, 1) := by decide +kernel
theorem dX1_partStart_32 : decode cX1_partStart 32 = .ok (.iinc 4 1, 3) := by decide +kernel
theorem dX1_partStart_35 : decode cX1_partStart 35 = .ok (.goto (-15), 3) := by decide +kernel
theorem dX1_partStart_38 : decode cX1_partStart 38 = .ok (.aload_n 0, 1) := by decide +kernel
theorem dX1_partStart_39 : decode cX1_partStart 39 = .ok (.iload_n 3, 1) := by decide +kernel
theorem dX1_partStart_40 : decode cX1_partStart 40 = .ok (.invokevirtual 47, 3) := by decide +kernel
theorem dX1_partStart_43 : decode cX1_partStart 43 = .ok (.ifCond .eq 7, 3) := by decide +kernel
theorem dX1_partStart_46 : decode cX1_partStart 46 = .ok (.iload_n 3, 1) := by decide +kernel
theorem dX1_partStart_47 : decode cX1_partStart 47 = .ok (.goto 4, 3) := by decide +kernel
theorem dX1_partStart_50 : decode cX1_partStart 50 = .ok (.iconst (-1), 1) := by decide +kernel
theorem dX1_partStart_51 : decode cX1_partStart 51 = .ok (.ireturn, 1) := by decide +kernel
theorem dX1_startsRun_0 : decode cX1_startsRun 0 = .ok (.iload_n 1, 1) := by decide +kernel
theorem dX1_startsRun_1 : decode cX1_startsRun 1 = .ok (.ifCond .lt 39, 3) := by decide +kernel
theorem dX1_startsRun_4 : decode cX1_startsRun 4 = .ok (.iload_n 1, 1) := by decide +kernel
theorem dX1_startsRun_5 : decode cX1_startsRun 5 = .ok (.aload_n 0, 1) := by decide +kernel
theorem dX1_startsRun_6 : decode cX1_startsRun 6 = .ok (.getfield 37, 3) := by decide +kernel
theorem dX1_startsRun_9 : decode cX1_startsRun 9 = .ok (.if_icmp .ge 31, 3) := by decide +kernel
theorem dX1_startsRun_12 : decode cX1_startsRun 12 = .ok (.aload_n 0, 1) := by decide +kernel
theorem dX1_startsRun_13 : decode cX1_startsRun 13 = .ok (.getfield 9, 3) := by decide +kernel
theorem dX1_startsRun_16 : decode cX1_startsRun 16 = .ok (.iload_n 1, 1) := by decide +kernel
theorem dX1_startsRun_17 : decode cX1_startsRun 17 = .ok (.baload, 1) := by decide +kernel
theorem dX1_startsRun_18 : decode cX1_startsRun 18 = .ok (.ifCond .ne 22, 3) := by decide +kernel
theorem dX1_startsRun_21 : decode cX1_startsRun 21 = .ok (.iload_n 1, 1) := by decide +kernel
theorem dX1_startsRun_22 : decode cX1_startsRun 22 = .ok (.ifCond .eq 14, 3) := by decide +kernel
theorem dX1_startsRun_25 : decode cX1_startsRun 25 = .ok (.aload_n 0, 1) := by decide +kernel
theorem dX1_startsRun_26 : decode cX1_startsRun 26 = .ok (.getfield 9, 3) := by decide +kernel
theorem dX1_startsRun_29 : decode cX1_startsRun 29 = .ok (.iload_n 1, 1) := by decide +kernel
theorem dX1_startsRun_30 : decode cX1_startsRun 30 = .ok (.iconst 1, 1) := by decide +kernel
theorem dX1_startsRun_31 : decode cX1_startsRun 31 = .ok (.isub, 1) := by decide +kernel
theorem dX1_startsRun_32 : decode cX1_startsRun 32 = .ok (.baload, 1) := by decide +kernel
theorem dX1_startsRun_33 : decode cX1_startsRun 33 = .ok (.ifCond .eq 7, 3) := by decide +kernel
theorem dX1_startsRun_36 : decode cX1_startsRun 36 = .ok (.iconst 1, 1) := by decide +kernel
theorem dX1_startsRun_37 : decode cX1_startsRun 37 = .ok (.goto 4, 3) := by decide +kernel
theorem dX1_startsRun_40 : decode cX1_startsRun 40 = .ok (.iconst 0, 1) := by decide +kernel
theorem dX1_startsRun_41 : decode cX1_startsRun 41 = .ok (.ireturn, 1) := by decide +kernel
theorem dX1_freeLength_0 : decode cX1_freeLength 0 = .ok (.iconst 0, 1) := by decide +kernel
theorem dX1_freeLength_1 : decode cX1_freeLength 1 = .ok (.istore_n 2, 1) := by decide +kernel
theorem dX1_freeLength_2 : decode cX1_freeLength 2 = .ok (.iconst 0, 1) := by decide +kernel
theorem dX1_freeLength_3 : decode cX1_freeLength 3 = .ok (.iload_n 1, 1) := by decide +kernel
theorem dX1_freeLength_4 : decode cX1_freeLength 4 = .ok (.invokestatic 58, 3) := by decide +kernel
theorem dX1_freeLength_7 : decode cX1_freeLength 7 = .ok (.istore_n 3, 1) := by decide +kernel
theorem dX1_freeLength_8 : decode cX1_freeLength 8 = .ok (.iload_n 3, 1) := by decide +kernel
theorem dX1_freeLength_9 : decode cX1_freeLength 9 = .ok (.aload_n 0, 1) := by decide +kernel
theorem dX1_freeLength_10 : decode cX1_freeLength 10 = .ok (.getfield 37, 3) := by decide +kernel
theorem dX1_freeLength_13 : decode cX1_freeLength 13 = .ok (.if_icmp .ge 21, 3) := by decide +kernel
theorem dX1_freeLength_16 : decode cX1_freeLength 16 = .ok (.aload_n 0, 1) := by decide +kernel
theorem dX1_freeLength_17 : decode cX1_freeLength 17 = .ok (.getfield 9, 3) := by decide +kernel
theorem dX1_freeLength_20 : decode cX1_freeLength 20 = .ok (.iload_n 3, 1) := by decide +kernel
theorem dX1_freeLength_21 : decode cX1_freeLength 21 = .ok (.baload, 1) := by decide +kernel
theorem dX1_freeLength_22 : decode cX1_freeLength 22 = .ok (.ifCond .ne 12, 3) := by decide +kernel
theorem dX1_freeLength_25 : decode cX1_freeLength 25 = .ok (.iinc 2 1, 3) := by decide +kernel
theorem dX1_freeLength_28 : decode cX1_freeLength 28 = .ok (.iinc 3 1, 3) := by decide +kernel
theorem dX1_freeLength_31 : decode cX1_freeLength 31 = .ok (.goto (-23), 3) := by decide +kernel
theorem dX1_freeLength_34 : decode cX1_freeLength 34 = .ok (.iload_n 2, 1) := by decide +kernel
theorem dX1_freeLength_35 : decode cX1_freeLength 35 = .ok (.ireturn, 1) := by decide +kernel
theorem dX1_countRuns_0 : decode cX1_countRuns 0 = .ok (.iconst 0, 1) := by decide +kernel
theorem dX1_countRuns_1 : decode cX1_countRuns 1 = .ok (.istore_n 1, 1) := by decide +kernel
theorem dX1_countRuns_2 : decode cX1_countRuns 2 = .ok (.iconst 0, 1) := by decide +kernel
theorem dX1_countRuns_3 : decode cX1_countRuns 3 = .ok (.istore_n 2, 1) := by decide +kernel
theorem dX1_countRuns_4 : decode cX1_countRuns 4 = .ok (.iload_n 2, 1) := by decide +kernel
theorem dX1_countRuns_5 : decode cX1_countRuns 5 = .ok (.aload_n 0, 1) := by decide +kernel
theorem dX1_countRuns_6 : decode cX1_countRuns 6 = .ok (.getfield 37, 3) := by decide +kernel
theorem dX1_countRuns_9 : decode cX1_countRuns 9 = .ok (.if_icmp .ge 20, 3) := by decide +kernel
theorem dX1_countRuns_12 : decode cX1_countRuns 12 = .ok (.aload_n 0, 1) := by decide +kernel
theorem dX1_countRuns_13 : decode cX1_countRuns 13 = .ok (.iload_n 2, 1) := by decide +kernel
theorem dX1_countRuns_14 : decode cX1_countRuns 14 = .ok (.invokevirtual 64, 3) := by decide +kernel
theorem dX1_countRuns_17 : decode cX1_countRuns 17 = .ok (.ifCond .eq 6, 3) := by decide +kernel
theorem dX1_countRuns_20 : decode cX1_countRuns 20 = .ok (.iinc 1 1, 3) := by decide +kernel
theorem dX1_countRuns_23 : decode cX1_countRuns 23 = .ok (.iinc 2 1, 3) := by decide +kernel
theorem dX1_countRuns_26 : decode cX1_countRuns 26 = .ok (.goto (-22), 3) := by decide +kernel
theorem dX1_countRuns_29 : decode cX1_countRuns 29 = .ok (.iload_n 1, 1) := by decide +kernel
theorem dX1_countRuns_30 : decode cX1_countRuns 30 = .ok (.ireturn, 1) := by decide +kernel
theorem dX1_findRun_0 : decode cX1_findRun 0 = .ok (.iconst 0, 1) := by decide +kernel
theorem dX1_findRun_1 : decode cX1_findRun 1 = .ok (.istore_n 2, 1) := by decide +kernel
theorem dX1_findRun_2 : decode cX1_findRun 2 = .ok (.iconst 0, 1) := by decide +kernel
theorem dX1_findRun_3 : decode cX1_findRun 3 = .ok (.istore_n 3, 1) := by decide +kernel
theorem dX1_findRun_4 : decode cX1_findRun 4 = .ok (.iload_n 3, 1) := by decide +kernel
theorem dX1_findRun_5 : decode cX1_findRun 5 = .ok (.aload_n 0, 1) := by decide +kernel
theorem dX1_findRun_6 : decode cX1_findRun 6 = .ok (.getfield 37, 3) := by decide +kernel
theorem dX1_findRun_9 : decode cX1_findRun 9 = .ok (.if_icmp .ge 27, 3) := by decide +kernel
theorem dX1_findRun_12 : decode cX1_findRun 12 = .ok (.aload_n 0, 1) := by decide +kernel
theorem dX1_findRun_13 : decode cX1_findRun 13 = .ok (.iload_n 3, 1) := by decide +kernel
theorem dX1_findRun_14 : decode cX1_findRun 14 = .ok (.invokevirtual 64, 3) := by decide +kernel
theorem dX1_findRun_17 : decode cX1_findRun 17 = .ok (.ifCond .eq 13, 3) := by decide +kernel
theorem dX1_findRun_20 : decode cX1_findRun 20 = .ok (.iload_n 2, 1) := by decide +kernel
theorem dX1_findRun_21 : decode cX1_findRun 21 = .ok (.iload_n 1, 1) := by decide +kernel
theorem dX1_findRun_22 : decode cX1_findRun 22 = .ok (.if_icmp .ne 5, 3) := by decide +kernel
theorem dX1_findRun_25 : decode cX1_findRun 25 = .ok (.iload_n 3, 1) := by decide +kernel
theorem dX1_findRun_26 : decode cX1_findRun 26 = .ok (.ireturn, 1) := by decide +kernel
theorem dX1_findRun_27 : decode cX1_findRun 27 = .ok (.iinc 2 1, 3) := by decide +kernel
theorem dX1_findRun_30 : decode cX1_findRun 30 = .ok (.iinc 3 1, 3) := by decide +kernel
theorem dX1_findRun_33 : decode cX1_findRun 33 = .ok (.goto (-29), 3) := by decide +kernel
theorem dX1_findRun_36 : decode cX1_findRun 36 = .ok (.iconst (-1), 1) := by decide +kernel
theorem dX1_findRun_37 : decode cX1_findRun 37 = .ok (.ireturn, 1) := by decide +kernel
theorem dX1_place_0 : decode cX1_place 0 = .ok (.iconst (-1), 1) := by decide +kernel
theorem dX1_place_1 : decode cX1_place 1 = .ok (.istore_n 3, 1) := by decide +kernel
theorem dX1_place_2 : decode cX1_place 2 = .ok (.iconst (-1), 1) := by decide +kernel
theorem dX1_place_3 : decode cX1_place 3 = .ok (.istore 4, 2) := by decide +kernel
theorem dX1_place_5 : decode cX1_place 5 = .ok (.iload_n 2, 1) := by decide +kernel
theorem dX1_place_6 : decode cX1_place 6 = .ok (.istore 5, 2) := by decide +kernel
theorem dX1_place_8 : decode cX1_place 8 = .ok (.iconst 0, 1) := by decide +kernel
theorem dX1_place_9 : decode cX1_place 9 = .ok (.istore 6, 2) := by decide +kernel
theorem dX1_place_11 : decode cX1_place 11 = .ok (.iconst 0, 1) := by decide +kernel
theorem dX1_place_12 : decode cX1_place 12 = .ok (.istore 7, 2) := by decide +kernel
theorem dX1_place_14 : decode cX1_place 14 = .ok (.iload 7, 2) := by decide +kernel
theorem dX1_place_16 : decode cX1_place 16 = .ok (.bipush 12, 2) := by decide +kernel
theorem dX1_place_18 : decode cX1_place 18 = .ok (.if_icmp .ge 93, 3) := by decide +kernel
theorem dX1_place_21 : decode cX1_place 21 = .ok (.iload 5, 2) := by decide +kernel
theorem dX1_place_23 : decode cX1_place 23 = .ok (.ifCond .le 88, 3) := by decide +kernel
theorem dX1_place_26 : decode cX1_place 26 = .ok (.aload_n 0, 1) := by decide +kernel
theorem dX1_place_27 : decode cX1_place 27 = .ok (.iload 5, 2) := by decide +kernel
theorem dX1_place_29 : decode cX1_place 29 = .ok (.invokevirtual 67, 3) := by decide +kernel
theorem dX1_place_32 : decode cX1_place 32 = .ok (.istore 8, 2) := by decide +kernel
theorem dX1_place_34 : decode cX1_place 34 = .ok (.aload_n 0, 1) := by decide +kernel
theorem dX1_place_35 : decode cX1_place 35 = .ok (.iload 8, 2) := by decide +kernel
theorem dX1_place_37 : decode cX1_place 37 = .ok (.invokevirtual 47, 3) := by decide +kernel
theorem dX1_place_40 : decode cX1_place 40 = .ok (.ifCond .ne 6, 3) := by decide +kernel
theorem dX1_place_43 : decode cX1_place 43 = .ok (.goto 68, 3) := by decide +kernel
theorem dX1_place_46 : decode cX1_place 46 = .ok (.iload 5, 2) := by decide +kernel
theorem dX1_place_48 : decode cX1_place 48 = .ok (.aload_n 0, 1) := by decide +kernel
theorem dX1_place_49 : decode cX1_place 49 = .ok (.iload 8, 2) := by decide +kernel
theorem dX1_place_51 : decode cX1_place 51 = .ok (.invokevirtual 70, 3) := by decide +kernel
theorem dX1_place_54 : decode cX1_place 54 = .ok (.invokestatic 73, 3) := by decide +kernel
theorem dX1_place_57 : decode cX1_place 57 = .ok (.istore 9, 2) := by decide +kernel
theorem dX1_place_59 : decode cX1_place 59 = .ok (.aload_n 0, 1) := by decide +kernel
theorem dX1_place_60 : decode cX1_place 60 = .ok (.iload 8, 2) := by decide +kernel
theorem dX1_place_62 : decode cX1_place 62 = .ok (.iload 9, 2) := by decide +kernel
theorem dX1_place_64 : decode cX1_place 64 = .ok (.invokevirtual 76, 3) := by decide +kernel
theorem dX1_place_67 : decode cX1_place 67 = .ok (.aload_n 0, 1) := by decide +kernel
theorem dX1_place_68 : decode cX1_place 68 = .ok (.iload 4, 2) := by decide +kernel
theorem dX1_place_70 : decode cX1_place 70 = .ok (.invokevirtual 47, 3) := by decide +kernel
theorem dX1_place_73 : decode cX1_place 73 = .ok (.ifCond .eq 15, 3) := by decide +kernel
theorem dX1_place_76 : decode cX1_place 76 = .ok (.aload_n 0, 1) := by decide +kernel
theorem dX1_place_77 : decode cX1_place 77 = .ok (.getfield 19, 3) := by decide +kernel
theorem dX1_place_80 : decode cX1_place 80 = .ok (.iload 4, 2) := by decide +kernel
theorem dX1_place_82 : decode cX1_place 82 = .ok (.iload 8, 2) := by decide +kernel
theorem dX1_place_84 : decode cX1_place 84 = .ok (.iastore, 1) := by decide +kernel
theorem dX1_place_85 : decode cX1_place 85 = .ok (.goto 6, 3) := by decide +kernel
theorem dX1_place_88 : decode cX1_place 88 = .ok (.iload 8, 2) := by decide +kernel
theorem dX1_place_90 : decode cX1_place 90 = .ok (.istore_n 3, 1) := by decide +kernel
theorem dX1_place_91 : decode cX1_place 91 = .ok (.iload 8, 2) := by decide +kernel
theorem dX1_place_93 : decode cX1_place 93 = .ok (.istore 4, 2) := by decide +kernel
theorem dX1_place_95 : decode cX1_place 95 = .ok (.iload 5, 2) := by decide +kernel
theorem dX1_place_97 : decode cX1_place 97 = .ok (.iload 9, 2) := by decide +kernel
theorem dX1_place_99 : decode cX1_place 99 = .ok (.isub, 1) := by decide +kernel
theorem dX1_place_100 : decode cX1_place 100 = .ok (.istore 5, 2) := by decide +kernel
theorem dX1_place_102 : decode cX1_place 102 = .ok (.iinc 6 1, 3) := by decide +kernel
theorem dX1_place_105 : decode cX1_place 105 = .ok (.iinc 7 1, 3) := by decide +kernel
theorem dX1_place_108 : decode cX1_place 108 = .ok (.goto (-94), 3) := by decide +kernel
theorem dX1_place_111 : decode cX1_place 111 = .ok (.aload_n 0, 1) := by decide +kernel
theorem dX1_place_112 : decode cX1_place 112 = .ok (.iload_n 3, 1) := by decide +kernel
theorem dX1_place_113 : decode cX1_place 113 = .ok (.invokevirtual 47, 3) := by decide +kernel
theorem dX1_place_116 : decode cX1_place 116 = .ok (.ifCond .eq 25, 3) := by decide +kernel
theorem dX1_place_119 : decode cX1_place 119 = .ok (.aload_n 0, 1) := by decide +kernel
theorem dX1_place_120 : decode cX1_place 120 = .ok (.getfield 22, 3) := by decide +kernel
theorem dX1_place_123 : decode cX1_place 123 = .ok (.iload_n 3, 1) := by decide +kernel
theorem dX1_place_124 : decode cX1_place 124 = .ok (.iload_n 1, 1) := by decide +kernel
theorem dX1_place_125 : decode cX1_place 125 = .ok (.iastore, 1) := by decide +kernel
theorem dX1_place_126 : decode cX1_place 126 = .ok (.aload_n 0, 1) := by decide +kernel
theorem dX1_place_127 : decode cX1_place 127 = .ok (.getfield 25, 3) := by decide +kernel
theorem dX1_place_130 : decode cX1_place 130 = .ok (.iload_n 3, 1) := by decide +kernel
theorem dX1_place_131 : decode cX1_place 131 = .ok (.iload_n 2, 1) := by decide +kernel
theorem dX1_place_132 : decode cX1_place 132 = .ok (.iastore, 1) := by decide +kernel
theorem dX1_place_133 : decode cX1_place 133 = .ok (.aload_n 0, 1) := by decide +kernel
theorem dX1_place_134 : decode cX1_place 134 = .ok (.getfield 28, 3) := by decide +kernel
theorem dX1_place_137 : decode cX1_place 137 = .ok (.iload_n 3, 1) := by decide +kernel
theorem dX1_place_138 : decode cX1_place 138 = .ok (.iload 6, 2) := by decide +kernel
theorem dX1_place_140 : decode cX1_place 140 = .ok (.iastore, 1) := by decide +kernel
theorem dX1_place_141 : decode cX1_place 141 = .ok (.iload_n 3, 1) := by decide +kernel
theorem dX1_place_142 : decode cX1_place 142 = .ok (.ireturn, 1) := by decide +kernel
theorem dX1_chooseRun_0 : decode cX1_chooseRun 0 = .ok (.iconst (-1), 1) := by decide +kernel
theorem dX1_chooseRun_1 : decode cX1_chooseRun 1 = .ok (.istore_n 2, 1) := by decide +kernel
theorem dX1_chooseRun_2 : decode cX1_chooseRun 2 = .ok (.iconst 0, 1) := by decide +kernel
theorem dX1_chooseRun_3 : decode cX1_chooseRun 3 = .ok (.istore_n 3, 1) := by decide +kernel
theorem dX1_chooseRun_4 : decode cX1_chooseRun 4 = .ok (.iconst 0, 1) := by decide +kernel
theorem dX1_chooseRun_5 : decode cX1_chooseRun 5 = .ok (.istore 4, 2) := by decide +kernel
theorem dX1_chooseRun_7 : decode cX1_chooseRun 7 = .ok (.iload 4, 2) := by decide +kernel
theorem dX1_chooseRun_9 : decode cX1_chooseRun 9 = .ok (.aload_n 0, 1) := by decide +kernel
theorem dX1_chooseRun_10 : decode cX1_chooseRun 10 = .ok (.getfield 37, 3) := by decide +kernel
theorem dX1_chooseRun_13 : decode cX1_chooseRun 13 = .ok (.if_icmp .ge 42, 3) := by decide +kernel
theorem dX1_chooseRun_16 : decode cX1_chooseRun 16 = .ok (.aload_n 0, 1) := by decide +kernel
theorem dX1_chooseRun_17 : decode cX1_chooseRun 17 = .ok (.iload 4, 2) := by decide +kernel
theorem dX1_chooseRun_19 : decode cX1_chooseRun 19 = .ok (.invokevirtual 64, 3) := by decide +kernel
theorem dX1_chooseRun_22 : decode cX1_chooseRun 22 = .ok (.ifCond .eq 27, 3) := by decide +kernel
theorem dX1_chooseRun_25 : decode cX1_chooseRun 25 = .ok (.aload_n 0, 1) := by decide +kernel
theorem dX1_chooseRun_26 : decode cX1_chooseRun 26 = .ok (.iload 4, 2) := by decide +kernel
theorem dX1_chooseRun_28 : decode cX1_chooseRun 28 = .ok (.invokevirtual 70, 3) := by decide +kernel
theorem dX1_chooseRun_31 : decode cX1_chooseRun 31 = .ok (.istore 5, 2) := by decide +kernel
theorem dX1_chooseRun_33 : decode cX1_chooseRun 33 = .ok (.iload 5, 2) := by decide +kernel
theorem dX1_chooseRun_35 : decode cX1_chooseRun 35 = .ok (.iload_n 3, 1) := by decide +kernel
theorem dX1_chooseRun_36 : decode cX1_chooseRun 36 = .ok (.iload_n 1, 1) := by decide +kernel
theorem dX1_chooseRun_37 : decode cX1_chooseRun 37 = .ok (.invokestatic 80, 3) := by decide +kernel
theorem dX1_chooseRun_40 : decode cX1_chooseRun 40 = .ok (.ifCond .eq 9, 3) := by decide +kernel
theorem dX1_chooseRun_43 : decode cX1_chooseRun 43 = .ok (.iload 4, 2) := by decide +kernel
theorem dX1_chooseRun_45 : decode cX1_chooseRun 45 = .ok (.istore_n 2, 1) := by decide +kernel
theorem dX1_chooseRun_46 : decode cX1_chooseRun 46 = .ok (.iload 5, 2) := by decide +kernel
theorem dX1_chooseRun_48 : decode cX1_chooseRun 48 = .ok (.istore_n 3, 1) := by decide +kernel
theorem dX1_chooseRun_49 : decode cX1_chooseRun 49 = .ok (.iinc 4 1, 3) := by decide +kernel
theorem dX1_chooseRun_52 : decode cX1_chooseRun 52 = .ok (.goto (-45), 3) := by decide +kernel
theorem dX1_chooseRun_55 : decode cX1_chooseRun 55 = .ok (.iload_n 2, 1) := by decide +kernel
theorem dX1_chooseRun_56 : decode cX1_chooseRun 56 = .ok (.ireturn, 1) := by decide +kernel
theorem dX1_suitsBetter_0 : decode cX1_suitsBetter 0 = .ok (.iload_n 1, 1) := by decide +kernel
theorem dX1_suitsBetter_1 : decode cX1_suitsBetter 1 = .ok (.iload_n 2, 1) := by decide +kernel
theorem dX1_suitsBetter_2 : decode cX1_suitsBetter 2 = .ok (.if_icmp .lt 19, 3) := by decide +kernel
theorem dX1_suitsBetter_5 : decode cX1_suitsBetter 5 = .ok (.iload_n 0, 1) := by decide +kernel
theorem dX1_suitsBetter_6 : decode cX1_suitsBetter 6 = .ok (.iload_n 2, 1) := by decide +kernel
theorem dX1_suitsBetter_7 : decode cX1_suitsBetter 7 = .ok (.if_icmp .lt 12, 3) := by decide +kernel
theorem dX1_suitsBetter_10 : decode cX1_suitsBetter 10 = .ok (.iload_n 0, 1) := by decide +kernel
theorem dX1_suitsBetter_11 : decode cX1_suitsBetter 11 = .ok (.iload_n 1, 1) := by decide +kernel
theorem dX1_suitsBetter_12 : decode cX1_suitsBetter 12 = .ok (.if_icmp .ge 7, 3) := by decide +kernel
theorem dX1_suitsBetter_15 : decode cX1_suitsBetter 15 = .ok (.iconst 1, 1) := by decide +kernel
theorem dX1_suitsBetter_16 : decode cX1_suitsBetter 16 = .ok (.goto 4, 3) := by decide +kernel
theorem dX1_suitsBetter_19 : decode cX1_suitsBetter 19 = .ok (.iconst 0, 1) := by decide +kernel
theorem dX1_suitsBetter_20 : decode cX1_suitsBetter 20 = .ok (.ireturn, 1) := by decide +kernel
theorem dX1_suitsBetter_21 : decode cX1_suitsBetter 21 = .ok (.iload_n 0, 1) := by decide +kernel
theorem dX1_suitsBetter_22 : decode cX1_suitsBetter 22 = .ok (.iload_n 1, 1) := by decide +kernel
theorem dX1_suitsBetter_23 : decode cX1_suitsBetter 23 = .ok (.if_icmp .le 7, 3) := by decide +kernel
theorem dX1_suitsBetter_26 : decode cX1_suitsBetter 26 = .ok (.iconst 1, 1) := by decide +kernel
theorem dX1_suitsBetter_27 : decode cX1_suitsBetter 27 = .ok (.goto 4, 3) := by decide +kernel
theorem dX1_suitsBetter_30 : decode cX1_suitsBetter 30 = .ok (.iconst 0, 1) := by decide +kernel
theorem dX1_suitsBetter_31 : decode cX1_suitsBetter 31 = .ok (.ireturn, 1) := by decide +kernel
theorem dX1_occupy_0 : decode cX1_occupy 0 = .ok (.iload_n 1, 1) := by decide +kernel
theorem dX1_occupy_1 : decode cX1_occupy 1 = .ok (.istore_n 3, 1) := by decide +kernel
theorem dX1_occupy_2 : decode cX1_occupy 2 = .ok (.iload_n 3, 1) := by decide +kernel
theorem dX1_occupy_3 : decode cX1_occupy 3 = .ok (.iload_n 1, 1) := by decide +kernel
theorem dX1_occupy_4 : decode cX1_occupy 4 = .ok (.iload_n 2, 1) := by decide +kernel
theorem dX1_occupy_5 : decode cX1_occupy 5 = .ok (.iadd, 1) := by decide +kernel
theorem dX1_occupy_6 : decode cX1_occupy 6 = .ok (.if_icmp .ge 23, 3) := by decide +kernel
theorem dX1_occupy_9 : decode cX1_occupy 9 = .ok (.iload_n 3, 1) := by decide +kernel
theorem dX1_occupy_10 : decode cX1_occupy 10 = .ok (.sipush 128, 3) := by decide +kernel
theorem dX1_occupy_13 : decode cX1_occupy 13 = .ok (.if_icmp .ge 16, 3) := by decide +kernel
theorem dX1_occupy_16 : decode cX1_occupy 16 = .ok (.aload_n 0, 1) := by decide +kernel
theorem dX1_occupy_17 : decode cX1_occupy 17 = .ok (.getfield 9, 3) := by decide +kernel
theorem dX1_occupy_20 : decode cX1_occupy 20 = .ok (.iload_n 3, 1) := by decide +kernel
theorem dX1_occupy_21 : decode cX1_occupy 21 = .ok (.iconst 1, 1) := by decide +kernel
theorem dX1_occupy_22 : decode cX1_occupy 22 = .ok (.bastore, 1) := by decide +kernel
theorem dX1_occupy_23 : decode cX1_occupy 23 = .ok (.iinc 3 1, 3) := by decide +kernel
theorem dX1_occupy_26 : decode cX1_occupy 26 = .ok (.goto (-24), 3) := by decide +kernel
theorem dX1_occupy_29 : decode cX1_occupy 29 = .ok (.aload_n 0, 1) := by decide +kernel
theorem dX1_occupy_30 : decode cX1_occupy 30 = .ok (.getfield 15, 3) := by decide +kernel
theorem dX1_occupy_33 : decode cX1_occupy 33 = .ok (.iload_n 1, 1) := by decide +kernel
theorem dX1_occupy_34 : decode cX1_occupy 34 = .ok (.iload_n 2, 1) := by decide +kernel
theorem dX1_occupy_35 : decode cX1_occupy 35 = .ok (.iastore, 1) := by decide +kernel
theorem dX1_occupy_36 : decode cX1_occupy 36 = .ok (.aload_n 0, 1) := by decide +kernel
theorem dX1_occupy_37 : decode cX1_occupy 37 = .ok (.getfield 19, 3) := by decide +kernel
theorem dX1_occupy_40 : decode cX1_occupy 40 = .ok (.iload_n 1, 1) := by decide +kernel
theorem dX1_occupy_41 : decode cX1_occupy 41 = .ok (.iconst (-1), 1) := by decide +kernel
theorem dX1_occupy_42 : decode cX1_occupy 42 = .ok (.iastore, 1) := by decide +kernel
theorem dX1_occupy_43 : decode cX1_occupy 43 = .ok (.return_, 1) := by decide +kernel
theorem dX1_release_0 : decode cX1_release 0 = .ok (.iload_n 1, 1) := by decide +kernel
theorem dX1_release_1 : decode cX1_release 1 = .ok (.istore_n 2, 1) := by decide +kernel
theorem dX1_release_2 : decode cX1_release 2 = .ok (.iconst 0, 1) := by decide +kernel
theorem dX1_release_3 : decode cX1_release 3 = .ok (.istore_n 3, 1) := by decide +kernel
theorem dX1_release_4 : decode cX1_release 4 = .ok (.iload_n 3, 1) := by decide +kernel
theorem dX1_release_5 : decode cX1_release 5 = .ok (.bipush 12, 2) := by decide +kernel
theorem dX1_release_7 : decode cX1_release 7 = .ok (.if_icmp .ge 64, 3) := by decide +kernel
theorem dX1_release_10 : decode cX1_release 10 = .ok (.aload_n 0, 1) := by decide +kernel
theorem dX1_release_11 : decode cX1_release 11 = .ok (.iload_n 2, 1) := by decide +kernel
theorem dX1_release_12 : decode cX1_release 12 = .ok (.invokevirtual 47, 3) := by decide +kernel
theorem dX1_release_15 : decode cX1_release 15 = .ok (.ifCond .eq 56, 3) := by decide +kernel
theorem dX1_release_18 : decode cX1_release 18 = .ok (.sipush 128, 3) := by decide +kernel
theorem dX1_release_21 : decode cX1_release 21 = .ok (.iload_n 2, 1) := by decide +kernel
theorem dX1_release_22 : decode cX1_release 22 = .ok (.aload_n 0, 1) := by decide +kernel
theorem dX1_release_23 : decode cX1_release 23 = .ok (.getfield 15, 3) := by decide +kernel
theorem dX1_release_26 : decode cX1_release 26 = .ok (.iload_n 2, 1) := by decide +kernel
theorem dX1_release_27 : decode cX1_release 27 = .ok (.iaload, 1) := by decide +kernel
theorem dX1_release_28 : decode cX1_release 28 = .ok (.iadd, 1) := by decide +kernel
theorem dX1_release_29 : decode cX1_release 29 = .ok (.invokestatic 73, 3) := by decide +kernel
theorem dX1_release_32 : decode cX1_release 32 = .ok (.istore 4, 2) := by decide +kernel
theorem dX1_release_34 : decode cX1_release 34 = .ok (.iload_n 2, 1) := by decide +kernel
theorem dX1_release_35 : decode cX1_release 35 = .ok (.istore 5, 2) := by decide +kernel
theorem dX1_release_37 : decode cX1_release 37 = .ok (.iload 5, 2) := by decide +kernel
theorem dX1_release_39 : decode cX1_release 39 = .ok (.iload 4, 2) := by decide +kernel
theorem dX1_release_41 : decode cX1_release 41 = .ok (.if_icmp .ge 17, 3) := by decide +kernel
theorem dX1_release_44 : decode cX1_release 44 = .ok (.aload_n 0, 1) := by decide +kernel
theorem dX1_release_45 : decode cX1_release 45 = .ok (.getfield 9, 3) := by decide +kernel
theorem dX1_release_48 : decode cX1_release 48 = .ok (.iload 5, 2) := by decide +kernel
theorem dX1_release_50 : decode cX1_release 50 = .ok (.iconst 0, 1) := by decide +kernel
theorem dX1_release_51 : decode cX1_release 51 = .ok (.bastore, 1) := by decide +kernel
theorem dX1_release_52 : decode cX1_release 52 = .ok (.iinc 5 1, 3) := by decide +kernel
theorem dX1_release_55 : decode cX1_release 55 = .ok (.goto (-18), 3) := by decide +kernel
theorem dX1_release_58 : decode cX1_release 58 = .ok (.aload_n 0, 1) := by decide +kernel
theorem dX1_release_59 : decode cX1_release 59 = .ok (.getfield 19, 3) := by decide +kernel
theorem dX1_release_62 : decode cX1_release 62 = .ok (.iload_n 2, 1) := by decide +kernel
theorem dX1_release_63 : decode cX1_release 63 = .ok (.iaload, 1) := by decide +kernel
theorem dX1_release_64 : decode cX1_release 64 = .ok (.istore_n 2, 1) := by decide +kernel
theorem dX1_release_65 : decode cX1_release 65 = .ok (.iinc 3 1, 3) := by decide +kernel
theorem dX1_release_68 : decode cX1_release 68 = .ok (.goto (-64), 3) := by decide +kernel
theorem dX1_release_71 : decode cX1_release 71 = .ok (.aload_n 0, 1) := by decide +kernel
theorem dX1_release_72 : decode cX1_release 72 = .ok (.iload_n 1, 1) := by decide +kernel
theorem dX1_release_73 : decode cX1_release 73 = .ok (.invokevirtual 47, 3) := by decide +kernel
theorem dX1_release_76 : decode cX1_release 76 = .ok (.ifCond .eq 10, 3) := by decide +kernel
theorem dX1_release_79 : decode cX1_release 79 = .ok (.aload_n 0, 1) := by decide +kernel
theorem dX1_release_80 : decode cX1_release 80 = .ok (.getfield 22, 3) := by decide +kernel
theorem dX1_release_83 : decode cX1_release 83 = .ok (.iload_n 1, 1) := by decide +kernel
theorem dX1_release_84 : decode cX1_release 84 = .ok (.iconst (-1), 1) := by decide +kernel
theorem dX1_release_85 : decode cX1_release 85 = .ok (.iastore, 1) := by decide +kernel
theorem dX1_release_86 : decode cX1_release 86 = .ok (.return_, 1) := by decide +kernel
theorem dX1_joinQueue_0 : decode cX1_joinQueue 0 = .ok (.aload_n 0, 1) := by decide +kernel
theorem dX1_joinQueue_1 : decode cX1_joinQueue 1 = .ok (.iload_n 2, 1) := by decide +kernel
theorem dX1_joinQueue_2 : decode cX1_joinQueue 2 = .ok (.invokevirtual 47, 3) := by decide +kernel
theorem dX1_joinQueue_5 : decode cX1_joinQueue 5 = .ok (.ifCond .ne 4, 3) := by decide +kernel
theorem dX1_joinQueue_8 : decode cX1_joinQueue 8 = .ok (.return_, 1) := by decide +kernel
theorem dX1_joinQueue_9 : decode cX1_joinQueue 9 = .ok (.aload_n 0, 1) := by decide +kernel
theorem dX1_joinQueue_10 : decode cX1_joinQueue 10 = .ok (.getfield 31, 3) := by decide +kernel
theorem dX1_joinQueue_13 : decode cX1_joinQueue 13 = .ok (.iload_n 2, 1) := by decide +kernel
theorem dX1_joinQueue_14 : decode cX1_joinQueue 14 = .ok (.aload_n 1, 1) := by decide +kernel
theorem dX1_joinQueue_15 : decode cX1_joinQueue 15 = .ok (.getfield 84, 3) := by decide +kernel
theorem dX1_joinQueue_18 : decode cX1_joinQueue 18 = .ok (.iastore, 1) := by decide +kernel
theorem dX1_joinQueue_19 : decode cX1_joinQueue 19 = .ok (.aload_n 0, 1) := by decide +kernel
theorem dX1_joinQueue_20 : decode cX1_joinQueue 20 = .ok (.getfield 34, 3) := by decide +kernel
theorem dX1_joinQueue_23 : decode cX1_joinQueue 23 = .ok (.iload_n 2, 1) := by decide +kernel
theorem dX1_joinQueue_24 : decode cX1_joinQueue 24 = .ok (.iconst (-1), 1) := by decide +kernel
theorem dX1_joinQueue_25 : decode cX1_joinQueue 25 = .ok (.iastore, 1) := by decide +kernel
theorem dX1_joinQueue_26 : decode cX1_joinQueue 26 = .ok (.aload_n 0, 1) := by decide +kernel
theorem dX1_joinQueue_27 : decode cX1_joinQueue 27 = .ok (.aload_n 1, 1) := by decide +kernel
theorem dX1_joinQueue_28 : decode cX1_joinQueue 28 = .ok (.getfield 84, 3) := by decide +kernel
theorem dX1_joinQueue_31 : decode cX1_joinQueue 31 = .ok (.invokevirtual 47, 3) := by decide +kernel
theorem dX1_joinQueue_34 : decode cX1_joinQueue 34 = .ok (.ifCond .eq 16, 3) := by decide +kernel
theorem dX1_joinQueue_37 : decode cX1_joinQueue 37 = .ok (.aload_n 0, 1) := by decide +kernel
theorem dX1_joinQueue_38 : decode cX1_joinQueue 38 = .ok (.getfield 34, 3) := by decide +kernel
theorem dX1_joinQueue_41 : decode cX1_joinQueue 41 = .ok (.aload_n 1, 1) := by decide +kernel
theorem dX1_joinQueue_42 : decode cX1_joinQueue 42 = .ok (.getfield 84, 3) := by decide +kernel
theorem dX1_joinQueue_45 : decode cX1_joinQueue 45 = .ok (.iload_n 2, 1) := by decide +kernel
theorem dX1_joinQueue_46 : decode cX1_joinQueue 46 = .ok (.iastore, 1) := by decide +kernel
theorem dX1_joinQueue_47 : decode cX1_joinQueue 47 = .ok (.goto 8, 3) := by decide +kernel
theorem dX1_joinQueue_50 : decode cX1_joinQueue 50 = .ok (.aload_n 1, 1) := by decide +kernel
theorem dX1_joinQueue_51 : decode cX1_joinQueue 51 = .ok (.iload_n 2, 1) := by decide +kernel
theorem dX1_joinQueue_52 : decode cX1_joinQueue 52 = .ok (.putfield 89, 3) := by decide +kernel
theorem dX1_joinQueue_55 : decode cX1_joinQueue 55 = .ok (.aload_n 1, 1) := by decide +kernel
theorem dX1_joinQueue_56 : decode cX1_joinQueue 56 = .ok (.iload_n 2, 1) := by decide +kernel
theorem dX1_joinQueue_57 : decode cX1_joinQueue 57 = .ok (.putfield 84, 3) := by decide +kernel
theorem dX1_joinQueue_60 : decode cX1_joinQueue 60 = .ok (.aload_n 1, 1) := by decide +kernel
theorem dX1_joinQueue_61 : decode cX1_joinQueue 61 = .ok (.dup, 1) := by decide +kernel
theorem dX1_joinQueue_62 : decode cX1_joinQueue 62 = .ok (.getfield 92, 3) := by decide +kernel
theorem dX1_joinQueue_65 : decode cX1_joinQueue 65 = .ok (.iconst 1, 1) := by decide +kernel
theorem dX1_joinQueue_66 : decode cX1_joinQueue 66 = .ok (.iadd, 1) := by decide +kernel
theorem dX1_joinQueue_67 : decode cX1_joinQueue 67 = .ok (.putfield 92, 3) := by decide +kernel
theorem dX1_joinQueue_70 : decode cX1_joinQueue 70 = .ok (.return_, 1) := by decide +kernel
theorem dX1_leaveQueue_0 : decode cX1_leaveQueue 0 = .ok (.aload_n 0, 1) := by decide +kernel
theorem dX1_leaveQueue_1 : decode cX1_leaveQueue 1 = .ok (.iload_n 2, 1) := by decide +kernel
theorem dX1_leaveQueue_2 : decode cX1_leaveQueue 2 = .ok (.invokevirtual 47, 3) := by decide +kernel
theorem dX1_leaveQueue_5 : decode cX1_leaveQueue 5 = .ok (.ifCond .ne 4, 3) := by decide +kernel
theorem dX1_leaveQueue_8 : decode cX1_leaveQueue 8 = .ok (.return_, 1) := by decide +kernel
theorem dX1_leaveQueue_9 : decode cX1_leaveQueue 9 = .ok (.aload_n 0, 1) := by decide +kernel
theorem dX1_leaveQueue_10 : decode cX1_leaveQueue 10 = .ok (.getfield 31, 3) := by decide +kernel
theorem dX1_leaveQueue_13 : decode cX1_leaveQueue 13 = .ok (.iload_n 2, 1) := by decide +kernel
theorem dX1_leaveQueue_14 : decode cX1_leaveQueue 14 = .ok (.iaload, 1) := by decide +kernel
theorem dX1_leaveQueue_15 : decode cX1_leaveQueue 15 = .ok (.istore_n 3, 1) := by decide +kernel
theorem dX1_leaveQueue_16 : decode cX1_leaveQueue 16 = .ok (.aload_n 0, 1) := by decide +kernel
theorem dX1_leaveQueue_17 : decode cX1_leaveQueue 17 = .ok (.getfield 34, 3) := by decide +kernel
theorem dX1_leaveQueue_20 : decode cX1_leaveQueue 20 = .ok (.iload_n 2, 1) := by decide +kernel
theorem dX1_leaveQueue_21 : decode cX1_leaveQueue 21 = .ok (.iaload, 1) := by decide +kernel
theorem dX1_leaveQueue_22 : decode cX1_leaveQueue 22 = .ok (.istore 4, 2) := by decide +kernel
theorem dX1_leaveQueue_24 : decode cX1_leaveQueue 24 = .ok (.aload_n 0, 1) := by decide +kernel
theorem dX1_leaveQueue_25 : decode cX1_leaveQueue 25 = .ok (.iload_n 3, 1) := by decide +kernel
theorem dX1_leaveQueue_26 : decode cX1_leaveQueue 26 = .ok (.invokevirtual 47, 3) := by decide +kernel
theorem dX1_leaveQueue_29 : decode cX1_leaveQueue 29 = .ok (.ifCond .eq 14, 3) := by decide +kernel
theorem dX1_leaveQueue_32 : decode cX1_leaveQueue 32 = .ok (.aload_n 0, 1) := by decide +kernel
theorem dX1_leaveQueue_33 : decode cX1_leaveQueue 33 = .ok (.getfield 34, 3) := by decide +kernel
theorem dX1_leaveQueue_36 : decode cX1_leaveQueue 36 = .ok (.iload_n 3, 1) := by decide +kernel
theorem dX1_leaveQueue_37 : decode cX1_leaveQueue 37 = .ok (.iload 4, 2) := by decide +kernel
theorem dX1_leaveQueue_39 : decode cX1_leaveQueue 39 = .ok (.iastore, 1) := by decide +kernel
theorem dX1_leaveQueue_40 : decode cX1_leaveQueue 40 = .ok (.goto 9, 3) := by decide +kernel
theorem dX1_leaveQueue_43 : decode cX1_leaveQueue 43 = .ok (.aload_n 1, 1) := by decide +kernel
theorem dX1_leaveQueue_44 : decode cX1_leaveQueue 44 = .ok (.iload 4, 2) := by decide +kernel
theorem dX1_leaveQueue_46 : decode cX1_leaveQueue 46 = .ok (.putfield 89, 3) := by decide +kernel
theorem dX1_leaveQueue_49 : decode cX1_leaveQueue 49 = .ok (.aload_n 0, 1) := by decide +kernel
theorem dX1_leaveQueue_50 : decode cX1_leaveQueue 50 = .ok (.iload 4, 2) := by decide +kernel
theorem dX1_leaveQueue_52 : decode cX1_leaveQueue 52 = .ok (.invokevirtual 47, 3) := by decide +kernel
theorem dX1_leaveQueue_55 : decode cX1_leaveQueue 55 = .ok (.ifCond .eq 14, 3) := by decide +kernel
theorem dX1_leaveQueue_58 : decode cX1_leaveQueue 58 = .ok (.aload_n 0, 1) := by decide +kernel
theorem dX1_leaveQueue_59 : decode cX1_leaveQueue 59 = .ok (.getfield 31, 3) := by decide +kernel
theorem dX1_leaveQueue_62 : decode cX1_leaveQueue 62 = .ok (.iload 4, 2) := by decide +kernel
theorem dX1_leaveQueue_64 : decode cX1_leaveQueue 64 = .ok (.iload_n 3, 1) := by decide +kernel
theorem dX1_leaveQueue_65 : decode cX1_leaveQueue 65 = .ok (.iastore, 1) := by decide +kernel
theorem dX1_leaveQueue_66 : decode cX1_leaveQueue 66 = .ok (.goto 8, 3) := by decide +kernel
theorem dX1_leaveQueue_69 : decode cX1_leaveQueue 69 = .ok (.aload_n 1, 1) := by decide +kernel
theorem dX1_leaveQueue_70 : decode cX1_leaveQueue 70 = .ok (.iload_n 3, 1) := by decide +kernel
theorem dX1_leaveQueue_71 : decode cX1_leaveQueue 71 = .ok (.putfield 84, 3) := by decide +kernel
theorem dX1_leaveQueue_74 : decode cX1_leaveQueue 74 = .ok (.aload_n 1, 1) := by decide +kernel
theorem dX1_leaveQueue_75 : decode cX1_leaveQueue 75 = .ok (.dup, 1) := by decide +kernel
theorem dX1_leaveQueue_76 : decode cX1_leaveQueue 76 = .ok (.getfield 92, 3) := by decide +kernel
theorem dX1_leaveQueue_79 : decode cX1_leaveQueue 79 = .ok (.iconst 1, 1) := by decide +kernel
theorem dX1_leaveQueue_80 : decode cX1_leaveQueue 80 = .ok (.isub, 1) := by decide +kernel
theorem dX1_leaveQueue_81 : decode cX1_leaveQueue 81 = .ok (.putfield 92, 3) := by decide +kernel
theorem dX1_leaveQueue_84 : decode cX1_leaveQueue 84 = .ok (.return_, 1) := by decide +kernel
theorem dX2_init_0 : decode cX2_init 0 = .ok (.aload_n 0, 1) := by decide +kernel
theorem dX2_init_1 : decode cX2_init 1 = .ok (.invokespecial 3, 3) := by decide +kernel
theorem dX2_init_4 : decode cX2_init 4 = .ok (.aload_n 0, 1) := by decide +kernel
theorem dX2_init_5 : decode cX2_init 5 = .ok (.iconst 3, 1) := by decide +kernel
theorem dX2_init_6 : decode cX2_init 6 = .ok (.anewarray 9, 3) := by decide +kernel
theorem dX2_init_9 : decode cX2_init 9 = .ok (.putfield 11, 3) := by decide +kernel
theorem dX2_init_12 : decode cX2_init 12 = .ok (.iconst 0, 1) := by decide +kernel
theorem dX2_init_13 : decode cX2_init 13 = .ok (.istore_n 1, 1) := by decide +kernel
theorem dX2_init_14 : decode cX2_init 14 = .ok (.iload_n 1, 1) := by decide +kernel
theorem dX2_init_15 : decode cX2_init 15 = .ok (.iconst 3, 1) := by decide +kernel
theorem dX2_init_16 : decode cX2_init 16 = .ok (.if_icmp .ge 23, 3) := by decide +kernel
theorem dX2_init_19 : decode cX2_init 19 = .ok (.aload_n 0, 1) := by decide +kernel
theorem dX2_init_20 : decode cX2_init 20 = .ok (.getfield 11, 3) := by decide +kernel
theorem dX2_init_23 : decode cX2_init 23 = .ok (.iload_n 1, 1) := by decide +kernel
theorem dX2_init_24 : decode cX2_init 24 = .ok (.new 9, 3) := by decide +kernel
theorem dX2_init_27 : decode cX2_init 27 = .ok (.dup, 1) := by decide +kernel
theorem dX2_init_28 : decode cX2_init 28 = .ok (.iload_n 1, 1) := by decide +kernel
theorem dX2_init_29 : decode cX2_init 29 = .ok (.invokespecial 17, 3) := by decide +kernel
theorem dX2_init_32 : decode cX2_init 32 = .ok (.aastore, 1) := by decide +kernel
theorem dX2_init_33 : decode cX2_init 33 = .ok (.iinc 1 1, 3) := by decide +kernel
theorem dX2_init_36 : decode cX2_init 36 = .ok (.goto (-22), 3) := by decide +kernel
theorem dX2_init_39 : decode cX2_init 39 = .ok (.aload_n 0, 1) := by decide +kernel
theorem dX2_init_40 : decode cX2_init 40 = .ok (.bipush 10, 2) := by decide +kernel
theorem dX2_init_42 : decode cX2_init 42 = .ok (.newarray .int, 2) := by decide +kernel
theorem dX2_init_44 : decode cX2_init 44 = .ok (.putfield 20, 3) := by decide +kernel
theorem dX2_init_47 : decode cX2_init 47 = .ok (.return_, 1) := by decide +kernel
theorem dX2_startAnew_0 : decode cX2_startAnew 0 = .ok (.aload_n 0, 1) := by decide +kernel
theorem dX2_startAnew_1 : decode cX2_startAnew 1 = .ok (.getfield 11, 3) := by decide +kernel
theorem dX2_startAnew_4 : decode cX2_startAnew 4 = .ok (.astore_n 1, 1) := by decide +kernel
theorem dX2_startAnew_5 : decode cX2_startAnew 5 = .ok (.aload_n 1, 1) := by decide +kernel
theorem dX2_startAnew_6 : decode cX2_startAnew 6 = .ok (.arraylength, 1) := by decide +kernel
theorem dX2_startAnew_7 : decode cX2_startAnew 7 = .ok (.istore_n 2, 1) := by decide +kernel
theorem dX2_startAnew_8 : decode cX2_startAnew 8 = .ok (.iconst 0, 1) := by decide +kernel
theorem dX2_startAnew_9 : decode cX2_startAnew 9 = .ok (.istore_n 3, 1) := by decide +kernel
theorem dX2_startAnew_10 : decode cX2_startAnew 10 = .ok (.iload_n 3, 1) := by decide +kernel
theorem dX2_startAnew_11 : decode cX2_startAnew 11 = .ok (.iload_n 2, 1) := by decide +kernel
theorem dX2_startAnew_12 : decode cX2_startAnew 12 = .ok (.if_icmp .ge 19, 3) := by decide +kernel
theorem dX2_startAnew_15 : decode cX2_startAnew 15 = .ok (.aload_n 1, 1) := by decide +kernel
theorem dX2_startAnew_16 : decode cX2_startAnew 16 = .ok (.iload_n 3, 1) := by decide +kernel
theorem dX2_startAnew_17 : decode cX2_startAnew 17 = .ok (.aaload, 1) := by decide +kernel
theorem dX2_startAnew_18 : decode cX2_startAnew 18 = .ok (.astore 4, 2) := by decide +kernel
theorem dX2_startAnew_20 : decode cX2_startAnew 20 = .ok (.aload 4, 2) := by decide +kernel
theorem dX2_startAnew_22 : decode cX2_startAnew 22 = .ok (.invokevirtual 24, 3) := by decide +kernel
theorem dX2_startAnew_25 : decode cX2_startAnew 25 = .ok (.iinc 3 1, 3) := by decide +kernel
theorem dX2_startAnew_28 : decode cX2_startAnew 28 = .ok (.goto (-18), 3) := by decide +kernel
theorem dX2_startAnew_31 : decode cX2_startAnew 31 = .ok (.iconst 0, 1) := by decide +kernel
theorem dX2_startAnew_32 : decode cX2_startAnew 32 = .ok (.istore_n 1, 1) := by decide +kernel
theorem dX2_startAnew_33 : decode cX2_startAnew 33 = .ok (.iload_n 1, 1) := by decide +kernel
theorem dX2_startAnew_34 : decode cX2_startAnew 34 = .ok (.aload_n 0, 1) := by decide +kernel
theorem dX2_startAnew_35 : decode cX2_startAnew 35 = .ok (.getfield 20, 3) := by decide +kernel
theorem dX2_startAnew_38 : decode cX2_startAnew 38 = .ok (.arraylength, 1) := by decide +kernel
theorem dX2_startAnew_39 : decode cX2_startAnew 39 = .ok (.if_icmp .ge 16, 3) := by decide +kernel
theorem dX2_startAnew_42 : decode cX2_startAnew 42 = .ok (.aload_n 0, 1) := by decide +kernel
theorem dX2_startAnew_43 : decode cX2_startAnew 43 = .ok (.getfield 20, 3) := by decide +kernel
theorem dX2_startAnew_46 : decode cX2_startAnew 46 = .ok (.iload_n 1, 1) := by decide +kernel
theorem dX2_startAnew_47 : decode cX2_startAnew 47 = .ok (.iconst 0, 1) := by decide +kernel
theorem dX2_startAnew_48 : decode cX2_startAnew 48 = .ok (.iastore, 1) := by decide +kernel
theorem dX2_startAnew_49 : decode cX2_startAnew 49 = .ok (.iinc 1 1, 3) := by decide +kernel
theorem dX2_startAnew_52 : decode cX2_startAnew 52 = .ok (.goto (-19), 3) := by decide +kernel
theorem dX2_startAnew_55 : decode cX2_startAnew 55 = .ok (.aload_n 0, 1) := by decide +kernel
theorem dX2_startAnew_56 : decode cX2_startAnew 56 = .ok (.iconst 0, 1) := by decide +kernel
theorem dX2_startAnew_57 : decode cX2_startAnew 57 = .ok (.putfield 27, 3) := by decide +kernel
theorem dX2_startAnew_60 : decode cX2_startAnew 60 = .ok (.aload_n 0, 1) := by decide +kernel
theorem dX2_startAnew_61 : decode cX2_startAnew 61 = .ok (.iconst 0, 1) := by decide +kernel
theorem dX2_startAnew_62 : decode cX2_startAnew 62 = .ok (.putfield 31, 3) := by decide +kernel
theorem dX2_startAnew_65 : decode cX2_startAnew 65 = .ok (.aload_n 0, 1) := by decide +kernel
theorem dX2_startAnew_66 : decode cX2_startAnew 66 = .ok (.iconst 0, 1) := by decide +kernel
theorem dX2_startAnew_67 : decode cX2_startAnew 67 = .ok (.putfield 34, 3) := by decide +kernel
theorem dX2_startAnew_70 : decode cX2_startAnew 70 = .ok (.aload_n 0, 1) := by decide +kernel
theorem dX2_startAnew_71 : decode cX2_startAnew 71 = .ok (.iconst 0, 1) := by decide +kernel
theorem dX2_startAnew_72 : decode cX2_startAnew 72 = .ok (.putfield 37, 3) := by decide +kernel
theorem dX2_startAnew_75 : decode cX2_startAnew 75 = .ok (.aload_n 0, 1) := by decide +kernel
theorem dX2_startAnew_76 : decode cX2_startAnew 76 = .ok (.iconst 4, 1) := by decide +kernel
theorem dX2_startAnew_77 : decode cX2_startAnew 77 = .ok (.putfield 41, 3) := by decide +kernel
theorem dX2_startAnew_80 : decode cX2_startAnew 80 = .ok (.aload_n 0, 1) := by decide +kernel
theorem dX2_startAnew_81 : decode cX2_startAnew 81 = .ok (.invokevirtual 44, 3) := by decide +kernel
theorem dX2_startAnew_84 : decode cX2_startAnew 84 = .ok (.aload_n 0, 1) := by decide +kernel
theorem dX2_startAnew_85 : decode cX2_startAnew 85 = .ok (.iconst 0, 1) := by decide +kernel
theorem dX2_startAnew_86 : decode cX2_startAnew 86 = .ok (.putfield 47, 3) := by decide +kernel
theorem dX2_startAnew_89 : decode cX2_startAnew 89 = .ok (.aload_n 0, 1) := by decide +kernel
theorem dX2_startAnew_90 : decode cX2_startAnew 90 = .ok (.iconst 0, 1) := by decide +kernel
theorem dX2_startAnew_91 : decode cX2_startAnew 91 = .ok (.putfield 50, 3) := by decide +kernel
theorem dX2_startAnew_94 : decode cX2_startAnew 94 = .ok (.return_, 1) := by decide +kernel
theorem dX2_copyFrom_0 : decode cX2_copyFrom 0 = .ok (.iconst 0, 1) := by decide +kernel
theorem dX2_copyFrom_1 : decode cX2_copyFrom 1 = .ok (.istore_n 2, 1) := by decide +kernel
theorem dX2_copyFrom_2 : decode cX2_copyFrom 2 = .ok (.iload_n 2, 1) := by decide +kernel
theorem dX2_copyFrom_3 : decode cX2_copyFrom 3 = .ok (.iconst 3, 1) := by decide +kernel
theorem dX2_copyFrom_4 : decode cX2_copyFrom 4 = .ok (.if_icmp .ge 24, 3) := by decide +kernel
theorem dX2_copyFrom_7 : decode cX2_copyFrom 7 = .ok (.aload_n 0, 1) := by decide +kernel
theorem dX2_copyFrom_8 : decode cX2_copyFrom 8 = .ok (.getfield 11, 3) := by decide +kernel
theorem dX2_copyFrom_11 : decode cX2_copyFrom 11 = .ok (.iload_n 2, 1) := by decide +kernel
theorem dX2_copyFrom_12 : decode cX2_copyFrom 12 = .ok (.aaload, 1) := by decide +kernel
theorem dX2_copyFrom_13 : decode cX2_copyFrom 13 = .ok (.aload_n 1, 1) := by decide +kernel
theorem dX2_copyFrom_14 : decode cX2_copyFrom 14 = .ok (.getfield 11, 3) := by decide +kernel
theorem dX2_copyFrom_17 : decode cX2_copyFrom 17 = .ok (.iload_n 2, 1) := by decide +kernel
theorem dX2_copyFrom_18 : decode cX2_copyFrom 18 = .ok (.aaload, 1) := by decide +kernel
theorem dX2_copyFrom_19 : decode cX2_copyFrom 19 = .ok (.invokevirtual 53, 3) := by decide +kernel
theorem dX2_copyFrom_22 : decode cX2_copyFrom 22 = .ok (.iinc 2 1, 3) := by decide +kernel
theorem dX2_copyFrom_25 : decode cX2_copyFrom 25 = .ok (.goto (-23), 3) := by decide +kernel
theorem dX2_copyFrom_28 : decode cX2_copyFrom 28 = .ok (.aload_n 1, 1) := by decide +kernel
theorem dX2_copyFrom_29 : decode cX2_copyFrom 29 = .ok (.getfield 20, 3) := by decide +kernel
theorem dX2_copyFrom_32 : decode cX2_copyFrom 32 = .ok (.iconst 0, 1) := by decide +kernel
theorem dX2_copyFrom_33 : decode cX2_copyFrom 33 = .ok (.aload_n 0, 1) := by decide +kernel
theorem dX2_copyFrom_34 : decode cX2_copyFrom 34 = .ok (.getfield 20, 3) := by decide +kernel
theorem dX2_copyFrom_37 : decode cX2_copyFrom 37 = .ok (.iconst 0, 1) := by decide +kernel
theorem dX2_copyFrom_38 : decode cX2_copyFrom 38 = .ok (.bipush 10, 2) := by decide +kernel
theorem dX2_copyFrom_40 : decode cX2_copyFrom 40 = .ok (.invokestatic 57, 3) := by decide +kernel
theorem dX2_copyFrom_43 : decode cX2_copyFrom 43 = .ok (.aload_n 0, 1) := by decide +kernel
theorem dX2_copyFrom_44 : decode cX2_copyFrom 44 = .ok (.aload_n 1, 1) := by decide +kernel
theorem dX2_copyFrom_45 : decode cX2_copyFrom 45 = .ok (.getfield 27, 3) := by decide +kernel
theorem dX2_copyFrom_48 : decode cX2_copyFrom 48 = .ok (.putfield 27, 3) := by decide +kernel
theorem dX2_copyFrom_51 : decode cX2_copyFrom 51 = .ok (.aload_n 0, 1) := by decide +kernel
theorem dX2_copyFrom_52 : decode cX2_copyFrom 52 = .ok (.aload_n 1, 1) := by decide +kernel
theorem dX2_copyFrom_53 : decode cX2_copyFrom 53 = .ok (.getfield 31, 3) := by decide +kernel
theorem dX2_copyFrom_56 : decode cX2_copyFrom 56 = .ok (.putfield 31, 3) := by decide +kernel
theorem dX2_copyFrom_59 : decode cX2_copyFrom 59 = .ok (.aload_n 0, 1) := by decide +kernel
theorem dX2_copyFrom_60 : decode cX2_copyFrom 60 = .ok (.aload_n 1, 1) := by decide +kernel
theorem dX2_copyFrom_61 : decode cX2_copyFrom 61 = .ok (.getfield 34, 3) := by decide +kernel
theorem dX2_copyFrom_64 : decode cX2_copyFrom 64 = .ok (.putfield 34, 3) := by decide +kernel
theorem dX2_copyFrom_67 : decode cX2_copyFrom 67 = .ok (.aload_n 0, 1) := by decide +kernel
theorem dX2_copyFrom_68 : decode cX2_copyFrom 68 = .ok (.aload_n 1, 1) := by decide +kernel
theorem dX2_copyFrom_69 : decode cX2_copyFrom 69 = .ok (.getfield 37, 3) := by decide +kernel
theorem dX2_copyFrom_72 : decode cX2_copyFrom 72 = .ok (.putfield 37, 3) := by decide +kernel
theorem dX2_copyFrom_75 : decode cX2_copyFrom 75 = .ok (.aload_n 0, 1) := by decide +kernel
theorem dX2_copyFrom_76 : decode cX2_copyFrom 76 = .ok (.aload_n 1, 1) := by decide +kernel
theorem dX2_copyFrom_77 : decode cX2_copyFrom 77 = .ok (.getfield 41, 3) := by decide +kernel
theorem dX2_copyFrom_80 : decode cX2_copyFrom 80 = .ok (.putfield 41, 3) := by decide +kernel
theorem dX2_copyFrom_83 : decode cX2_copyFrom 83 = .ok (.aload_n 0, 1) := by decide +kernel
theorem dX2_copyFrom_84 : decode cX2_copyFrom 84 = .ok (.aload_n 1, 1) := by decide +kernel
theorem dX2_copyFrom_85 : decode cX2_copyFrom 85 = .ok (.getfield 63, 3) := by decide +kernel
theorem dX2_copyFrom_88 : decode cX2_copyFrom 88 = .ok (.putfield 63, 3) := by decide +kernel
theorem dX2_copyFrom_91 : decode cX2_copyFrom 91 = .ok (.aload_n 0, 1) := by decide +kernel
theorem dX2_copyFrom_92 : decode cX2_copyFrom 92 = .ok (.aload_n 1, 1) := by decide +kernel
theorem dX2_copyFrom_93 : decode cX2_copyFrom 93 = .ok (.getfield 66, 3) := by decide +kernel
theorem dX2_copyFrom_96 : decode cX2_copyFrom 96 = .ok (.putfield 66, 3) := by decide +kernel
theorem dX2_copyFrom_99 : decode cX2_copyFrom 99 = .ok (.aload_n 0, 1) := by decide +kernel
theorem dX2_copyFrom_100 : decode cX2_copyFrom 100 = .ok (.aload_n 1, 1) := by decide +kernel
theorem dX2_copyFrom_101 : decode cX2_copyFrom 101 = .ok (.getfield 69, 3) := by decide +kernel
theorem dX2_copyFrom_104 : decode cX2_copyFrom 104 = .ok (.putfield 69, 3) := by decide +kernel
theorem dX2_copyFrom_107 : decode cX2_copyFrom 107 = .ok (.aload_n 0, 1) := by decide +kernel
theorem dX2_copyFrom_108 : decode cX2_copyFrom 108 = .ok (.aload_n 1, 1) := by decide +kernel
theorem dX2_copyFrom_109 : decode cX2_copyFrom 109 = .ok (.getfield 47, 3) := by decide +kernel
theorem dX2_copyFrom_112 : decode cX2_copyFrom 112 = .ok (.putfield 47, 3) := by decide +kernel
theorem dX2_copyFrom_115 : decode cX2_copyFrom 115 = .ok (.aload_n 0, 1) := by decide +kernel
theorem dX2_copyFrom_116 : decode cX2_copyFrom 116 = .ok (.aload_n 1, 1) := by decide +kernel
theorem dX2_copyFrom_117 : decode cX2_copyFrom 117 = .ok (.getfield 50, 3) := by decide +kernel
theorem dX2_copyFrom_120 : decode cX2_copyFrom 120 = .ok (.putfield 50, 3) := by decide +kernel
theorem dX2_copyFrom_123 : decode cX2_copyFrom 123 = .ok (.return_, 1) := by decide +kernel
theorem dX2_guaranteedInUse_0 : decode cX2_guaranteedInUse 0 = .ok (.aload_n 0, 1) := by decide +kernel
theorem dX2_guaranteedInUse_1 : decode cX2_guaranteedInUse 1 = .ok (.getfield 11, 3) := by decide +kernel
theorem dX2_guaranteedInUse_4 : decode cX2_guaranteedInUse 4 = .ok (.iconst 0, 1) := by decide +kernel
theorem dX2_guaranteedInUse_5 : decode cX2_guaranteedInUse 5 = .ok (.aaload, 1) := by decide +kernel
theorem dX2_guaranteedInUse_6 : decode cX2_guaranteedInUse 6 = .ok (.getfield 72, 3) := by decide +kernel
theorem dX2_guaranteedInUse_9 : decode cX2_guaranteedInUse 9 = .ok (.aload_n 0, 1) := by decide +kernel
theorem dX2_guaranteedInUse_10 : decode cX2_guaranteedInUse 10 = .ok (.getfield 11, 3) := by decide +kernel
theorem dX2_guaranteedInUse_13 : decode cX2_guaranteedInUse 13 = .ok (.iconst 1, 1) := by decide +kernel
theorem dX2_guaranteedInUse_14 : decode cX2_guaranteedInUse 14 = .ok (.aaload, 1) := by decide +kernel
theorem dX2_guaranteedInUse_15 : decode cX2_guaranteedInUse 15 = .ok (.getfield 72, 3) := by decide +kernel
theorem dX2_guaranteedInUse_18 : decode cX2_guaranteedInUse 18 = .ok (.iadd, 1) := by decide +kernel
theorem dX2_guaranteedInUse_19 : decode cX2_guaranteedInUse 19 = .ok (.aload_n 0, 1) := by decide +kernel
theorem dX2_guaranteedInUse_20 : decode cX2_guaranteedInUse 20 = .ok (.getfield 11, 3) := by decide +kernel
theorem dX2_guaranteedInUse_23 : decode cX2_guaranteedInUse 23 = .ok (.iconst 2, 1) := by decide +kernel
theorem dX2_guaranteedInUse_24 : decode cX2_guaranteedInUse 24 = .ok (.aaload, 1) := by decide +kernel
theorem dX2_guaranteedInUse_25 : decode cX2_guaranteedInUse 25 = .ok (.getfield 72, 3) := by decide +kernel
theorem dX2_guaranteedInUse_28 : decode cX2_guaranteedInUse 28 = .ok (.iadd, 1) := by decide +kernel
theorem dX2_guaranteedInUse_29 : decode cX2_guaranteedInUse 29 = .ok (.ireturn, 1) := by decide +kernel
theorem dX2_sharedInUse_0 : decode cX2_sharedInUse 0 = .ok (.aload_n 0, 1) := by decide +kernel
theorem dX2_sharedInUse_1 : decode cX2_sharedInUse 1 = .ok (.getfield 11, 3) := by decide +kernel
theorem dX2_sharedInUse_4 : decode cX2_sharedInUse 4 = .ok (.iconst 0, 1) := by decide +kernel
theorem dX2_sharedInUse_5 : decode cX2_sharedInUse 5 = .ok (.aaload, 1) := by decide +kernel
theorem dX2_sharedInUse_6 : decode cX2_sharedInUse 6 = .ok (.getfield 75, 3) := by decide +kernel
theorem dX2_sharedInUse_9 : decode cX2_sharedInUse 9 = .ok (.aload_n 0, 1) := by decide +kernel
theorem dX2_sharedInUse_10 : decode cX2_sharedInUse 10 = .ok (.getfield 11, 3) := by decide +kernel
theorem dX2_sharedInUse_13 : decode cX2_sharedInUse 13 = .ok (.iconst 1, 1) := by decide +kernel
theorem dX2_sharedInUse_14 : decode cX2_sharedInUse 14 = .ok (.aaload, 1) := by decide +kernel
theorem dX2_sharedInUse_15 : decode cX2_sharedInUse 15 = .ok (.getfield 75, 3) := by decide +kernel
theorem dX2_sharedInUse_18 : decode cX2_sharedInUse 18 = .ok (.iadd, 1) := by decide +kernel
theorem dX2_sharedInUse_19 : decode cX2_sharedInUse 19 = .ok (.aload_n 0, 1) := by decide +kernel
theorem dX2_sharedInUse_20 : decode cX2_sharedInUse 20 = .ok (.getfield 11, 3) := by decide +kernel
theorem dX2_sharedInUse_23 : decode cX2_sharedInUse 23 = .ok (.iconst 2, 1) := by decide +kernel
theorem dX2_sharedInUse_24 : decode cX2_sharedInUse 24 = .ok (.aaload, 1) := by decide +kernel
theorem dX2_sharedInUse_25 : decode cX2_sharedInUse 25 = .ok (.getfield 75, 3) := by decide +kernel
theorem dX2_sharedInUse_28 : decode cX2_sharedInUse 28 = .ok (.iadd, 1) := by decide +kernel
theorem dX2_sharedInUse_29 : decode cX2_sharedInUse 29 = .ok (.ireturn, 1) := by decide +kernel
theorem dX2_headroomInUse_0 : decode cX2_headroomInUse 0 = .ok (.aload_n 0, 1) := by decide +kernel
theorem dX2_headroomInUse_1 : decode cX2_headroomInUse 1 = .ok (.getfield 11, 3) := by decide +kernel
theorem dX2_headroomInUse_4 : decode cX2_headroomInUse 4 = .ok (.iconst 0, 1) := by decide +kernel
theorem dX2_headroomInUse_5 : decode cX2_headroomInUse 5 = .ok (.aaload, 1) := by decide +kernel
theorem dX2_headroomInUse_6 : decode cX2_headroomInUse 6 = .ok (.getfield 78, 3) := by decide +kernel
theorem dX2_headroomInUse_9 : decode cX2_headroomInUse 9 = .ok (.aload_n 0, 1) := by decide +kernel
theorem dX2_headroomInUse_10 : decode cX2_headroomInUse 10 = .ok (.getfield 11, 3) := by decide +kernel
theorem dX2_headroomInUse_13 : decode cX2_headroomInUse 13 = .ok (.iconst 1, 1) := by decide +kernel
theorem dX2_headroomInUse_14 : decode cX2_headroomInUse 14 = .ok (.aaload, 1) := by decide +kernel
theorem dX2_headroomInUse_15 : decode cX2_headroomInUse 15 = .ok (.getfield 78, 3) := by decide +kernel
theorem dX2_headroomInUse_18 : decode cX2_headroomInUse 18 = .ok (.iadd, 1) := by decide +kernel
theorem dX2_headroomInUse_19 : decode cX2_headroomInUse 19 = .ok (.aload_n 0, 1) := by decide +kernel
theorem dX2_headroomInUse_20 : decode cX2_headroomInUse 20 = .ok (.getfield 11, 3) := by decide +kernel
theorem dX2_headroomInUse_23 : decode cX2_headroomInUse 23 = .ok (.iconst 2, 1) := by decide +kernel
theorem dX2_headroomInUse_24 : decode cX2_headroomInUse 24 = .ok (.aaload, 1) := by decide +kernel
theorem dX2_headroomInUse_25 : decode cX2_headroomInUse 25 = .ok (.getfield 78, 3) := by decide +kernel
theorem dX2_headroomInUse_28 : decode cX2_headroomInUse 28 = .ok (.iadd, 1) := by decide +kernel
theorem dX2_headroomInUse_29 : decode cX2_headroomInUse 29 = .ok (.ireturn, 1) := by decide +kernel
theorem dX2_guaranteeLeft_0 : decode cX2_guaranteeLeft 0 = .ok (.aload_n 0, 1) := by decide +kernel
theorem dX2_guaranteeLeft_1 : decode cX2_guaranteeLeft 1 = .ok (.getfield 27, 3) := by decide +kernel
theorem dX2_guaranteeLeft_4 : decode cX2_guaranteeLeft 4 = .ok (.aload_n 0, 1) := by decide +kernel
theorem dX2_guaranteeLeft_5 : decode cX2_guaranteeLeft 5 = .ok (.getfield 34, 3) := by decide +kernel
theorem dX2_guaranteeLeft_8 : decode cX2_guaranteeLeft 8 = .ok (.iadd, 1) := by decide +kernel
theorem dX2_guaranteeLeft_9 : decode cX2_guaranteeLeft 9 = .ok (.aload_n 0, 1) := by decide +kernel
theorem dX2_guaranteeLeft_10 : decode cX2_guaranteeLeft 10 = .ok (.invokevirtual 81, 3) := by decide +kernel
theorem dX2_guaranteeLeft_13 : decode cX2_guaranteeLeft 13 = .ok (.isub, 1) := by decide +kernel
theorem dX2_guaranteeLeft_14 : decode cX2_guaranteeLeft 14 = .ok (.ireturn, 1) := by decide +kernel
theorem dX2_isIdle_0 : decode cX2_isIdle 0 = .ok (.aload_n 0, 1) := by decide +kernel
theorem dX2_isIdle_1 : decode cX2_isIdle 1 = .ok (.getfield 11, 3) := by decide +kernel
theorem dX2_isIdle_4 : decode cX2_isIdle 4 = .ok (.iconst 0, 1) := by decide +kernel
theorem dX2_isIdle_5 : decode cX2_isIdle 5 = .ok (.aaload, 1) := by decide +kernel
theorem dX2_isIdle_6 : decode cX2_isIdle 6 = .ok (.getfield 85, 3) := by decide +kernel
theorem dX2_isIdle_9 : decode cX2_isIdle 9 = .ok (.aload_n 0, 1) := by decide +kernel
theorem dX2_isIdle_10 : decode cX2_isIdle 10 = .ok (.getfield 11, 3) := by decide +kernel
theorem dX2_isIdle_13 : decode cX2_isIdle 13 = .ok (.iconst 1, 1) := by decide +kernel
theorem dX2_isIdle_14 : decode cX2_isIdle 14 = .ok (.aaload, 1) := by decide +kernel
theorem dX2_isIdle_15 : decode cX2_isIdle 15 = .ok (.getfield 85, 3) := by decide +kernel
theorem dX2_isIdle_18 : decode cX2_isIdle 18 = .ok (.iadd, 1) := by decide +kernel
theorem dX2_isIdle_19 : decode cX2_isIdle 19 = .ok (.aload_n 0, 1) := by decide +kernel
theorem dX2_isIdle_20 : decode cX2_isIdle 20 = .ok (.getfield 11, 3) := by decide +kernel
theorem dX2_isIdle_23 : decode cX2_isIdle 23 = .ok (.iconst 2, 1) := by decide +kernel
theorem dX2_isIdle_24 : decode cX2_isIdle 24 = .ok (.aaload, 1) := by decide +kernel
theorem dX2_isIdle_25 : decode cX2_isIdle 25 = .ok (.getfield 85, 3) := by decide +kernel
theorem dX2_isIdle_28 : decode cX2_isIdle 28 = .ok (.iadd, 1) := by decide +kernel
theorem dX2_isIdle_29 : decode cX2_isIdle 29 = .ok (.ifCond .ne 7, 3) := by decide +kernel
theorem dX2_isIdle_32 : decode cX2_isIdle 32 = .ok (.iconst 1, 1) := by decide +kernel
theorem dX2_isIdle_33 : decode cX2_isIdle 33 = .ok (.goto 4, 3) := by decide +kernel
theorem dX2_isIdle_36 : decode cX2_isIdle 36 = .ok (.iconst 0, 1) := by decide +kernel
theorem dX2_isIdle_37 : decode cX2_isIdle 37 = .ok (.ireturn, 1) := by decide +kernel
theorem dX2_highestBusyQueue_0 : decode cX2_highestBusyQueue 0 = .ok (.aload_n 0, 1) := by decide +kernel
theorem dX2_highestBusyQueue_1 : decode cX2_highestBusyQueue 1 = .ok (.getfield 11, 3) := by decide +kernel
theorem dX2_highestBusyQueue_4 : decode cX2_highestBusyQueue 4 = .ok (.astore_n 1, 1) := by decide +kernel
theorem dX2_highestBusyQueue_5 : decode cX2_highestBusyQueue 5 = .ok (.aload_n 1, 1) := by decide +kernel
theorem dX2_highestBusyQueue_6 : decode cX2_highestBusyQueue 6 = .ok (.arraylength, 1) := by decide +kernel
theorem dX2_highestBusyQueue_7 : decode cX2_highestBusyQueue 7 = .ok (.istore_n 2, 1) := by decide +kernel
theorem dX2_highestBusyQueue_8 : decode cX2_highestBusyQueue 8 = .ok (.iconst 0, 1) := by decide +kernel
theorem dX2_highestBusyQueue_9 : decode cX2_highestBusyQueue 9 = .ok (.istore_n 3, 1) := by decide +kernel
theorem dX2_highestBusyQueue_10 : decode cX2_highestBusyQueue 10 = .ok (.iload_n 3, 1) := by decide +kernel
theorem dX2_highestBusyQueue_11 : decode cX2_highestBusyQueue 11 = .ok (.iload_n 2, 1) := by decide +kernel
theorem dX2_highestBusyQueue_12 : decode cX2_highestBusyQueue 12 = .ok (.if_icmp .ge 25, 3) := by decide +kernel
theorem dX2_highestBusyQueue_15 : decode cX2_highestBusyQueue 15 = .ok (.aload_n 1, 1) := by decide +kernel
theorem dX2_highestBusyQueue_16 : decode cX2_highestBusyQueue 16 = .ok (.iload_n 3, 1) := by decide +kernel
theorem dX2_highestBusyQueue_17 : decode cX2_highestBusyQueue 17 = .ok (.aaload, 1) := by decide +kernel
theorem dX2_highestBusyQueue_18 : decode cX2_highestBusyQueue 18 = .ok (.astore 4, 2) := by decide +kernel
theorem dX2_highestBusyQueue_20 : decode cX2_highestBusyQueue 20 = .ok (.aload 4, 2) := by decide +kernel
theorem dX2_highestBusyQueue_22 : decode cX2_highestBusyQueue 22 = .ok (.getfield 85, 3) := by decide +kernel
theorem dX2_highestBusyQueue_25 : decode cX2_highestBusyQueue 25 = .ok (.ifCond .le 6, 3) := by decide +kernel
theorem dX2_highestBusyQueue_28 : decode cX2_highestBusyQueue 28 = .ok (.aload 4, 2) := by decide +kernel
theorem dX2_highestBusyQueue_30 : decode cX2_highestBusyQueue 30 = .ok (.areturn, 1) := by decide +kernel
theorem dX2_highestBusyQueue_31 : decode cX2_highestBusyQueue 31 = .ok (.iinc 3 1, 3) := by decide +kernel
theorem dX2_highestBusyQueue_34 : decode cX2_highestBusyQueue 34 = .ok (.goto (-24), 3) := by decide +kernel
theorem dX2_highestBusyQueue_37 : decode cX2_highestBusyQueue 37 = .ok (.aconst_null, 1) := by decide +kernel
theorem dX2_highestBusyQueue_38 : decode cX2_highestBusyQueue 38 = .ok (.areturn, 1) := by decide +kernel
theorem dX2_queueAtTurn_0 : decode cX2_queueAtTurn 0 = .ok (.aload_n 0, 1) := by decide +kernel
theorem dX2_queueAtTurn_1 : decode cX2_queueAtTurn 1 = .ok (.getfield 66, 3) := by decide +kernel
theorem dX2_queueAtTurn_4 : decode cX2_queueAtTurn 4 = .ok (.ifCond .lt 23, 3) := by decide +kernel
theorem dX2_queueAtTurn_7 : decode cX2_queueAtTurn 7 = .ok (.aload_n 0, 1) := by decide +kernel
theorem dX2_queueAtTurn_8 : decode cX2_queueAtTurn 8 = .ok (.getfield 66, 3) := by decide +kernel
theorem dX2_queueAtTurn_11 : decode cX2_queueAtTurn 11 = .ok (.iconst 3, 1) := by decide +kernel
theorem dX2_queueAtTurn_12 : decode cX2_queueAtTurn 12 = .ok (.if_icmp .ge 15, 3) := by decide +kernel
theorem dX2_queueAtTurn_15 : decode cX2_queueAtTurn 15 = .ok (.aload_n 0, 1) := by decide +kernel
theorem dX2_queueAtTurn_16 : decode cX2_queueAtTurn 16 = .ok (.getfield 11, 3) := by decide +kernel
theorem dX2_queueAtTurn_19 : decode cX2_queueAtTurn 19 = .ok (.aload_n 0, 1) := by decide +kernel
theorem dX2_queueAtTurn_20 : decode cX2_queueAtTurn 20 = .ok (.getfield 66, 3) := by decide +kernel
theorem dX2_queueAtTurn_23 : decode cX2_queueAtTurn 23 = .ok (.aaload, 1) := by decide +kernel
theorem dX2_queueAtTurn_24 : decode cX2_queueAtTurn 24 = .ok (.goto 4, 3) := by decide +kernel
theorem dX2_queueAtTurn_27 : decode cX2_queueAtTurn 27 = .ok (.aconst_null, 1) := by decide +kernel
theorem dX2_queueAtTurn_28 : decode cX2_queueAtTurn 28 = .ok (.areturn, 1) := by decide +kernel
theorem dX2_passTurn_0 : decode cX2_passTurn 0 = .ok (.aload_n 0, 1) := by decide +kernel
theorem dX2_passTurn_1 : decode cX2_passTurn 1 = .ok (.aload_n 0, 1) := by decide +kernel
theorem dX2_passTurn_2 : decode cX2_passTurn 2 = .ok (.getfield 66, 3) := by decide +kernel
theorem dX2_passTurn_5 : decode cX2_passTurn 5 = .ok (.iconst 2, 1) := by decide +kernel
theorem dX2_passTurn_6 : decode cX2_passTurn 6 = .ok (.if_icmp .ge 12, 3) := by decide +kernel
theorem dX2_passTurn_9 : decode cX2_passTurn 9 = .ok (.aload_n 0, 1) := by decide +kernel
theorem dX2_passTurn_10 : decode cX2_passTurn 10 = .ok (.getfield 66, 3) := by decide +kernel
theorem dX2_passTurn_13 : decode cX2_passTurn 13 = .ok (.iconst 1, 1) := by decide +kernel
theorem dX2_passTurn_14 : decode cX2_passTurn 14 = .ok (.iadd, 1) := by decide +kernel
theorem dX2_passTurn_15 : decode cX2_passTurn 15 = .ok (.goto 4, 3) := by decide +kernel
theorem dX2_passTurn_18 : decode cX2_passTurn 18 = .ok (.iconst 0, 1) := by decide +kernel
theorem dX2_passTurn_19 : decode cX2_passTurn 19 = .ok (.putfield 66, 3) := by decide +kernel
theorem dX2_passTurn_22 : decode cX2_passTurn 22 = .ok (.aload_n 0, 1) := by decide +kernel
theorem dX2_passTurn_23 : decode cX2_passTurn 23 = .ok (.iconst 1, 1) := by decide +kernel
theorem dX2_passTurn_24 : decode cX2_passTurn 24 = .ok (.putfield 69, 3) := by decide +kernel
theorem dX2_passTurn_27 : decode cX2_passTurn 27 = .ok (.return_, 1) := by decide +kernel
theorem dX2_restartSending_0 : decode cX2_restartSending 0 = .ok (.aload_n 0, 1) := by decide +kernel
theorem dX2_restartSending_1 : decode cX2_restartSending 1 = .ok (.iconst 0, 1) := by decide +kernel
theorem dX2_restartSending_2 : decode cX2_restartSending 2 = .ok (.putfield 63, 3) := by decide +kernel
theorem dX2_restartSending_5 : decode cX2_restartSending 5 = .ok (.aload_n 0, 1) := by decide +kernel
theorem dX2_restartSending_6 : decode cX2_restartSending 6 = .ok (.iconst 0, 1) := by decide +kernel
theorem dX2_restartSending_7 : decode cX2_restartSending 7 = .ok (.putfield 66, 3) := by decide +kernel
theorem dX2_restartSending_10 : decode cX2_restartSending 10 = .ok (.aload_n 0, 1) := by decide +kernel
theorem dX2_restartSending_11 : decode cX2_restartSending 11 = .ok (.iconst 1, 1) := by decide +kernel
theorem dX2_restartSending_12 : decode cX2_restartSending 12 = .ok (.putfield 69, 3) := by decide +kernel
theorem dX2_restartSending_15 : decode cX2_restartSending 15 = .ok (.return_, 1) := by decide +kernel
theorem dX2_shareBeyondGuarantee_0 : decode cX2_shareBeyondGuarantee 0 = .ok (.aload_n 0, 1) := by decide +kernel
theorem dX2_shareBeyondGuarantee_1 : decode cX2_shareBeyondGuarantee 1 = .ok (.invokevirtual 88, 3) := by decide +kernel
theorem dX2_shareBeyondGuarantee_4 : decode cX2_shareBeyondGuarantee 4 = .ok (.ineg, 1) := by decide +kernel
theorem dX2_shareBeyondGuarantee_5 : decode cX2_shareBeyondGuarantee 5 = .ok (.istore_n 1, 1) := by decide +kernel
theorem dX2_shareBeyondGuarantee_6 : decode cX2_shareBeyondGuarantee 6 = .ok (.iconst 2, 1) := by decide +kernel
theorem dX2_shareBeyondGuarantee_7 : decode cX2_shareBeyondGuarantee 7 = .ok (.istore_n 2, 1) := by decide +kernel
theorem dX2_shareBeyondGuarantee_8 : decode cX2_shareBeyondGuarantee 8 = .ok (.iload_n 2, 1) := by decide +kernel
theorem dX2_shareBeyondGuarantee_9 : decode cX2_shareBeyondGuarantee 9 = .ok (.ifCond .lt 57, 3) := by decide +kernel
theorem dX2_shareBeyondGuarantee_12 : decode cX2_shareBeyondGuarantee 12 = .ok (.iload_n 1, 1) := by decide +kernel
theorem dX2_shareBeyondGuarantee_13 : decode cX2_shareBeyondGuarantee 13 = .ok (.ifCond .le 53, 3) := by decide +kernel
theorem dX2_shareBeyondGuarantee_16 : decode cX2_shareBeyondGuarantee 16 = .ok (.aload_n 0, 1) := by decide +kernel
theorem dX2_shareBeyondGuarantee_17 : decode cX2_shareBeyondGuarantee 17 = .ok (.getfield 11, 3) := by decide +kernel
theorem dX2_shareBeyondGuarantee_20 : decode cX2_shareBeyondGuarantee 20 = .ok (.iload_n 2, 1) := by decide +kernel
theorem dX2_shareBeyondGuarantee_21 : decode cX2_shareBeyondGuarantee 21 = .ok (.aaload, 1) := by decide +kernel
theorem dX2_shareBeyondGuarantee_22 : decode cX2_shareBeyondGuarantee 22 = .ok (.astore_n 3, 1) := by decide +kernel
theorem dX2_shareBeyondGuarantee_23 : decode cX2_shareBeyondGuarantee 23 = .ok (.iload_n 1, 1) := by decide +kernel
theorem dX2_shareBeyondGuarantee_24 : decode cX2_shareBeyondGuarantee 24 = .ok (.aload_n 3, 1) := by decide +kernel
theorem dX2_shareBeyondGuarantee_25 : decode cX2_shareBeyondGuarantee 25 = .ok (.getfield 72, 3) := by decide +kernel
theorem dX2_shareBeyondGuarantee_28 : decode cX2_shareBeyondGuarantee 28 = .ok (.invokestatic 91, 3) := by decide +kernel
theorem dX2_shareBeyondGuarantee_31 : decode cX2_shareBeyondGuarantee 31 = .ok (.istore 4, 2) := by decide +kernel
theorem dX2_shareBeyondGuarantee_33 : decode cX2_shareBeyondGuarantee 33 = .ok (.aload_n 3, 1) := by decide +kernel
theorem dX2_shareBeyondGuarantee_34 : decode cX2_shareBeyondGuarantee 34 = .ok (.dup, 1) := by decide +kernel
theorem dX2_shareBeyondGuarantee_35 : decode cX2_shareBeyondGuarantee 35 = .ok (.getfield 72, 3) := by decide +kernel
theorem dX2_shareBeyondGuarantee_38 : decode cX2_shareBeyondGuarantee 38 = .ok (.iload 4, 2) := by decide +kernel
theorem dX2_shareBeyondGuarantee_40 : decode cX2_shareBeyondGuarantee 40 = .ok (.isub, 1) := by decide +kernel
theorem dX2_shareBeyondGuarantee_41 : decode cX2_shareBeyondGuarantee 41 = .ok (.putfield 72, 3) := by decide +kernel
theorem dX2_shareBeyondGuarantee_44 : decode cX2_shareBeyondGuarantee 44 = .ok (.aload_n 3, 1) := by decide +kernel
theorem dX2_shareBeyondGuarantee_45 : decode cX2_shareBeyondGuarantee 45 = .ok (.dup, 1) := by decide +kernel
theorem dX2_shareBeyondGuarantee_46 : decode cX2_shareBeyondGuarantee 46 = .ok (.getfield 75, 3) := by decide +kernel
theorem dX2_shareBeyondGuarantee_49 : decode cX2_shareBeyondGuarantee 49 = .ok (.iload 4, 2) := by decide +kernel
theorem dX2_shareBeyondGuarantee_51 : decode cX2_shareBeyondGuarantee 51 = .ok (.iadd, 1) := by decide +kernel
theorem dX2_shareBeyondGuarantee_52 : decode cX2_shareBeyondGuarantee 52 = .ok (.putfield 75, 3) := by decide +kernel
theorem dX2_shareBeyondGuarantee_55 : decode cX2_shareBeyondGuarantee 55 = .ok (.iload_n 1, 1) := by decide +kernel
theorem dX2_shareBeyondGuarantee_56 : decode cX2_shareBeyondGuarantee 56 = .ok (.iload 4, 2) := by decide +kernel
theorem dX2_shareBeyondGuarantee_58 : decode cX2_shareBeyondGuarantee 58 = .ok (.isub, 1) := by decide +kernel
theorem dX2_shareBeyondGuarantee_59 : decode cX2_shareBeyondGuarantee 59 = .ok (.istore_n 1, 1) := by decide +kernel
theorem dX2_shareBeyondGuarantee_60 : decode cX2_shareBeyondGuarantee 60 = .ok (.iinc 2 (-1), 3) := by decide +kernel
theorem dX2_shareBeyondGuarantee_63 : decode cX2_shareBeyondGuarantee 63 = .ok (.goto (-55), 3) := by decide +kernel
theorem dX2_shareBeyondGuarantee_66 : decode cX2_shareBeyondGuarantee 66 = .ok (.return_, 1) := by decide +kernel
theorem dX2_countLoss_0 : decode cX2_countLoss 0 = .ok (.iload_n 1, 1) := by decide +kernel
theorem dX2_countLoss_1 : decode cX2_countLoss 1 = .ok (.ifCond .lt 22, 3) := by decide +kernel
theorem dX2_countLoss_4 : decode cX2_countLoss 4 = .ok (.iload_n 1, 1) := by decide +kernel
theorem dX2_countLoss_5 : decode cX2_countLoss 5 = .ok (.aload_n 0, 1) := by decide +kernel
theorem dX2_countLoss_6 : decode cX2_countLoss 6 = .ok (.getfield 20, 3) := by decide +kernel
theorem dX2_countLoss_9 : decode cX2_countLoss 9 = .ok (.arraylength, 1) := by decide +kernel
theorem dX2_countLoss_10 : decode cX2_countLoss 10 = .ok (.if_icmp .ge 13, 3) := by decide +kernel
theorem dX2_countLoss_13 : decode cX2_countLoss 13 = .ok (.aload_n 0, 1) := by decide +kernel
theorem dX2_countLoss_14 : decode cX2_countLoss 14 = .ok (.getfield 20, 3) := by decide +kernel
theorem dX2_countLoss_17 : decode cX2_countLoss 17 = .ok (.iload_n 1, 1) := by decide +kernel
theorem dX2_countLoss_18 : decode cX2_countLoss 18 = .ok (.dup2, 1) := by decide +kernel
theorem dX2_countLoss_19 : decode cX2_countLoss 19 = .ok (.iaload, 1) := by decide +kernel
theorem dX2_countLoss_20 : decode cX2_countLoss 20 = .ok (.iconst 1, 1) := by decide +kernel
theorem dX2_countLoss_21 : decode cX2_countLoss 21 = .ok (.iadd, 1) := by decide +kernel
theorem dX2_countLoss_22 : decode cX2_countLoss 22 = .ok (.iastore, 1) := by decide +kernel
theorem dX2_countLoss_23 : decode cX2_countLoss 23 = .ok (.aload_n 0, 1) := by decide +kernel
theorem dX2_countLoss_24 : decode cX2_countLoss 24 = .ok (.dup, 1) := by decide +kernel
theorem dX2_countLoss_25 : decode cX2_countLoss 25 = .ok (.getfield 47, 3) := by decide +kernel
theorem dX2_countLoss_28 : decode cX2_countLoss 28 = .ok (.iload_n 2, 1) := by decide +kernel
theorem dX2_countLoss_29 : decode cX2_countLoss 29 = .ok (.iadd, 1) := by decide +kernel
theorem dX2_countLoss_30 : decode cX2_countLoss 30 = .ok (.putfield 47, 3) := by decide +kernel
theorem dX2_countLoss_33 : decode cX2_countLoss 33 = .ok (.return_, 1) := by decide +kernel
theorem dX3_init_0 : decode cX3_init 0 = .ok (.aload_n 0, 1) := by decide +kernel
theorem dX3_init_1 : decode cX3_init 1 = .ok (.invokespecial 3, 3) := by decide +kernel
theorem dX3_init_4 : decode cX3_init 4 = .ok (.aload_n 0, 1) := by decide +kernel
theorem dX3_init_5 : decode cX3_init 5 = .ok (.iload_n 1, 1) := by decide +kernel
theorem dX3_init_6 : decode cX3_init 6 = .ok (.putfield 9, 3) := by decide +kernel
theorem dX3_init_9 : decode cX3_init 9 = .ok (.return_, 1) := by decide +kernel
theorem dX3_startAnew_0 : decode cX3_startAnew 0 = .ok (.aload_n 0, 1) := by decide +kernel
theorem dX3_startAnew_1 : decode cX3_startAnew 1 = .ok (.bipush 8, 2) := by decide +kernel
theorem dX3_startAnew_3 : decode cX3_startAnew 3 = .ok (.putfield 15, 3) := by decide +kernel
theorem dX3_startAnew_6 : decode cX3_startAnew 6 = .ok (.aload_n 0, 1) := by decide +kernel
theorem dX3_startAnew_7 : decode cX3_startAnew 7 = .ok (.iconst 0, 1) := by decide +kernel
theorem dX3_startAnew_8 : decode cX3_startAnew 8 = .ok (.putfield 18, 3) := by decide +kernel
theorem dX3_startAnew_11 : decode cX3_startAnew 11 = .ok (.aload_n 0, 1) := by decide +kernel
theorem dX3_startAnew_12 : decode cX3_startAnew 12 = .ok (.iconst 0, 1) := by decide +kernel
theorem dX3_startAnew_13 : decode cX3_startAnew 13 = .ok (.putfield 21, 3) := by decide +kernel
theorem dX3_startAnew_16 : decode cX3_startAnew 16 = .ok (.aload_n 0, 1) := by decide +kernel
theorem dX3_startAnew_17 : decode cX3_startAnew 17 = .ok (.iconst 0, 1) := by decide +kernel
theorem dX3_startAnew_18 : decode cX3_startAnew 18 = .ok (.putfield 24, 3) := by decide +kernel
theorem dX3_startAnew_21 : decode cX3_startAnew 21 = .ok (.aload_n 0, 1) := by decide +kernel
theorem dX3_startAnew_22 : decode cX3_startAnew 22 = .ok (.iconst 4, 1) := by decide +kernel
theorem dX3_startAnew_23 : decode cX3_startAnew 23 = .ok (.putfield 27, 3) := by decide +kernel
theorem dX3_startAnew_26 : decode cX3_startAnew 26 = .ok (.aload_n 0, 1) := by decide +kernel
theorem dX3_startAnew_27 : decode cX3_startAnew 27 = .ok (.iconst 0, 1) := by decide +kernel
theorem dX3_startAnew_28 : decode cX3_startAnew 28 = .ok (.putfield 30, 3) := by decide +kernel
theorem dX3_startAnew_31 : decode cX3_startAnew 31 = .ok (.aload_n 0, 1) := by decide +kernel
theorem dX3_startAnew_32 : decode cX3_startAnew 32 = .ok (.iconst 0, 1) := by decide +kernel
theorem dX3_startAnew_33 : decode cX3_startAnew 33 = .ok (.putfield 33, 3) := by decide +kernel
theorem dX3_startAnew_36 : decode cX3_startAnew 36 = .ok (.aload_n 0, 1) := by decide +kernel
theorem dX3_startAnew_37 : decode cX3_startAnew 37 = .ok (.iconst 0, 1) := by decide +kernel
theorem dX3_startAnew_38 : decode cX3_startAnew 38 = .ok (.putfield 37, 3) := by decide +kernel
theorem dX3_startAnew_41 : decode cX3_startAnew 41 = .ok (.aload_n 0, 1) := by decide +kernel
theorem dX3_startAnew_42 : decode cX3_startAnew 42 = .ok (.iconst 0, 1) := by decide +kernel
theorem dX3_startAnew_43 : decode cX3_startAnew 43 = .ok (.putfield 40, 3) := by decide +kernel
theorem dX3_startAnew_46 : decode cX3_startAnew 46 = .ok (.aload_n 0, 1) := by decide +kernel
theorem dX3_startAnew_47 : decode cX3_startAnew 47 = .ok (.iconst 0, 1) := by decide +kernel
theorem dX3_startAnew_48 : decode cX3_startAnew 48 = .ok (.putfield 43, 3) := by decide +kernel
theorem dX3_startAnew_51 : decode cX3_startAnew 51 = .ok (.aload_n 0, 1) := by decide +kernel
theorem dX3_startAnew_52 : decode cX3_startAnew 52 = .ok (.iconst 0, 1) := by decide +kernel
theorem dX3_startAnew_53 : decode cX3_startAnew 53 = .ok (.putfield 46, 3) := by decide +kernel
theorem dX3_startAnew_56 : decode cX3_startAnew 56 = .ok (.aload_n 0, 1) := by decide +kernel
theorem dX3_startAnew_57 : decode cX3_startAnew 57 = .ok (.iconst 0, 1) := by decide +kernel
theorem dX3_startAnew_58 : decode cX3_startAnew 58 = .ok (.putfield 49, 3) := by decide +kernel
theorem dX3_startAnew_61 : decode cX3_startAnew 61 = .ok (.aload_n 0, 1) := by decide +kernel
theorem dX3_startAnew_62 : decode cX3_startAnew 62 = .ok (.iconst (-1), 1) := by decide +kernel
theorem dX3_startAnew_63 : decode cX3_startAnew 63 = .ok (.putfield 52, 3) := by decide +kernel
theorem dX3_startAnew_66 : decode cX3_startAnew 66 = .ok (.aload_n 0, 1) := by decide +kernel
theorem dX3_startAnew_67 : decode cX3_startAnew 67 = .ok (.iconst (-1), 1) := by decide +kernel
theorem dX3_startAnew_68 : decode cX3_startAnew 68 = .ok (.putfield 55, 3) := by decide +kernel
theorem dX3_startAnew_71 : decode cX3_startAnew 71 = .ok (.aload_n 0, 1) := by decide +kernel
theorem dX3_startAnew_72 : decode cX3_startAnew 72 = .ok (.iconst 0, 1) := by decide +kernel
theorem dX3_startAnew_73 : decode cX3_startAnew 73 = .ok (.putfield 58, 3) := by decide +kernel
theorem dX3_startAnew_76 : decode cX3_startAnew 76 = .ok (.return_, 1) := by decide +kernel
theorem dX3_copyFrom_0 : decode cX3_copyFrom 0 = .ok (.aload_n 0, 1) := by decide +kernel
theorem dX3_copyFrom_1 : decode cX3_copyFrom 1 = .ok (.aload_n 1, 1) := by decide +kernel
theorem dX3_copyFrom_2 : decode cX3_copyFrom 2 = .ok (.getfield 15, 3) := by decide +kernel
theorem dX3_copyFrom_5 : decode cX3_copyFrom 5 = .ok (.putfield 15, 3) := by decide +kernel
theorem dX3_copyFrom_8 : decode cX3_copyFrom 8 = .ok (.aload_n 0, 1) := by decide +kernel
theorem dX3_copyFrom_9 : decode cX3_copyFrom 9 = .ok (.aload_n 1, 1) := by decide +kernel
theorem dX3_copyFrom_10 : decode cX3_copyFrom 10 = .ok (.getfield 18, 3) := by decide +kernel
theorem dX3_copyFrom_13 : decode cX3_copyFrom 13 = .ok (.putfield 18, 3) := by decide +kernel
theorem dX3_copyFrom_16 : decode cX3_copyFrom 16 = .ok (.aload_n 0, 1) := by decide +kernel
theorem dX3_copyFrom_17 : decode cX3_copyFrom 17 = .ok (.aload_n 1, 1) := by decide +kernel
theorem dX3_copyFrom_18 : decode cX3_copyFrom 18 = .ok (.getfield 21, 3) := by decide +kernel
theorem dX3_copyFrom_21 : decode cX3_copyFrom 21 = .ok (.putfield 21, 3) := by decide +kernel
theorem dX3_copyFrom_24 : decode cX3_copyFrom 24 = .ok (.aload_n 0, 1) := by decide +kernel
theorem dX3_copyFrom_25 : decode cX3_copyFrom 25 = .ok (.aload_n 1, 1) := by decide +kernel
theorem dX3_copyFrom_26 : decode cX3_copyFrom 26 = .ok (.getfield 24, 3) := by decide +kernel
theorem dX3_copyFrom_29 : decode cX3_copyFrom 29 = .ok (.putfield 24, 3) := by decide +kernel
theorem dX3_copyFrom_32 : decode cX3_copyFrom 32 = .ok (.aload_n 0, 1) := by decide +kernel
theorem dX3_copyFrom_33 : decode cX3_copyFrom 33 = .ok (.aload_n 1, 1) := by decide +kernel
theorem dX3_copyFrom_34 : decode cX3_copyFrom 34 = .ok (.getfield 27, 3) := by decide +kernel
theorem dX3_copyFrom_37 : decode cX3_copyFrom 37 = .ok (.putfield 27, 3) := by decide +kernel
theorem dX3_copyFrom_40 : decode cX3_copyFrom 40 = .ok (.aload_n 0, 1) := by decide +kernel
theorem dX3_copyFrom_41 : decode cX3_copyFrom 41 = .ok (.aload_n 1, 1) := by decide +kernel
theorem dX3_copyFrom_42 : decode cX3_copyFrom 42 = .ok (.getfield 30, 3) := by decide +kernel
theorem dX3_copyFrom_45 : decode cX3_copyFrom 45 = .ok (.putfield 30, 3) := by decide +kernel
theorem dX3_copyFrom_48 : decode cX3_copyFrom 48 = .ok (.aload_n 0, 1) := by decide +kernel
theorem dX3_copyFrom_49 : decode cX3_copyFrom 49 = .ok (.aload_n 1, 1) := by decide +kernel
theorem dX3_copyFrom_50 : decode cX3_copyFrom 50 = .ok (.getfield 33, 3) := by decide +kernel
theorem dX3_copyFrom_53 : decode cX3_copyFrom 53 = .ok (.putfield 33, 3) := by decide +kernel
theorem dX3_copyFrom_56 : decode cX3_copyFrom 56 = .ok (.aload_n 0, 1) := by decide +kernel
theorem dX3_copyFrom_57 : decode cX3_copyFrom 57 = .ok (.aload_n 1, 1) := by decide +kernel
theorem dX3_copyFrom_58 : decode cX3_copyFrom 58 = .ok (.getfield 37, 3) := by decide +kernel
theorem dX3_copyFrom_61 : decode cX3_copyFrom 61 = .ok (.putfield 37, 3) := by decide +kernel
theorem dX3_copyFrom_64 : decode cX3_copyFrom 64 = .ok (.aload_n 0, 1) := by decide +kernel
theorem dX3_copyFrom_65 : decode cX3_copyFrom 65 = .ok (.aload_n 1, 1) := by decide +kernel
theorem dX3_copyFrom_66 : decode cX3_copyFrom 66 = .ok (.getfield 40, 3) := by decide +kernel
theorem dX3_copyFrom_69 : decode cX3_copyFrom 69 = .ok (.putfield 40, 3) := by decide +kernel
theorem dX3_copyFrom_72 : decode cX3_copyFrom 72 = .ok (.aload_n 0, 1) := by decide +kernel
theorem dX3_copyFrom_73 : decode cX3_copyFrom 73 = .ok (.aload_n 1, 1) := by decide +kernel
theorem dX3_copyFrom_74 : decode cX3_copyFrom 74 = .ok (.getfield 43, 3) := by decide +kernel
theorem dX3_copyFrom_77 : decode cX3_copyFrom 77 = .ok (.putfield 43, 3) := by decide +kernel
theorem dX3_copyFrom_80 : decode cX3_copyFrom 80 = .ok (.aload_n 0, 1) := by decide +kernel
theorem dX3_copyFrom_81 : decode cX3_copyFrom 81 = .ok (.aload_n 1, 1) := by decide +kernel
theorem dX3_copyFrom_82 : decode cX3_copyFrom 82 = .ok (.getfield 46, 3) := by decide +kernel
theorem dX3_copyFrom_85 : decode cX3_copyFrom 85 = .ok (.putfield 46, 3) := by decide +kernel
theorem dX3_copyFrom_88 : decode cX3_copyFrom 88 = .ok (.aload_n 0, 1) := by decide +kernel
theorem dX3_copyFrom_89 : decode cX3_copyFrom 89 = .ok (.aload_n 1, 1) := by decide +kernel
theorem dX3_copyFrom_90 : decode cX3_copyFrom 90 = .ok (.getfield 49, 3) := by decide +kernel
theorem dX3_copyFrom_93 : decode cX3_copyFrom 93 = .ok (.putfield 49, 3) := by decide +kernel
theorem dX3_copyFrom_96 : decode cX3_copyFrom 96 = .ok (.aload_n 0, 1) := by decide +kernel
theorem dX3_copyFrom_97 : decode cX3_copyFrom 97 = .ok (.aload_n 1, 1) := by decide +kernel
theorem dX3_copyFrom_98 : decode cX3_copyFrom 98 = .ok (.getfield 52, 3) := by decide +kernel
theorem dX3_copyFrom_101 : decode cX3_copyFrom 101 = .ok (.putfield 52, 3) := by decide +kernel
theorem dX3_copyFrom_104 : decode cX3_copyFrom 104 = .ok (.aload_n 0, 1) := by decide +kernel
theorem dX3_copyFrom_105 : decode cX3_copyFrom 105 = .ok (.aload_n 1, 1) := by decide +kernel
theorem dX3_copyFrom_106 : decode cX3_copyFrom 106 = .ok (.getfield 55, 3) := by decide +kernel
theorem dX3_copyFrom_109 : decode cX3_copyFrom 109 = .ok (.putfield 55, 3) := by decide +kernel
theorem dX3_copyFrom_112 : decode cX3_copyFrom 112 = .ok (.aload_n 0, 1) := by decide +kernel
theorem dX3_copyFrom_113 : decode cX3_copyFrom 113 = .ok (.aload_n 1, 1) := by decide +kernel
theorem dX3_copyFrom_114 : decode cX3_copyFrom 114 = .ok (.getfield 58, 3) := by decide +kernel
theorem dX3_copyFrom_117 : decode cX3_copyFrom 117 = .ok (.putfield 58, 3) := by decide +kernel
theorem dX3_copyFrom_120 : decode cX3_copyFrom 120 = .ok (.return_, 1) := by decide +kernel
theorem dX3_limitWith_0 : decode cX3_limitWith 0 = .ok (.aload_n 0, 1) := by decide +kernel
theorem dX3_limitWith_1 : decode cX3_limitWith 1 = .ok (.getfield 15, 3) := by decide +kernel
theorem dX3_limitWith_4 : decode cX3_limitWith 4 = .ok (.iload_n 1, 1) := by decide +kernel
theorem dX3_limitWith_5 : decode cX3_limitWith 5 = .ok (.imul, 1) := by decide +kernel
theorem dX3_limitWith_6 : decode cX3_limitWith 6 = .ok (.bipush 8, 2) := by decide +kernel
theorem dX3_limitWith_8 : decode cX3_limitWith 8 = .ok (.idiv, 1) := by decide +kernel
theorem dX3_limitWith_9 : decode cX3_limitWith 9 = .ok (.ireturn, 1) := by decide +kernel
theorem dX3_poolRefusal_0 : decode cX3_poolRefusal 0 = .ok (.iload_n 1, 1) := by decide +kernel
theorem dX3_poolRefusal_1 : decode cX3_poolRefusal 1 = .ok (.iload_n 2, 1) := by decide +kernel
theorem dX3_poolRefusal_2 : decode cX3_poolRefusal 2 = .ok (.if_icmp .le 5, 3) := by decide +kernel
theorem dX3_poolRefusal_5 : decode cX3_poolRefusal 5 = .ok (.iconst 2, 1) := by decide +kernel
theorem dX3_poolRefusal_6 : decode cX3_poolRefusal 6 = .ok (.ireturn, 1) := by decide +kernel
theorem dX3_poolRefusal_7 : decode cX3_poolRefusal 7 = .ok (.aload_n 0, 1) := by decide +kernel
theorem dX3_poolRefusal_8 : decode cX3_poolRefusal 8 = .ok (.getfield 46, 3) := by decide +kernel
theorem dX3_poolRefusal_11 : decode cX3_poolRefusal 11 = .ok (.iload_n 1, 1) := by decide +kernel
theorem dX3_poolRefusal_12 : decode cX3_poolRefusal 12 = .ok (.iadd, 1) := by decide +kernel
theorem dX3_poolRefusal_13 : decode cX3_poolRefusal 13 = .ok (.aload_n 0, 1) := by decide +kernel
theorem dX3_poolRefusal_14 : decode cX3_poolRefusal 14 = .ok (.iload_n 2, 1) := by decide +kernel
theorem dX3_poolRefusal_15 : decode cX3_poolRefusal 15 = .ok (.invokevirtual 61, 3) := by decide +kernel
theorem dX3_poolRefusal_18 : decode cX3_poolRefusal 18 = .ok (.isub, 1) := by decide +kernel
theorem dX3_poolRefusal_19 : decode cX3_poolRefusal 19 = .ok (.aload_n 0, 1) := by decide +kernel
theorem dX3_poolRefusal_20 : decode cX3_poolRefusal 20 = .ok (.getfield 24, 3) := by decide +kernel
theorem dX3_poolRefusal_23 : decode cX3_poolRefusal 23 = .ok (.if_icmp .gt 7, 3) := by decide +kernel
theorem dX3_poolRefusal_26 : decode cX3_poolRefusal 26 = .ok (.iconst 0, 1) := by decide +kernel
theorem dX3_poolRefusal_27 : decode cX3_poolRefusal 27 = .ok (.goto 4, 3) := by decide +kernel
theorem dX3_poolRefusal_30 : decode cX3_poolRefusal 30 = .ok (.iconst 3, 1) := by decide +kernel
theorem dX3_poolRefusal_31 : decode cX3_poolRefusal 31 = .ok (.ireturn, 1) := by decide +kernel
theorem dX3_addShared_0 : decode cX3_addShared 0 = .ok (.aload_n 0, 1) := by decide +kernel
theorem dX3_addShared_1 : decode cX3_addShared 1 = .ok (.dup, 1) := by decide +kernel
theorem dX3_addShared_2 : decode cX3_addShared 2 = .ok (.getfield 24, 3) := by decide +kernel
theorem dX3_addShared_5 : decode cX3_addShared 5 = .ok (.iconst 0, 1) := by decide +kernel
theorem dX3_addShared_6 : decode cX3_addShared 6 = .ok (.aload_n 0, 1) := by decide +kernel
theorem dX3_addShared_7 : decode cX3_addShared 7 = .ok (.getfield 46, 3) := by decide +kernel
theorem dX3_addShared_10 : decode cX3_addShared 10 = .ok (.iload_n 1, 1) := by decide +kernel
theorem dX3_addShared_11 : decode cX3_addShared 11 = .ok (.iadd, 1) := by decide +kernel
theorem dX3_addShared_12 : decode cX3_addShared 12 = .ok (.aload_n 0, 1) := by decide +kernel
theorem dX3_addShared_13 : decode cX3_addShared 13 = .ok (.iload_n 2, 1) := by decide +kernel
theorem dX3_addShared_14 : decode cX3_addShared 14 = .ok (.invokevirtual 61, 3) := by decide +kernel
theorem dX3_addShared_17 : decode cX3_addShared 17 = .ok (.isub, 1) := by decide +kernel
theorem dX3_addShared_18 : decode cX3_addShared 18 = .ok (.invokestatic 65, 3) := by decide +kernel
theorem dX3_addShared_21 : decode cX3_addShared 21 = .ok (.isub, 1) := by decide +kernel
theorem dX3_addShared_22 : decode cX3_addShared 22 = .ok (.putfield 24, 3) := by decide +kernel
theorem dX3_addShared_25 : decode cX3_addShared 25 = .ok (.aload_n 0, 1) := by decide +kernel
theorem dX3_addShared_26 : decode cX3_addShared 26 = .ok (.dup, 1) := by decide +kernel
theorem dX3_addShared_27 : decode cX3_addShared 27 = .ok (.getfield 46, 3) := by decide +kernel
theorem dX3_addShared_30 : decode cX3_addShared 30 = .ok (.iload_n 1, 1) := by decide +kernel
theorem dX3_addShared_31 : decode cX3_addShared 31 = .ok (.iadd, 1) := by decide +kernel
theorem dX3_addShared_32 : decode cX3_addShared 32 = .ok (.putfield 46, 3) := by decide +kernel
theorem dX3_addShared_35 : decode cX3_addShared 35 = .ok (.return_, 1) := by decide +kernel
theorem dX3_pause_0 : decode cX3_pause 0 = .ok (.aload_n 0, 1) := by decide +kernel
theorem dX3_pause_1 : decode cX3_pause 1 = .ok (.getfield 37, 3) := by decide +kernel
theorem dX3_pause_4 : decode cX3_pause 4 = .ok (.ifCond .ne 18, 3) := by decide +kernel
theorem dX3_pause_7 : decode cX3_pause 7 = .ok (.aload_n 0, 1) := by decide +kernel
theorem dX3_pause_8 : decode cX3_pause 8 = .ok (.iconst 1, 1) := by decide +kernel
theorem dX3_pause_9 : decode cX3_pause 9 = .ok (.putfield 37, 3) := by decide +kernel
theorem dX3_pause_12 : decode cX3_pause 12 = .ok (.aload_n 0, 1) := by decide +kernel
theorem dX3_pause_13 : decode cX3_pause 13 = .ok (.dup, 1) := by decide +kernel
theorem dX3_pause_14 : decode cX3_pause 14 = .ok (.getfield 40, 3) := by decide +kernel
theorem dX3_pause_17 : decode cX3_pause 17 = .ok (.iconst 1, 1) := by decide +kernel
theorem dX3_pause_18 : decode cX3_pause 18 = .ok (.iadd, 1) := by decide +kernel
theorem dX3_pause_19 : decode cX3_pause 19 = .ok (.putfield 40, 3) := by decide +kernel
theorem dX3_pause_22 : decode cX3_pause 22 = .ok (.return_, 1) := by decide +kernel
theorem dX3_giveBack_0 : decode cX3_giveBack 0 = .ok (.iload_n 1, 1) := by decide +kernel
theorem dX3_giveBack_1 : decode cX3_giveBack 1 = .ok (.istore_n 2, 1) := by decide +kernel
theorem dX3_giveBack_2 : decode cX3_giveBack 2 = .ok (.iload_n 2, 1) := by decide +kernel
theorem dX3_giveBack_3 : decode cX3_giveBack 3 = .ok (.aload_n 0, 1) := by decide +kernel
theorem dX3_giveBack_4 : decode cX3_giveBack 4 = .ok (.getfield 49, 3) := by decide +kernel
theorem dX3_giveBack_7 : decode cX3_giveBack 7 = .ok (.invokestatic 71, 3) := by decide +kernel
theorem dX3_giveBack_10 : decode cX3_giveBack 10 = .ok (.istore_n 3, 1) := by decide +kernel
theorem dX3_giveBack_11 : decode cX3_giveBack 11 = .ok (.aload_n 0, 1) := by decide +kernel
theorem dX3_giveBack_12 : decode cX3_giveBack 12 = .ok (.dup, 1) := by decide +kernel
theorem dX3_giveBack_13 : decode cX3_giveBack 13 = .ok (.getfield 49, 3) := by decide +kernel
theorem dX3_giveBack_16 : decode cX3_giveBack 16 = .ok (.iload_n 3, 1) := by decide +kernel
theorem dX3_giveBack_17 : decode cX3_giveBack 17 = .ok (.isub, 1) := by decide +kernel
theorem dX3_giveBack_18 : decode cX3_giveBack 18 = .ok (.putfield 49, 3) := by decide +kernel
theorem dX3_giveBack_21 : decode cX3_giveBack 21 = .ok (.iload_n 2, 1) := by decide +kernel
theorem dX3_giveBack_22 : decode cX3_giveBack 22 = .ok (.iload_n 3, 1) := by decide +kernel
theorem dX3_giveBack_23 : decode cX3_giveBack 23 = .ok (.isub, 1) := by decide +kernel
theorem dX3_giveBack_24 : decode cX3_giveBack 24 = .ok (.istore_n 2, 1) := by decide +kernel
theorem dX3_giveBack_25 : decode cX3_giveBack 25 = .ok (.iload_n 2, 1) := by decide +kernel
theorem dX3_giveBack_26 : decode cX3_giveBack 26 = .ok (.aload_n 0, 1) := by decide +kernel
theorem dX3_giveBack_27 : decode cX3_giveBack 27 = .ok (.getfield 46, 3) := by decide +kernel
theorem dX3_giveBack_30 : decode cX3_giveBack 30 = .ok (.invokestatic 71, 3) := by decide +kernel
theorem dX3_giveBack_33 : decode cX3_giveBack 33 = .ok (.istore_n 3, 1) := by decide +kernel
theorem dX3_giveBack_34 : decode cX3_giveBack 34 = .ok (.aload_n 0, 1) := by decide +kernel
theorem dX3_giveBack_35 : decode cX3_giveBack 35 = .ok (.dup, 1) := by decide +kernel
theorem dX3_giveBack_36 : decode cX3_giveBack 36 = .ok (.getfield 46, 3) := by decide +kernel
theorem dX3_giveBack_39 : decode cX3_giveBack 39 = .ok (.iload_n 3, 1) := by decide +kernel
theorem dX3_giveBack_40 : decode cX3_giveBack 40 = .ok (.isub, 1) := by decide +kernel
theorem dX3_giveBack_41 : decode cX3_giveBack 41 = .ok (.putfield 46, 3) := by decide +kernel
theorem dX3_giveBack_44 : decode cX3_giveBack 44 = .ok (.iload_n 2, 1) := by decide +kernel
theorem dX3_giveBack_45 : decode cX3_giveBack 45 = .ok (.iload_n 3, 1) := by decide +kernel
theorem dX3_giveBack_46 : decode cX3_giveBack 46 = .ok (.isub, 1) := by decide +kernel
theorem dX3_giveBack_47 : decode cX3_giveBack 47 = .ok (.istore_n 2, 1) := by decide +kernel
theorem dX3_giveBack_48 : decode cX3_giveBack 48 = .ok (.aload_n 0, 1) := by decide +kernel
theorem dX3_giveBack_49 : decode cX3_giveBack 49 = .ok (.dup, 1) := by decide +kernel
theorem dX3_giveBack_50 : decode cX3_giveBack 50 = .ok (.getfield 43, 3) := by decide +kernel
theorem dX3_giveBack_53 : decode cX3_giveBack 53 = .ok (.iload_n 2, 1) := by decide +kernel
theorem dX3_giveBack_54 : decode cX3_giveBack 54 = .ok (.isub, 1) := by decide +kernel
theorem dX3_giveBack_55 : decode cX3_giveBack 55 = .ok (.putfield 43, 3) := by decide +kernel
theorem dX3_giveBack_58 : decode cX3_giveBack 58 = .ok (.return_, 1) := by decide +kernel
theorem dX4_init_0 : decode cX4_init 0 = .ok (.aload_n 0, 1) := by decide +kernel
theorem dX4_init_1 : decode cX4_init 1 = .ok (.invokespecial 3, 3) := by decide +kernel
theorem dX4_init_4 : decode cX4_init 4 = .ok (.aload_n 0, 1) := by decide +kernel
theorem dX4_init_5 : decode cX4_init 5 = .ok (.bipush 120, 2) := by decide +kernel
theorem dX4_init_7 : decode cX4_init 7 = .ok (.newarray .int, 2) := by decide +kernel
theorem dX4_init_9 : decode cX4_init 9 = .ok (.putfield 9, 3) := by decide +kernel
theorem dX4_init_12 : decode cX4_init 12 = .ok (.return_, 1) := by decide +kernel
theorem dX4_rewind_0 : decode cX4_rewind 0 = .ok (.aload_n 0, 1) := by decide +kernel
theorem dX4_rewind_1 : decode cX4_rewind 1 = .ok (.iconst 0, 1) := by decide +kernel
theorem dX4_rewind_2 : decode cX4_rewind 2 = .ok (.putfield 15, 3) := by decide +kernel
theorem dX4_rewind_5 : decode cX4_rewind 5 = .ok (.aload_n 0, 1) := by decide +kernel
theorem dX4_rewind_6 : decode cX4_rewind 6 = .ok (.iconst (-1), 1) := by decide +kernel
theorem dX4_rewind_7 : decode cX4_rewind 7 = .ok (.putfield 19, 3) := by decide +kernel
theorem dX4_rewind_10 : decode cX4_rewind 10 = .ok (.return_, 1) := by decide +kernel
theorem dX4_hasMore_0 : decode cX4_hasMore 0 = .ok (.aload_n 0, 1) := by decide +kernel
theorem dX4_hasMore_1 : decode cX4_hasMore 1 = .ok (.getfield 15, 3) := by decide +kernel
theorem dX4_hasMore_4 : decode cX4_hasMore 4 = .ok (.aload_n 0, 1) := by decide +kernel
theorem dX4_hasMore_5 : decode cX4_hasMore 5 = .ok (.getfield 22, 3) := by decide +kernel
theorem dX4_hasMore_8 : decode cX4_hasMore 8 = .ok (.if_icmp .ge 7, 3) := by decide +kernel
theorem dX4_hasMore_11 : decode cX4_hasMore 11 = .ok (.iconst 1, 1) := by decide +kernel
theorem dX4_hasMore_12 : decode cX4_hasMore 12 = .ok (.goto 4, 3) := by decide +kernel
theorem dX4_hasMore_15 : decode cX4_hasMore 15 = .ok (.iconst 0, 1) := by decide +kernel
theorem dX4_hasMore_16 : decode cX4_hasMore 16 = .ok (.ireturn, 1) := by decide +kernel
theorem dX4_findFault_0 : decode cX4_findFault 0 = .ok (.aload_n 0, 1) := by decide +kernel
theorem dX4_findFault_1 : decode cX4_findFault 1 = .ok (.invokevirtual 25, 3) := by decide +kernel
theorem dX4_findFault_4 : decode cX4_findFault 4 = .ok (.iconst 0, 1) := by decide +kernel
theorem dX4_findFault_5 : decode cX4_findFault 5 = .ok (.istore_n 2, 1) := by decide +kernel
theorem dX4_findFault_6 : decode cX4_findFault 6 = .ok (.iload_n 2, 1) := by decide +kernel
theorem dX4_findFault_7 : decode cX4_findFault 7 = .ok (.bipush 120, 2) := by decide +kernel
theorem dX4_findFault_9 : decode cX4_findFault 9 = .ok (.if_icmp .ge 33, 3) := by decide +kernel
theorem dX4_findFault_12 : decode cX4_findFault 12 = .ok (.aload_n 0, 1) := by decide +kernel
theorem dX4_findFault_13 : decode cX4_findFault 13 = .ok (.getfield 15, 3) := by decide +kernel
theorem dX4_findFault_16 : decode cX4_findFault 16 = .ok (.aload_n 0, 1) := by decide +kernel
theorem dX4_findFault_17 : decode cX4_findFault 17 = .ok (.getfield 22, 3) := by decide +kernel
theorem dX4_findFault_20 : decode cX4_findFault 20 = .ok (.if_icmp .ge 22, 3) := by decide +kernel
theorem dX4_findFault_23 : decode cX4_findFault 23 = .ok (.aload_n 0, 1) := by decide +kernel
theorem dX4_findFault_24 : decode cX4_findFault 24 = .ok (.getfield 19, 3) := by decide +kernel
theorem dX4_findFault_27 : decode cX4_findFault 27 = .ok (.iconst (-1), 1) := by decide +kernel
theorem dX4_findFault_28 : decode cX4_findFault 28 = .ok (.if_icmp .ne 14, 3) := by decide +kernel
theorem dX4_findFault_31 : decode cX4_findFault 31 = .ok (.aload_n 0, 1) := by decide +kernel
theorem dX4_findFault_32 : decode cX4_findFault 32 = .ok (.iload_n 1, 1) := by decide +kernel
theorem dX4_findFault_33 : decode cX4_findFault 33 = .ok (.invokevirtual 28, 3) := by decide +kernel
theorem dX4_findFault_36 : decode cX4_findFault 36 = .ok (.iinc 2 1, 3) := by decide +kernel
theorem dX4_findFault_39 : decode cX4_findFault 39 = .ok (.goto (-33), 3) := by decide +kernel
theorem dX4_findFault_42 : decode cX4_findFault 42 = .ok (.aload_n 0, 1) := by decide +kernel
theorem dX4_findFault_43 : decode cX4_findFault 43 = .ok (.getfield 19, 3) := by decide +kernel
theorem dX4_findFault_46 : decode cX4_findFault 46 = .ok (.ireturn, 1) := by decide +kernel
theorem dX4_readOrder_0 : decode cX4_readOrder 0 = .ok (.aload_n 0, 1) := by decide +kernel
theorem dX4_readOrder_1 : decode cX4_readOrder 1 = .ok (.aload_n 0, 1) := by decide +kernel
theorem dX4_readOrder_2 : decode cX4_readOrder 2 = .ok (.invokevirtual 32, 3) := by decide +kernel
theorem dX4_readOrder_5 : decode cX4_readOrder 5 = .ok (.putfield 36, 3) := by decide +kernel
theorem dX4_readOrder_8 : decode cX4_readOrder 8 = .ok (.aload_n 0, 1) := by decide +kernel
theorem dX4_readOrder_9 : decode cX4_readOrder 9 = .ok (.iconst (-1), 1) := by decide +kernel
theorem dX4_readOrder_10 : decode cX4_readOrder 10 = .ok (.putfield 39, 3) := by decide +kernel
theorem dX4_readOrder_13 : decode cX4_readOrder 13 = .ok (.aload_n 0, 1) := by decide +kernel
theorem dX4_readOrder_14 : decode cX4_readOrder 14 = .ok (.iconst 1, 1) := by decide +kernel
theorem dX4_readOrder_15 : decode cX4_readOrder 15 = .ok (.putfield 42, 3) := by decide +kernel
theorem dX4_readOrder_18 : decode cX4_readOrder 18 = .ok (.aload_n 0, 1) := by decide +kernel
theorem dX4_readOrder_19 : decode cX4_readOrder 19 = .ok (.getfield 36, 3) := by decide +kernel
theorem dX4_readOrder_22 : decode cX4_readOrder 22 = .ok (.lookupswitch 173 #[(97, 42), (102, 112), (103, 134), (116, 88)], 42) := by decide +kernel
theorem dX4_readOrder_64 : decode cX4_readOrder 64 = .ok (.aload_n 0, 1) := by decide +kernel
theorem dX4_readOrder_65 : decode cX4_readOrder 65 = .ok (.dup, 1) := by decide +kernel
theorem dX4_readOrder_66 : decode cX4_readOrder 66 = .ok (.getfield 15, 3) := by decide +kernel
theorem dX4_readOrder_69 : decode cX4_readOrder 69 = .ok (.iconst 1, 1) := by decide +kernel
theorem dX4_readOrder_70 : decode cX4_readOrder 70 = .ok (.iadd, 1) := by decide +kernel
theorem dX4_readOrder_71 : decode cX4_readOrder 71 = .ok (.putfield 15, 3) := by decide +kernel
theorem dX4_readOrder_74 : decode cX4_readOrder 74 = .ok (.aload_n 0, 1) := by decide +kernel
theorem dX4_readOrder_75 : decode cX4_readOrder 75 = .ok (.aload_n 0, 1) := by decide +kernel
theorem dX4_readOrder_76 : decode cX4_readOrder 76 = .ok (.iload_n 1, 1) := by decide +kernel
theorem dX4_readOrder_77 : decode cX4_readOrder 77 = .ok (.invokevirtual 45, 3) := by decide +kernel
theorem dX4_readOrder_80 : decode cX4_readOrder 80 = .ok (.putfield 39, 3) := by decide +kernel
theorem dX4_readOrder_83 : decode cX4_readOrder 83 = .ok (.aload_n 0, 1) := by decide +kernel
theorem dX4_readOrder_84 : decode cX4_readOrder 84 = .ok (.aload_n 0, 1) := by decide +kernel
theorem dX4_readOrder_85 : decode cX4_readOrder 85 = .ok (.iconst 3, 1) := by decide +kernel
theorem dX4_readOrder_86 : decode cX4_readOrder 86 = .ok (.invokevirtual 45, 3) := by decide +kernel
theorem dX4_readOrder_89 : decode cX4_readOrder 89 = .ok (.putfield 49, 3) := by decide +kernel
theorem dX4_readOrder_92 : decode cX4_readOrder 92 = .ok (.aload_n 0, 1) := by decide +kernel
theorem dX4_readOrder_93 : decode cX4_readOrder 93 = .ok (.aload_n 0, 1) := by decide +kernel
theorem dX4_readOrder_94 : decode cX4_readOrder 94 = .ok (.iconst 1, 1) := by decide +kernel
theorem dX4_readOrder_95 : decode cX4_readOrder 95 = .ok (.bipush 12, 2) := by decide +kernel
theorem dX4_readOrder_97 : decode cX4_readOrder 97 = .ok (.invokevirtual 52, 3) := by decide +kernel
theorem dX4_readOrder_100 : decode cX4_readOrder 100 = .ok (.putfield 56, 3) := by decide +kernel
theorem dX4_readOrder_103 : decode cX4_readOrder 103 = .ok (.aload_n 0, 1) := by decide +kernel
theorem dX4_readOrder_104 : decode cX4_readOrder 104 = .ok (.invokevirtual 59, 3) := by decide +kernel
theorem dX4_readOrder_107 : decode cX4_readOrder 107 = .ok (.goto 96, 3) := by decide +kernel
theorem dX4_readOrder_110 : decode cX4_readOrder 110 = .ok (.aload_n 0, 1) := by decide +kernel
theorem dX4_readOrder_111 : decode cX4_readOrder 111 = .ok (.dup, 1) := by decide +kernel
theorem dX4_readOrder_112 : decode cX4_readOrder 112 = .ok (.getfield 15, 3) := by decide +kernel
theorem dX4_readOrder_115 : decode cX4_readOrder 115 = .ok (.iconst 1, 1) := by decide +kernel
theorem dX4_readOrder_116 : decode cX4_readOrder 116 = .ok (.iadd, 1) := by decide +kernel
theorem dX4_readOrder_117 : decode cX4_readOrder 117 = .ok (.putfield 15, 3) := by decide +kernel
theorem dX4_readOrder_120 : decode cX4_readOrder 120 = .ok (.aload_n 0, 1) := by decide +kernel
theorem dX4_readOrder_121 : decode cX4_readOrder 121 = .ok (.aload_n 0, 1) := by decide +kernel
theorem dX4_readOrder_122 : decode cX4_readOrder 122 = .ok (.iconst 1, 1) := by decide +kernel
theorem dX4_readOrder_123 : decode cX4_readOrder 123 = .ok (.bipush 20, 2) := by decide +kernel
theorem dX4_readOrder_125 : decode cX4_readOrder 125 = .ok (.invokevirtual 52, 3) := by decide +kernel
theorem dX4_readOrder_128 : decode cX4_readOrder 128 = .ok (.putfield 56, 3) := by decide +kernel
theorem dX4_readOrder_131 : decode cX4_readOrder 131 = .ok (.goto 72, 3) := by decide +kernel
theorem dX4_readOrder_134 : decode cX4_readOrder 134 = .ok (.aload_n 0, 1) := by decide +kernel
theorem dX4_readOrder_135 : decode cX4_readOrder 135 = .ok (.dup, 1) := by decide +kernel
theorem dX4_readOrder_136 : decode cX4_readOrder 136 = .ok (.getfield 15, 3) := by decide +kernel
theorem dX4_readOrder_139 : decode cX4_readOrder 139 = .ok (.iconst 1, 1) := by decide +kernel
theorem dX4_readOrder_140 : decode cX4_readOrder 140 = .ok (.iadd, 1) := by decide +kernel
theorem dX4_readOrder_141 : decode cX4_readOrder 141 = .ok (.putfield 15, 3) := by decide +kernel
theorem dX4_readOrder_144 : decode cX4_readOrder 144 = .ok (.aload_n 0, 1) := by decide +kernel
theorem dX4_readOrder_145 : decode cX4_readOrder 145 = .ok (.aload_n 0, 1) := by decide +kernel
theorem dX4_readOrder_146 : decode cX4_readOrder 146 = .ok (.iload_n 1, 1) := by decide +kernel
theorem dX4_readOrder_147 : decode cX4_readOrder 147 = .ok (.invokevirtual 45, 3) := by decide +kernel
theorem dX4_readOrder_150 : decode cX4_readOrder 150 = .ok (.putfield 39, 3) := by decide +kernel
theorem dX4_readOrder_153 : decode cX4_readOrder 153 = .ok (.goto 50, 3) := by decide +kernel
theorem dX4_readOrder_156 : decode cX4_readOrder 156 = .ok (.aload_n 0, 1) := by decide +kernel
theorem dX4_readOrder_157 : decode cX4_readOrder 157 = .ok (.dup, 1) := by decide +kernel
theorem dX4_readOrder_158 : decode cX4_readOrder 158 = .ok (.getfield 15, 3) := by decide +kernel
theorem dX4_readOrder_161 : decode cX4_readOrder 161 = .ok (.iconst 1, 1) := by decide +kernel
theorem dX4_readOrder_162 : decode cX4_readOrder 162 = .ok (.iadd, 1) := by decide +kernel
theorem dX4_readOrder_163 : decode cX4_readOrder 163 = .ok (.putfield 15, 3) := by decide +kernel
theorem dX4_readOrder_166 : decode cX4_readOrder 166 = .ok (.aload_n 0, 1) := by decide +kernel
theorem dX4_readOrder_167 : decode cX4_readOrder 167 = .ok (.aload_n 0, 1) := by decide +kernel
theorem dX4_readOrder_168 : decode cX4_readOrder 168 = .ok (.iload_n 1, 1) := by decide +kernel
theorem dX4_readOrder_169 : decode cX4_readOrder 169 = .ok (.invokevirtual 45, 3) := by decide +kernel
theorem dX4_readOrder_172 : decode cX4_readOrder 172 = .ok (.putfield 39, 3) := by decide +kernel
theorem dX4_readOrder_175 : decode cX4_readOrder 175 = .ok (.aload_n 0, 1) := by decide +kernel
theorem dX4_readOrder_176 : decode cX4_readOrder 176 = .ok (.bipush 44, 2) := by decide +kernel
theorem dX4_readOrder_178 : decode cX4_readOrder 178 = .ok (.invokevirtual 62, 3) := by decide +kernel
theorem dX4_readOrder_181 : decode cX4_readOrder 181 = .ok (.aload_n 0, 1) := by decide +kernel
theorem dX4_readOrder_182 : decode cX4_readOrder 182 = .ok (.aload_n 0, 1) := by decide +kernel
theorem dX4_readOrder_183 : decode cX4_readOrder 183 = .ok (.iconst 1, 1) := by decide +kernel
theorem dX4_readOrder_184 : decode cX4_readOrder 184 = .ok (.bipush 32, 2) := by decide +kernel
theorem dX4_readOrder_186 : decode cX4_readOrder 186 = .ok (.invokevirtual 52, 3) := by decide +kernel
theorem dX4_readOrder_189 : decode cX4_readOrder 189 = .ok (.putfield 56, 3) := by decide +kernel
theorem dX4_readOrder_192 : decode cX4_readOrder 192 = .ok (.goto 11, 3) := by decide +kernel
theorem dX4_readOrder_195 : decode cX4_readOrder 195 = .ok (.aload_n 0, 1) := by decide +kernel
theorem dX4_readOrder_196 : decode cX4_readOrder 196 = .ok (.aload_n 0, 1) := by decide +kernel
theorem dX4_readOrder_197 : decode cX4_readOrder 197 = .ok (.getfield 15, 3) := by decide +kernel
theorem dX4_readOrder_200 : decode cX4_readOrder 200 = .ok (.putfield 19, 3) := by decide +kernel
theorem dX4_readOrder_203 : decode cX4_readOrder 203 = .ok (.aload_n 0, 1) := by decide +kernel
theorem dX4_readOrder_204 : decode cX4_readOrder 204 = .ok (.bipush 59, 2) := by decide +kernel
theorem dX4_readOrder_206 : decode cX4_readOrder 206 = .ok (.invokevirtual 62, 3) := by decide +kernel
theorem dX4_readOrder_209 : decode cX4_readOrder 209 = .ok (.return_, 1) := by decide +kernel
theorem dX4_readCount_0 : decode cX4_readCount 0 = .ok (.aload_n 0, 1) := by decide +kernel
theorem dX4_readCount_1 : decode cX4_readCount 1 = .ok (.getfield 19, 3) := by decide +kernel
theorem dX4_readCount_4 : decode cX4_readCount 4 = .ok (.iconst (-1), 1) := by decide +kernel
theorem dX4_readCount_5 : decode cX4_readCount 5 = .ok (.if_icmp .ne 33, 3) := by decide +kernel
theorem dX4_readCount_8 : decode cX4_readCount 8 = .ok (.aload_n 0, 1) := by decide +kernel
theorem dX4_readCount_9 : decode cX4_readCount 9 = .ok (.invokevirtual 32, 3) := by decide +kernel
theorem dX4_readCount_12 : decode cX4_readCount 12 = .ok (.bipush 42, 2) := by decide +kernel
theorem dX4_readCount_14 : decode cX4_readCount 14 = .ok (.if_icmp .ne 24, 3) := by decide +kernel
theorem dX4_readCount_17 : decode cX4_readCount 17 = .ok (.aload_n 0, 1) := by decide +kernel
theorem dX4_readCount_18 : decode cX4_readCount 18 = .ok (.dup, 1) := by decide +kernel
theorem dX4_readCount_19 : decode cX4_readCount 19 = .ok (.getfield 15, 3) := by decide +kernel
theorem dX4_readCount_22 : decode cX4_readCount 22 = .ok (.iconst 1, 1) := by decide +kernel
theorem dX4_readCount_23 : decode cX4_readCount 23 = .ok (.iadd, 1) := by decide +kernel
theorem dX4_readCount_24 : decode cX4_readCount 24 = .ok (.putfield 15, 3) := by decide +kernel
theorem dX4_readCount_27 : decode cX4_readCount 27 = .ok (.aload_n 0, 1) := by decide +kernel
theorem dX4_readCount_28 : decode cX4_readCount 28 = .ok (.aload_n 0, 1) := by decide +kernel
theorem dX4_readCount_29 : decode cX4_readCount 29 = .ok (.iconst 2, 1) := by decide +kernel
theorem dX4_readCount_30 : decode cX4_readCount 30 = .ok (.bipush 9, 2) := by decide +kernel
theorem dX4_readCount_32 : decode cX4_readCount 32 = .ok (.invokevirtual 52, 3) := by decide +kernel
theorem dX4_readCount_35 : decode cX4_readCount 35 = .ok (.putfield 42, 3) := by decide +kernel
theorem dX4_readCount_38 : decode cX4_readCount 38 = .ok (.return_, 1) := by decide +kernel
theorem dX4_letterHere_0 : decode cX4_letterHere 0 = .ok (.aload_n 0, 1) := by decide +kernel
theorem dX4_letterHere_1 : decode cX4_letterHere 1 = .ok (.getfield 15, 3) := by decide +kernel
theorem dX4_letterHere_4 : decode cX4_letterHere 4 = .ok (.ifCond .lt 35, 3) := by decide +kernel
theorem dX4_letterHere_7 : decode cX4_letterHere 7 = .ok (.aload_n 0, 1) := by decide +kernel
theorem dX4_letterHere_8 : decode cX4_letterHere 8 = .ok (.getfield 15, 3) := by decide +kernel
theorem dX4_letterHere_11 : decode cX4_letterHere 11 = .ok (.aload_n 0, 1) := by decide +kernel
theorem dX4_letterHere_12 : decode cX4_letterHere 12 = .ok (.getfield 22, 3) := by decide +kernel
theorem dX4_letterHere_15 : decode cX4_letterHere 15 = .ok (.if_icmp .ge 24, 3) := by decide +kernel
theorem dX4_letterHere_18 : decode cX4_letterHere 18 = .ok (.aload_n 0, 1) := by decide +kernel
theorem dX4_letterHere_19 : decode cX4_letterHere 19 = .ok (.getfield 15, 3) := by decide +kernel
theorem dX4_letterHere_22 : decode cX4_letterHere 22 = .ok (.bipush 120, 2) := by decide +kernel
theorem dX4_letterHere_24 : decode cX4_letterHere 24 = .ok (.if_icmp .ge 15, 3) := by decide +kernel
theorem dX4_letterHere_27 : decode cX4_letterHere 27 = .ok (.aload_n 0, 1) := by decide +kernel
theorem dX4_letterHere_28 : decode cX4_letterHere 28 = .ok (.getfield 9, 3) := by decide +kernel
theorem dX4_letterHere_31 : decode cX4_letterHere 31 = .ok (.aload_n 0, 1) := by decide +kernel
theorem dX4_letterHere_32 : decode cX4_letterHere 32 = .ok (.getfield 15, 3) := by decide +kernel
theorem dX4_letterHere_35 : decode cX4_letterHere 35 = .ok (.iaload, 1) := by decide +kernel
theorem dX4_letterHere_36 : decode cX4_letterHere 36 = .ok (.goto 4, 3) := by decide +kernel
theorem dX4_letterHere_39 : decode cX4_letterHere 39 = .ok (.iconst (-1), 1) := by decide +kernel
theorem dX4_letterHere_40 : decode cX4_letterHere 40 = .ok (.ireturn, 1) := by decide +kernel
theorem dX4_expect_0 : decode cX4_expect 0 = .ok (.aload_n 0, 1) := by decide +kernel
theorem dX4_expect_1 : decode cX4_expect 1 = .ok (.getfield 19, 3) := by decide +kernel
theorem dX4_expect_4 : decode cX4_expect 4 = .ok (.iconst (-1), 1) := by decide +kernel
theorem dX4_expect_5 : decode cX4_expect 5 = .ok (.if_icmp .eq 4, 3) := by decide +kernel
theorem dX4_expect_8 : decode cX4_expect 8 = .ok (.return_, 1) := by decide +kernel
theorem dX4_expect_9 : decode cX4_expect 9 = .ok (.aload_n 0, 1) := by decide +kernel
theorem dX4_expect_10 : decode cX4_expect 10 = .ok (.invokevirtual 32, 3) := by decide +kernel
theorem dX4_expect_13 : decode cX4_expect 13 = .ok (.iload_n 1, 1) := by decide +kernel
theorem dX4_expect_14 : decode cX4_expect 14 = .ok (.if_icmp .ne 16, 3) := by decide +kernel
theorem dX4_expect_17 : decode cX4_expect 17 = .ok (.aload_n 0, 1) := by decide +kernel
theorem dX4_expect_18 : decode cX4_expect 18 = .ok (.dup, 1) := by decide +kernel
theorem dX4_expect_19 : decode cX4_expect 19 = .ok (.getfield 15, 3) := by decide +kernel
theorem dX4_expect_22 : decode cX4_expect 22 = .ok (.iconst 1, 1) := by decide +kernel
theorem dX4_expect_23 : decode cX4_expect 23 = .ok (.iadd, 1) := by decide +kernel
theorem dX4_expect_24 : decode cX4_expect 24 = .ok (.putfield 15, 3) := by decide +kernel
theorem dX4_expect_27 : decode cX4_expect 27 = .ok (.goto 11, 3) := by decide +kernel
theorem dX4_expect_30 : decode cX4_expect 30 = .ok (.aload_n 0, 1) := by decide +kernel
theorem dX4_expect_31 : decode cX4_expect 31 = .ok (.aload_n 0, 1) := by decide +kernel
theorem dX4_expect_32 : decode cX4_expect 32 = .ok (.getfield 15, 3) := by decide +kernel
theorem dX4_expect_35 : decode cX4_expect 35 = .ok (.putfield 19, 3) := by decide +kernel
theorem dX4_expect_38 : decode cX4_expect 38 = .ok (.return_, 1) := by decide +kernel
theorem dX4_readDigit_0 : decode cX4_readDigit 0 = .ok (.aload_n 0, 1) := by decide +kernel
theorem dX4_readDigit_1 : decode cX4_readDigit 1 = .ok (.invokevirtual 32, 3) := by decide +kernel
theorem dX4_readDigit_4 : decode cX4_readDigit 4 = .ok (.bipush 48, 2) := by decide +kernel
theorem dX4_readDigit_6 : decode cX4_readDigit 6 = .ok (.isub, 1) := by decide +kernel
theorem dX4_readDigit_7 : decode cX4_readDigit 7 = .ok (.istore_n 2, 1) := by decide +kernel
theorem dX4_readDigit_8 : decode cX4_readDigit 8 = .ok (.aload_n 0, 1) := by decide +kernel
theorem dX4_readDigit_9 : decode cX4_readDigit 9 = .ok (.getfield 19, 3) := by decide +kernel
theorem dX4_readDigit_12 : decode cX4_readDigit 12 = .ok (.iconst (-1), 1) := by decide +kernel
theorem dX4_readDigit_13 : decode cX4_readDigit 13 = .ok (.if_icmp .eq 5, 3) := by decide +kernel
theorem dX4_readDigit_16 : decode cX4_readDigit 16 = .ok (.iconst 0, 1) := by decide +kernel
theorem dX4_readDigit_17 : decode cX4_readDigit 17 = .ok (.ireturn, 1) := by decide +kernel
theorem dX4_readDigit_18 : decode cX4_readDigit 18 = .ok (.iload_n 2, 1) := by decide +kernel
theorem dX4_readDigit_19 : decode cX4_readDigit 19 = .ok (.ifCond .lt 8, 3) := by decide +kernel
theorem dX4_readDigit_22 : decode cX4_readDigit 22 = .ok (.iload_n 2, 1) := by decide +kernel
theorem dX4_readDigit_23 : decode cX4_readDigit 23 = .ok (.iload_n 1, 1) := by decide +kernel
theorem dX4_readDigit_24 : decode cX4_readDigit 24 = .ok (.if_icmp .lt 13, 3) := by decide +kernel
theorem dX4_readDigit_27 : decode cX4_readDigit 27 = .ok (.aload_n 0, 1) := by decide +kernel
theorem dX4_readDigit_28 : decode cX4_readDigit 28 = .ok (.aload_n 0, 1) := by decide +kernel
theorem dX4_readDigit_29 : decode cX4_readDigit 29 = .ok (.getfield 15, 3) := by decide +kernel
theorem dX4_readDigit_32 : decode cX4_readDigit 32 = .ok (.putfield 19, 3) := by decide +kernel
theorem dX4_readDigit_35 : decode cX4_readDigit 35 = .ok (.iconst 0, 1) := by decide +kernel
theorem dX4_readDigit_36 : decode cX4_readDigit 36 = .ok (.ireturn, 1) := by decide +kernel
theorem dX4_readDigit_37 : decode cX4_readDigit 37 = .ok (.aload_n 0, 1) := by decide +kernel
theorem dX4_readDigit_38 : decode cX4_readDigit 38 = .ok (.dup, 1) := by decide +kernel
theorem dX4_readDigit_39 : decode cX4_readDigit 39 = .ok (.getfield 15, 3) := by decide +kernel
theorem dX4_readDigit_42 : decode cX4_readDigit 42 = .ok (.iconst 1, 1) := by decide +kernel
theorem dX4_readDigit_43 : decode cX4_readDigit 43 = .ok (.iadd, 1) := by decide +kernel
theorem dX4_readDigit_44 : decode cX4_readDigit 44 = .ok (.putfield 15, 3) := by decide +kernel
theorem dX4_readDigit_47 : decode cX4_readDigit 47 = .ok (.iload_n 2, 1) := by decide +kernel
theorem dX4_readDigit_48 : decode cX4_readDigit 48 = .ok (.ireturn, 1) := by decide +kernel
theorem dX4_readNumber_0 : decode cX4_readNumber 0 = .ok (.aload_n 0, 1) := by decide +kernel
theorem dX4_readNumber_1 : decode cX4_readNumber 1 = .ok (.getfield 19, 3) := by decide +kernel
theorem dX4_readNumber_4 : decode cX4_readNumber 4 = .ok (.iconst (-1), 1) := by decide +kernel
theorem dX4_readNumber_5 : decode cX4_readNumber 5 = .ok (.if_icmp .eq 5, 3) := by decide +kernel
theorem dX4_readNumber_8 : decode cX4_readNumber 8 = .ok (.iload_n 1, 1) := by decide +kernel
theorem dX4_readNumber_9 : decode cX4_readNumber 9 = .ok (.ireturn, 1) := by decide +kernel
theorem dX4_readNumber_10 : decode cX4_readNumber 10 = .ok (.aload_n 0, 1) := by decide +kernel
theorem dX4_readNumber_11 : decode cX4_readNumber 11 = .ok (.getfield 15, 3) := by decide +kernel
theorem dX4_readNumber_14 : decode cX4_readNumber 14 = .ok (.istore_n 3, 1) := by decide +kernel
theorem dX4_readNumber_15 : decode cX4_readNumber 15 = .ok (.aload_n 0, 1) := by decide +kernel
theorem dX4_readNumber_16 : decode cX4_readNumber 16 = .ok (.invokevirtual 32, 3) := by decide +kernel
theorem dX4_readNumber_19 : decode cX4_readNumber 19 = .ok (.istore 4, 2) := by decide +kernel
theorem dX4_readNumber_21 : decode cX4_readNumber 21 = .ok (.iconst 0, 1) := by decide +kernel
theorem dX4_readNumber_22 : decode cX4_readNumber 22 = .ok (.istore 5, 2) := by decide +kernel
theorem dX4_readNumber_24 : decode cX4_readNumber 24 = .ok (.aload_n 0, 1) := by decide +kernel
theorem dX4_readNumber_25 : decode cX4_readNumber 25 = .ok (.getfield 15, 3) := by decide +kernel
theorem dX4_readNumber_28 : decode cX4_readNumber 28 = .ok (.aload_n 0, 1) := by decide +kernel
theorem dX4_readNumber_29 : decode cX4_readNumber 29 = .ok (.getfield 22, 3) := by decide +kernel
theorem dX4_readNumber_32 : decode cX4_readNumber 32 = .ok (.if_icmp .ge 55, 3) := by decide +kernel
theorem dX4_readNumber_35 : decode cX4_readNumber 35 = .ok (.aload_n 0, 1) := by decide +kernel
theorem dX4_readNumber_36 : decode cX4_readNumber 36 = .ok (.invokevirtual 32, 3) := by decide +kernel
theorem dX4_readNumber_39 : decode cX4_readNumber 39 = .ok (.bipush 48, 2) := by decide +kernel
theorem dX4_readNumber_41 : decode cX4_readNumber 41 = .ok (.if_icmp .lt 46, 3) := by decide +kernel
theorem dX4_readNumber_44 : decode cX4_readNumber 44 = .ok (.aload_n 0, 1) := by decide +kernel
theorem dX4_readNumber_45 : decode cX4_readNumber 45 = .ok (.invokevirtual 32, 3) := by decide +kernel
theorem dX4_readNumber_48 : decode cX4_readNumber 48 = .ok (.bipush 57, 2) := by decide +kernel
theorem dX4_readNumber_50 : decode cX4_readNumber 50 = .ok (.if_icmp .gt 37, 3) := by decide +kernel
theorem dX4_readNumber_53 : decode cX4_readNumber 53 = .ok (.sipush 999, 3) := by decide +kernel
theorem dX4_readNumber_56 : decode cX4_readNumber 56 = .ok (.iload 5, 2) := by decide +kernel
theorem dX4_readNumber_58 : decode cX4_readNumber 58 = .ok (.bipush 10, 2) := by decide +kernel
theorem dX4_readNumber_60 : decode cX4_readNumber 60 = .ok (.imul, 1) := by decide +kernel
theorem dX4_readNumber_61 : decode cX4_readNumber 61 = .ok (.aload_n 0, 1) := by decide +kernel
theorem dX4_readNumber_62 : decode cX4_readNumber 62 = .ok (.invokevirtual 32, 3) := by decide +kernel
theorem dX4_readNumber_65 : decode cX4_readNumber 65 = .ok (.iadd, 1) := by decide +kernel
theorem dX4_readNumber_66 : decode cX4_readNumber 66 = .ok (.bipush 48, 2) := by decide +kernel
theorem dX4_readNumber_68 : decode cX4_readNumber 68 = .ok (.isub, 1) := by decide +kernel
theorem dX4_readNumber_69 : decode cX4_readNumber 69 = .ok (.invokestatic 65, 3) := by decide +kernel
theorem dX4_readNumber_72 : decode cX4_readNumber 72 = .ok (.istore 5, 2) := by decide +kernel
theorem dX4_readNumber_74 : decode cX4_readNumber 74 = .ok (.aload_n 0, 1) := by decide +kernel
theorem dX4_readNumber_75 : decode cX4_readNumber 75 = .ok (.dup, 1) := by decide +kernel
theorem dX4_readNumber_76 : decode cX4_readNumber 76 = .ok (.getfield 15, 3) := by decide +kernel
theorem dX4_readNumber_79 : decode cX4_readNumber 79 = .ok (.iconst 1, 1) := by decide +kernel
theorem dX4_readNumber_80 : decode cX4_readNumber 80 = .ok (.iadd, 1) := by decide +kernel
theorem dX4_readNumber_81 : decode cX4_readNumber 81 = .ok (.putfield 15, 3) := by decide +kernel
theorem dX4_readNumber_84 : decode cX4_readNumber 84 = .ok (.goto (-60), 3) := by decide +kernel
theorem dX4_readNumber_87 : decode cX4_readNumber 87 = .ok (.iload 4, 2) := by decide +kernel
theorem dX4_readNumber_89 : decode cX4_readNumber 89 = .ok (.bipush 48, 2) := by decide +kernel
theorem dX4_readNumber_91 : decode cX4_readNumber 91 = .ok (.if_icmp .eq 15, 3) := by decide +kernel
theorem dX4_readNumber_94 : decode cX4_readNumber 94 = .ok (.iload 5, 2) := by decide +kernel
theorem dX4_readNumber_96 : decode cX4_readNumber 96 = .ok (.iload_n 1, 1) := by decide +kernel
theorem dX4_readNumber_97 : decode cX4_readNumber 97 = .ok (.if_icmp .lt 9, 3) := by decide +kernel
theorem dX4_readNumber_100 : decode cX4_readNumber 100 = .ok (.iload 5, 2) := by decide +kernel
theorem dX4_readNumber_102 : decode cX4_readNumber 102 = .ok (.iload_n 2, 1) := by decide +kernel
theorem dX4_readNumber_103 : decode cX4_readNumber 103 = .ok (.if_icmp .le 8, 3) := by decide +kernel
theorem dX4_readNumber_106 : decode cX4_readNumber 106 = .ok (.aload_n 0, 1) := by decide +kernel
theorem dX4_readNumber_107 : decode cX4_readNumber 107 = .ok (.iload_n 3, 1) := by decide +kernel
theorem dX4_readNumber_108 : decode cX4_readNumber 108 = .ok (.putfield 19, 3) := by decide +kernel
theorem dX4_readNumber_111 : decode cX4_readNumber 111 = .ok (.iload 5, 2) := by decide +kernel
theorem dX4_readNumber_113 : decode cX4_readNumber 113 = .ok (.ireturn, 1) := by decide +kernel
