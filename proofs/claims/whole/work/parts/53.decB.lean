theorem dX0_init_0 : decode cX0_init 0 = .ok (.aload_n 0, 1) := by decide +kernel
theorem dX0_init_1 : decode cX0_init 1 = .ok (.invokespecial 3, 3) := by decide +kernel
theorem dX0_init_4 : decode cX0_init 4 = .ok (.aload_n 0, 1) := by decide +kernel
theorem dX0_init_5 : decode cX0_init 5 = .ok (.new 9, 3) := by decide +kernel
theorem dX0_init_8 : decode cX0_init 8 = .ok (.dup, 1) := by decide +kernel
theorem dX0_init_9 : decode cX0_init 9 = .ok (.invokespecial 11, 3) := by decide +kernel
theorem dX0_init_12 : decode cX0_init 12 = .ok (.putfield 12, 3) := by decide +kernel
theorem dX0_init_15 : decode cX0_init 15 = .ok (.aload_n 0, 1) := by decide +kernel
theorem dX0_init_16 : decode cX0_init 16 = .ok (.bipush 6, 2) := by decide +kernel
theorem dX0_init_18 : decode cX0_init 18 = .ok (.anewarray 18, 3) := by decide +kernel
theorem dX0_init_21 : decode cX0_init 21 = .ok (.putfield 20, 3) := by decide +kernel
theorem dX0_init_24 : decode cX0_init 24 = .ok (.iconst 0, 1) := by decide +kernel
theorem dX0_init_25 : decode cX0_init 25 = .ok (.istore_n 1, 1) := by decide +kernel
theorem dX0_init_26 : decode cX0_init 26 = .ok (.iload_n 1, 1) := by decide +kernel
theorem dX0_init_27 : decode cX0_init 27 = .ok (.bipush 6, 2) := by decide +kernel
theorem dX0_init_29 : decode cX0_init 29 = .ok (.if_icmp .ge 22, 3) := by decide +kernel
theorem dX0_init_32 : decode cX0_init 32 = .ok (.aload_n 0, 1) := by decide +kernel
theorem dX0_init_33 : decode cX0_init 33 = .ok (.getfield 20, 3) := by decide +kernel
theorem dX0_init_36 : decode cX0_init 36 = .ok (.iload_n 1, 1) := by decide +kernel
theorem dX0_init_37 : decode cX0_init 37 = .ok (.new 18, 3) := by decide +kernel
theorem dX0_init_40 : decode cX0_init 40 = .ok (.dup, 1) := by decide +kernel
theorem dX0_init_41 : decode cX0_init 41 = .ok (.invokespecial 24, 3) := by decide +kernel
theorem dX0_init_44 : decode cX0_init 44 = .ok (.aastore, 1) := by decide +kernel
theorem dX0_init_45 : decode cX0_init 45 = .ok (.iinc 1 1, 3) := by decide +kernel
theorem dX0_init_48 : decode cX0_init 48 = .ok (.goto (-22), 3) := by decide +kernel
theorem dX0_init_51 : decode cX0_init 51 = .ok (.aload_n 0, 1) := by decide +kernel
theorem dX0_init_52 : decode cX0_init 52 = .ok (.iconst 4, 1) := by decide +kernel
theorem dX0_init_53 : decode cX0_init 53 = .ok (.newarray .int, 2) := by decide +kernel
theorem dX0_init_55 : decode cX0_init 55 = .ok (.putfield 25, 3) := by decide +kernel
theorem dX0_init_58 : decode cX0_init 58 = .ok (.aload_n 0, 1) := by decide +kernel
theorem dX0_init_59 : decode cX0_init 59 = .ok (.iconst 4, 1) := by decide +kernel
theorem dX0_init_60 : decode cX0_init 60 = .ok (.newarray .int, 2) := by decide +kernel
theorem dX0_init_62 : decode cX0_init 62 = .ok (.putfield 29, 3) := by decide +kernel
theorem dX0_init_65 : decode cX0_init 65 = .ok (.return_, 1) := by decide +kernel
theorem dX0_startAnew_0 : decode cX0_startAnew 0 = .ok (.aload_n 0, 1) := by decide +kernel
theorem dX0_startAnew_1 : decode cX0_startAnew 1 = .ok (.getfield 12, 3) := by decide +kernel
theorem dX0_startAnew_4 : decode cX0_startAnew 4 = .ok (.iload_n 1, 1) := by decide +kernel
theorem dX0_startAnew_5 : decode cX0_startAnew 5 = .ok (.invokevirtual 32, 3) := by decide +kernel
theorem dX0_startAnew_8 : decode cX0_startAnew 8 = .ok (.aload_n 0, 1) := by decide +kernel
theorem dX0_startAnew_9 : decode cX0_startAnew 9 = .ok (.getfield 20, 3) := by decide +kernel
theorem dX0_startAnew_12 : decode cX0_startAnew 12 = .ok (.astore_n 3, 1) := by decide +kernel
theorem dX0_startAnew_13 : decode cX0_startAnew 13 = .ok (.aload_n 3, 1) := by decide +kernel
theorem dX0_startAnew_14 : decode cX0_startAnew 14 = .ok (.arraylength, 1) := by decide +kernel
theorem dX0_startAnew_15 : decode cX0_startAnew 15 = .ok (.istore 4, 2) := by decide +kernel
theorem dX0_startAnew_17 : decode cX0_startAnew 17 = .ok (.iconst 0, 1) := by decide +kernel
theorem dX0_startAnew_18 : decode cX0_startAnew 18 = .ok (.istore 5, 2) := by decide +kernel
theorem dX0_startAnew_20 : decode cX0_startAnew 20 = .ok (.iload 5, 2) := by decide +kernel
theorem dX0_startAnew_22 : decode cX0_startAnew 22 = .ok (.iload 4, 2) := by decide +kernel
theorem dX0_startAnew_24 : decode cX0_startAnew 24 = .ok (.if_icmp .ge 20, 3) := by decide +kernel
theorem dX0_startAnew_27 : decode cX0_startAnew 27 = .ok (.aload_n 3, 1) := by decide +kernel
theorem dX0_startAnew_28 : decode cX0_startAnew 28 = .ok (.iload 5, 2) := by decide +kernel
theorem dX0_startAnew_30 : decode cX0_startAnew 30 = .ok (.aaload, 1) := by decide +kernel
theorem dX0_startAnew_31 : decode cX0_startAnew 31 = .ok (.astore 6, 2) := by decide +kernel
theorem dX0_startAnew_33 : decode cX0_startAnew 33 = .ok (.aload 6, 2) := by decide +kernel
theorem dX0_startAnew_35 : decode cX0_startAnew 35 = .ok (.invokevirtual 36, 3) := by decide +kernel
theorem dX0_startAnew_38 : decode cX0_startAnew 38 = .ok (.iinc 5 1, 3) := by decide +kernel
theorem dX0_startAnew_41 : decode cX0_startAnew 41 = .ok (.goto (-21), 3) := by decide +kernel
theorem dX0_startAnew_44 : decode cX0_startAnew 44 = .ok (.aload_n 0, 1) := by decide +kernel
theorem dX0_startAnew_45 : decode cX0_startAnew 45 = .ok (.iload_n 2, 1) := by decide +kernel
theorem dX0_startAnew_46 : decode cX0_startAnew 46 = .ok (.putfield 38, 3) := by decide +kernel
theorem dX0_startAnew_49 : decode cX0_startAnew 49 = .ok (.aload_n 0, 1) := by decide +kernel
theorem dX0_startAnew_50 : decode cX0_startAnew 50 = .ok (.iconst 0, 1) := by decide +kernel
theorem dX0_startAnew_51 : decode cX0_startAnew 51 = .ok (.putfield 42, 3) := by decide +kernel
theorem dX0_startAnew_54 : decode cX0_startAnew 54 = .ok (.aload_n 0, 1) := by decide +kernel
theorem dX0_startAnew_55 : decode cX0_startAnew 55 = .ok (.iconst 0, 1) := by decide +kernel
theorem dX0_startAnew_56 : decode cX0_startAnew 56 = .ok (.putfield 46, 3) := by decide +kernel
theorem dX0_startAnew_59 : decode cX0_startAnew 59 = .ok (.aload_n 0, 1) := by decide +kernel
theorem dX0_startAnew_60 : decode cX0_startAnew 60 = .ok (.iconst 0, 1) := by decide +kernel
theorem dX0_startAnew_61 : decode cX0_startAnew 61 = .ok (.putfield 49, 3) := by decide +kernel
theorem dX0_startAnew_64 : decode cX0_startAnew 64 = .ok (.aload_n 0, 1) := by decide +kernel
theorem dX0_startAnew_65 : decode cX0_startAnew 65 = .ok (.iconst (-1), 1) := by decide +kernel
theorem dX0_startAnew_66 : decode cX0_startAnew 66 = .ok (.putfield 52, 3) := by decide +kernel
theorem dX0_startAnew_69 : decode cX0_startAnew 69 = .ok (.aload_n 0, 1) := by decide +kernel
theorem dX0_startAnew_70 : decode cX0_startAnew 70 = .ok (.iconst (-1), 1) := by decide +kernel
theorem dX0_startAnew_71 : decode cX0_startAnew 71 = .ok (.putfield 55, 3) := by decide +kernel
theorem dX0_startAnew_74 : decode cX0_startAnew 74 = .ok (.aload_n 0, 1) := by decide +kernel
theorem dX0_startAnew_75 : decode cX0_startAnew 75 = .ok (.iconst 0, 1) := by decide +kernel
theorem dX0_startAnew_76 : decode cX0_startAnew 76 = .ok (.putfield 58, 3) := by decide +kernel
theorem dX0_startAnew_79 : decode cX0_startAnew 79 = .ok (.return_, 1) := by decide +kernel
theorem dX0_copyFrom_0 : decode cX0_copyFrom 0 = .ok (.aload_n 0, 1) := by decide +kernel
theorem dX0_copyFrom_1 : decode cX0_copyFrom 1 = .ok (.getfield 12, 3) := by decide +kernel
theorem dX0_copyFrom_4 : decode cX0_copyFrom 4 = .ok (.aload_n 1, 1) := by decide +kernel
theorem dX0_copyFrom_5 : decode cX0_copyFrom 5 = .ok (.getfield 12, 3) := by decide +kernel
theorem dX0_copyFrom_8 : decode cX0_copyFrom 8 = .ok (.invokevirtual 61, 3) := by decide +kernel
theorem dX0_copyFrom_11 : decode cX0_copyFrom 11 = .ok (.iconst 0, 1) := by decide +kernel
theorem dX0_copyFrom_12 : decode cX0_copyFrom 12 = .ok (.istore_n 2, 1) := by decide +kernel
theorem dX0_copyFrom_13 : decode cX0_copyFrom 13 = .ok (.iload_n 2, 1) := by decide +kernel
theorem dX0_copyFrom_14 : decode cX0_copyFrom 14 = .ok (.bipush 6, 2) := by decide +kernel
theorem dX0_copyFrom_16 : decode cX0_copyFrom 16 = .ok (.if_icmp .ge 24, 3) := by decide +kernel
theorem dX0_copyFrom_19 : decode cX0_copyFrom 19 = .ok (.aload_n 0, 1) := by decide +kernel
theorem dX0_copyFrom_20 : decode cX0_copyFrom 20 = .ok (.getfield 20, 3) := by decide +kernel
theorem dX0_copyFrom_23 : decode cX0_copyFrom 23 = .ok (.iload_n 2, 1) := by decide +kernel
theorem dX0_copyFrom_24 : decode cX0_copyFrom 24 = .ok (.aaload, 1) := by decide +kernel
theorem dX0_copyFrom_25 : decode cX0_copyFrom 25 = .ok (.aload_n 1, 1) := by decide +kernel
theorem dX0_copyFrom_26 : decode cX0_copyFrom 26 = .ok (.getfield 20, 3) := by decide +kernel
theorem dX0_copyFrom_29 : decode cX0_copyFrom 29 = .ok (.iload_n 2, 1) := by decide +kernel
theorem dX0_copyFrom_30 : decode cX0_copyFrom 30 = .ok (.aaload, 1) := by decide +kernel
theorem dX0_copyFrom_31 : decode cX0_copyFrom 31 = .ok (.invokevirtual 65, 3) := by decide +kernel
theorem dX0_copyFrom_34 : decode cX0_copyFrom 34 = .ok (.iinc 2 1, 3) := by decide +kernel
theorem dX0_copyFrom_37 : decode cX0_copyFrom 37 = .ok (.goto (-24), 3) := by decide +kernel
theorem dX0_copyFrom_40 : decode cX0_copyFrom 40 = .ok (.aload_n 0, 1) := by decide +kernel
theorem dX0_copyFrom_41 : decode cX0_copyFrom 41 = .ok (.aload_n 1, 1) := by decide +kernel
theorem dX0_copyFrom_42 : decode cX0_copyFrom 42 = .ok (.getfield 38, 3) := by decide +kernel
theorem dX0_copyFrom_45 : decode cX0_copyFrom 45 = .ok (.putfield 38, 3) := by decide +kernel
theorem dX0_copyFrom_48 : decode cX0_copyFrom 48 = .ok (.aload_n 0, 1) := by decide +kernel
theorem dX0_copyFrom_49 : decode cX0_copyFrom 49 = .ok (.aload_n 1, 1) := by decide +kernel
theorem dX0_copyFrom_50 : decode cX0_copyFrom 50 = .ok (.getfield 42, 3) := by decide +kernel
theorem dX0_copyFrom_53 : decode cX0_copyFrom 53 = .ok (.putfield 42, 3) := by decide +kernel
theorem dX0_copyFrom_56 : decode cX0_copyFrom 56 = .ok (.aload_n 0, 1) := by decide +kernel
theorem dX0_copyFrom_57 : decode cX0_copyFrom 57 = .ok (.aload_n 1, 1) := by decide +kernel
theorem dX0_copyFrom_58 : decode cX0_copyFrom 58 = .ok (.getfield 46, 3) := by decide +kernel
theorem dX0_copyFrom_61 : decode cX0_copyFrom 61 = .ok (.putfield 46, 3) := by decide +kernel
theorem dX0_copyFrom_64 : decode cX0_copyFrom 64 = .ok (.aload_n 0, 1) := by decide +kernel
theorem dX0_copyFrom_65 : decode cX0_copyFrom 65 = .ok (.aload_n 1, 1) := by decide +kernel
theorem dX0_copyFrom_66 : decode cX0_copyFrom 66 = .ok (.getfield 49, 3) := by decide +kernel
theorem dX0_copyFrom_69 : decode cX0_copyFrom 69 = .ok (.putfield 49, 3) := by decide +kernel
theorem dX0_copyFrom_72 : decode cX0_copyFrom 72 = .ok (.aload_n 0, 1) := by decide +kernel
theorem dX0_copyFrom_73 : decode cX0_copyFrom 73 = .ok (.aload_n 1, 1) := by decide +kernel
theorem dX0_copyFrom_74 : decode cX0_copyFrom 74 = .ok (.getfield 52, 3) := by decide +kernel
theorem dX0_copyFrom_77 : decode cX0_copyFrom 77 = .ok (.putfield 52, 3) := by decide +kernel
theorem dX0_copyFrom_80 : decode cX0_copyFrom 80 = .ok (.aload_n 0, 1) := by decide +kernel
theorem dX0_copyFrom_81 : decode cX0_copyFrom 81 = .ok (.aload_n 1, 1) := by decide +kernel
theorem dX0_copyFrom_82 : decode cX0_copyFrom 82 = .ok (.getfield 55, 3) := by decide +kernel
theorem dX0_copyFrom_85 : decode cX0_copyFrom 85 = .ok (.putfield 55, 3) := by decide +kernel
theorem dX0_copyFrom_88 : decode cX0_copyFrom 88 = .ok (.aload_n 1, 1) := by decide +kernel
theorem dX0_copyFrom_89 : decode cX0_copyFrom 89 = .ok (.getfield 25, 3) := by decide +kernel
theorem dX0_copyFrom_92 : decode cX0_copyFrom 92 = .ok (.iconst 0, 1) := by decide +kernel
theorem dX0_copyFrom_93 : decode cX0_copyFrom 93 = .ok (.aload_n 0, 1) := by decide +kernel
theorem dX0_copyFrom_94 : decode cX0_copyFrom 94 = .ok (.getfield 25, 3) := by decide +kernel
theorem dX0_copyFrom_97 : decode cX0_copyFrom 97 = .ok (.iconst 0, 1) := by decide +kernel
theorem dX0_copyFrom_98 : decode cX0_copyFrom 98 = .ok (.iconst 4, 1) := by decide +kernel
theorem dX0_copyFrom_99 : decode cX0_copyFrom 99 = .ok (.invokestatic 68, 3) := by decide +kernel
theorem dX0_copyFrom_102 : decode cX0_copyFrom 102 = .ok (.aload_n 0, 1) := by decide +kernel
theorem dX0_copyFrom_103 : decode cX0_copyFrom 103 = .ok (.aload_n 1, 1) := by decide +kernel
theorem dX0_copyFrom_104 : decode cX0_copyFrom 104 = .ok (.getfield 58, 3) := by decide +kernel
theorem dX0_copyFrom_107 : decode cX0_copyFrom 107 = .ok (.putfield 58, 3) := by decide +kernel
theorem dX0_copyFrom_110 : decode cX0_copyFrom 110 = .ok (.return_, 1) := by decide +kernel
theorem dX0_portAt_0 : decode cX0_portAt 0 = .ok (.iload_n 1, 1) := by decide +kernel
theorem dX0_portAt_1 : decode cX0_portAt 1 = .ok (.ifCond .lt 20, 3) := by decide +kernel
theorem dX0_portAt_4 : decode cX0_portAt 4 = .ok (.iload_n 1, 1) := by decide +kernel
theorem dX0_portAt_5 : decode cX0_portAt 5 = .ok (.aload_n 0, 1) := by decide +kernel
theorem dX0_portAt_6 : decode cX0_portAt 6 = .ok (.getfield 38, 3) := by decide +kernel
theorem dX0_portAt_9 : decode cX0_portAt 9 = .ok (.if_icmp .ge 12, 3) := by decide +kernel
theorem dX0_portAt_12 : decode cX0_portAt 12 = .ok (.aload_n 0, 1) := by decide +kernel
theorem dX0_portAt_13 : decode cX0_portAt 13 = .ok (.getfield 20, 3) := by decide +kernel
theorem dX0_portAt_16 : decode cX0_portAt 16 = .ok (.iload_n 1, 1) := by decide +kernel
theorem dX0_portAt_17 : decode cX0_portAt 17 = .ok (.aaload, 1) := by decide +kernel
theorem dX0_portAt_18 : decode cX0_portAt 18 = .ok (.goto 4, 3) := by decide +kernel
theorem dX0_portAt_21 : decode cX0_portAt 21 = .ok (.aconst_null, 1) := by decide +kernel
theorem dX0_portAt_22 : decode cX0_portAt 22 = .ok (.areturn, 1) := by decide +kernel
theorem dX0_queueAt_0 : decode cX0_queueAt 0 = .ok (.iload_n 1, 1) := by decide +kernel
theorem dX0_queueAt_1 : decode cX0_queueAt 1 = .ok (.ifCond .lt 20, 3) := by decide +kernel
theorem dX0_queueAt_4 : decode cX0_queueAt 4 = .ok (.iload_n 1, 1) := by decide +kernel
theorem dX0_queueAt_5 : decode cX0_queueAt 5 = .ok (.aload_n 0, 1) := by decide +kernel
theorem dX0_queueAt_6 : decode cX0_queueAt 6 = .ok (.getfield 38, 3) := by decide +kernel
theorem dX0_queueAt_9 : decode cX0_queueAt 9 = .ok (.if_icmp .ge 12, 3) := by decide +kernel
theorem dX0_queueAt_12 : decode cX0_queueAt 12 = .ok (.iload_n 2, 1) := by decide +kernel
theorem dX0_queueAt_13 : decode cX0_queueAt 13 = .ok (.ifCond .lt 8, 3) := by decide +kernel
theorem dX0_queueAt_16 : decode cX0_queueAt 16 = .ok (.iload_n 2, 1) := by decide +kernel
theorem dX0_queueAt_17 : decode cX0_queueAt 17 = .ok (.iconst 3, 1) := by decide +kernel
theorem dX0_queueAt_18 : decode cX0_queueAt 18 = .ok (.if_icmp .lt 5, 3) := by decide +kernel
theorem dX0_queueAt_21 : decode cX0_queueAt 21 = .ok (.aconst_null, 1) := by decide +kernel
theorem dX0_queueAt_22 : decode cX0_queueAt 22 = .ok (.areturn, 1) := by decide +kernel
theorem dX0_queueAt_23 : decode cX0_queueAt 23 = .ok (.aload_n 0, 1) := by decide +kernel
theorem dX0_queueAt_24 : decode cX0_queueAt 24 = .ok (.getfield 20, 3) := by decide +kernel
theorem dX0_queueAt_27 : decode cX0_queueAt 27 = .ok (.iload_n 1, 1) := by decide +kernel
theorem dX0_queueAt_28 : decode cX0_queueAt 28 = .ok (.aaload, 1) := by decide +kernel
theorem dX0_queueAt_29 : decode cX0_queueAt 29 = .ok (.getfield 74, 3) := by decide +kernel
theorem dX0_queueAt_32 : decode cX0_queueAt 32 = .ok (.iload_n 2, 1) := by decide +kernel
theorem dX0_queueAt_33 : decode cX0_queueAt 33 = .ok (.aaload, 1) := by decide +kernel
theorem dX0_queueAt_34 : decode cX0_queueAt 34 = .ok (.areturn, 1) := by decide +kernel
theorem dX0_poolSize_0 : decode cX0_poolSize 0 = .ok (.aload_n 0, 1) := by decide +kernel
theorem dX0_poolSize_1 : decode cX0_poolSize 1 = .ok (.getfield 12, 3) := by decide +kernel
theorem dX0_poolSize_4 : decode cX0_poolSize 4 = .ok (.getfield 78, 3) := by decide +kernel
theorem dX0_poolSize_7 : decode cX0_poolSize 7 = .ok (.istore_n 1, 1) := by decide +kernel
theorem dX0_poolSize_8 : decode cX0_poolSize 8 = .ok (.iconst 0, 1) := by decide +kernel
theorem dX0_poolSize_9 : decode cX0_poolSize 9 = .ok (.istore_n 2, 1) := by decide +kernel
theorem dX0_poolSize_10 : decode cX0_poolSize 10 = .ok (.iload_n 2, 1) := by decide +kernel
theorem dX0_poolSize_11 : decode cX0_poolSize 11 = .ok (.aload_n 0, 1) := by decide +kernel
theorem dX0_poolSize_12 : decode cX0_poolSize 12 = .ok (.getfield 38, 3) := by decide +kernel
theorem dX0_poolSize_15 : decode cX0_poolSize 15 = .ok (.if_icmp .ge 33, 3) := by decide +kernel
theorem dX0_poolSize_18 : decode cX0_poolSize 18 = .ok (.aload_n 0, 1) := by decide +kernel
theorem dX0_poolSize_19 : decode cX0_poolSize 19 = .ok (.getfield 20, 3) := by decide +kernel
theorem dX0_poolSize_22 : decode cX0_poolSize 22 = .ok (.iload_n 2, 1) := by decide +kernel
theorem dX0_poolSize_23 : decode cX0_poolSize 23 = .ok (.aaload, 1) := by decide +kernel
theorem dX0_poolSize_24 : decode cX0_poolSize 24 = .ok (.astore_n 3, 1) := by decide +kernel
theorem dX0_poolSize_25 : decode cX0_poolSize 25 = .ok (.iload_n 1, 1) := by decide +kernel
theorem dX0_poolSize_26 : decode cX0_poolSize 26 = .ok (.aload_n 3, 1) := by decide +kernel
theorem dX0_poolSize_27 : decode cX0_poolSize 27 = .ok (.getfield 81, 3) := by decide +kernel
theorem dX0_poolSize_30 : decode cX0_poolSize 30 = .ok (.aload_n 3, 1) := by decide +kernel
theorem dX0_poolSize_31 : decode cX0_poolSize 31 = .ok (.getfield 84, 3) := by decide +kernel
theorem dX0_poolSize_34 : decode cX0_poolSize 34 = .ok (.iadd, 1) := by decide +kernel
theorem dX0_poolSize_35 : decode cX0_poolSize 35 = .ok (.aload_n 3, 1) := by decide +kernel
theorem dX0_poolSize_36 : decode cX0_poolSize 36 = .ok (.getfield 87, 3) := by decide +kernel
theorem dX0_poolSize_39 : decode cX0_poolSize 39 = .ok (.iadd, 1) := by decide +kernel
theorem dX0_poolSize_40 : decode cX0_poolSize 40 = .ok (.isub, 1) := by decide +kernel
theorem dX0_poolSize_41 : decode cX0_poolSize 41 = .ok (.istore_n 1, 1) := by decide +kernel
theorem dX0_poolSize_42 : decode cX0_poolSize 42 = .ok (.iinc 2 1, 3) := by decide +kernel
theorem dX0_poolSize_45 : decode cX0_poolSize 45 = .ok (.goto (-35), 3) := by decide +kernel
theorem dX0_poolSize_48 : decode cX0_poolSize 48 = .ok (.iload_n 1, 1) := by decide +kernel
theorem dX0_poolSize_49 : decode cX0_poolSize 49 = .ok (.ireturn, 1) := by decide +kernel
theorem dX0_sharedLeft_0 : decode cX0_sharedLeft 0 = .ok (.aload_n 0, 1) := by decide +kernel
theorem dX0_sharedLeft_1 : decode cX0_sharedLeft 1 = .ok (.invokevirtual 90, 3) := by decide +kernel
theorem dX0_sharedLeft_4 : decode cX0_sharedLeft 4 = .ok (.istore_n 1, 1) := by decide +kernel
theorem dX0_sharedLeft_5 : decode cX0_sharedLeft 5 = .ok (.iconst 0, 1) := by decide +kernel
theorem dX0_sharedLeft_6 : decode cX0_sharedLeft 6 = .ok (.istore_n 2, 1) := by decide +kernel
theorem dX0_sharedLeft_7 : decode cX0_sharedLeft 7 = .ok (.iload_n 2, 1) := by decide +kernel
theorem dX0_sharedLeft_8 : decode cX0_sharedLeft 8 = .ok (.aload_n 0, 1) := by decide +kernel
theorem dX0_sharedLeft_9 : decode cX0_sharedLeft 9 = .ok (.getfield 38, 3) := by decide +kernel
theorem dX0_sharedLeft_12 : decode cX0_sharedLeft 12 = .ok (.if_icmp .ge 21, 3) := by decide +kernel
theorem dX0_sharedLeft_15 : decode cX0_sharedLeft 15 = .ok (.iload_n 1, 1) := by decide +kernel
theorem dX0_sharedLeft_16 : decode cX0_sharedLeft 16 = .ok (.aload_n 0, 1) := by decide +kernel
theorem dX0_sharedLeft_17 : decode cX0_sharedLeft 17 = .ok (.getfield 20, 3) := by decide +kernel
theorem dX0_sharedLeft_20 : decode cX0_sharedLeft 20 = .ok (.iload_n 2, 1) := by decide +kernel
theorem dX0_sharedLeft_21 : decode cX0_sharedLeft 21 = .ok (.aaload, 1) := by decide +kernel
theorem dX0_sharedLeft_22 : decode cX0_sharedLeft 22 = .ok (.invokevirtual 94, 3) := by decide +kernel
theorem dX0_sharedLeft_25 : decode cX0_sharedLeft 25 = .ok (.isub, 1) := by decide +kernel
theorem dX0_sharedLeft_26 : decode cX0_sharedLeft 26 = .ok (.istore_n 1, 1) := by decide +kernel
theorem dX0_sharedLeft_27 : decode cX0_sharedLeft 27 = .ok (.iinc 2 1, 3) := by decide +kernel
theorem dX0_sharedLeft_30 : decode cX0_sharedLeft 30 = .ok (.goto (-23), 3) := by decide +kernel
theorem dX0_sharedLeft_33 : decode cX0_sharedLeft 33 = .ok (.iload_n 1, 1) := by decide +kernel
theorem dX0_sharedLeft_34 : decode cX0_sharedLeft 34 = .ok (.ireturn, 1) := by decide +kernel
theorem dX0_giveGrant_0 : decode cX0_giveGrant 0 = .ok (.aload_n 1, 1) := by decide +kernel
theorem dX0_giveGrant_1 : decode cX0_giveGrant 1 = .ok (.getfield 84, 3) := by decide +kernel
theorem dX0_giveGrant_4 : decode cX0_giveGrant 4 = .ok (.ifCond .ne 18, 3) := by decide +kernel
theorem dX0_giveGrant_7 : decode cX0_giveGrant 7 = .ok (.aload_n 0, 1) := by decide +kernel
theorem dX0_giveGrant_8 : decode cX0_giveGrant 8 = .ok (.getfield 55, 3) := by decide +kernel
theorem dX0_giveGrant_11 : decode cX0_giveGrant 11 = .ok (.iconst (-1), 1) := by decide +kernel
theorem dX0_giveGrant_12 : decode cX0_giveGrant 12 = .ok (.if_icmp .eq 10, 3) := by decide +kernel
theorem dX0_giveGrant_15 : decode cX0_giveGrant 15 = .ok (.aload_n 0, 1) := by decide +kernel
theorem dX0_giveGrant_16 : decode cX0_giveGrant 16 = .ok (.getfield 52, 3) := by decide +kernel
theorem dX0_giveGrant_19 : decode cX0_giveGrant 19 = .ok (.goto 4, 3) := by decide +kernel
theorem dX0_giveGrant_22 : decode cX0_giveGrant 22 = .ok (.iconst (-1), 1) := by decide +kernel
theorem dX0_giveGrant_23 : decode cX0_giveGrant 23 = .ok (.istore 4, 2) := by decide +kernel
theorem dX0_giveGrant_25 : decode cX0_giveGrant 25 = .ok (.aload_n 0, 1) := by decide +kernel
theorem dX0_giveGrant_26 : decode cX0_giveGrant 26 = .ok (.iload 4, 2) := by decide +kernel
theorem dX0_giveGrant_28 : decode cX0_giveGrant 28 = .ok (.invokevirtual 97, 3) := by decide +kernel
theorem dX0_giveGrant_31 : decode cX0_giveGrant 31 = .ok (.astore 5, 2) := by decide +kernel
theorem dX0_giveGrant_33 : decode cX0_giveGrant 33 = .ok (.aload_n 0, 1) := by decide +kernel
theorem dX0_giveGrant_34 : decode cX0_giveGrant 34 = .ok (.invokevirtual 101, 3) := by decide +kernel
theorem dX0_giveGrant_37 : decode cX0_giveGrant 37 = .ok (.istore 6, 2) := by decide +kernel
theorem dX0_giveGrant_39 : decode cX0_giveGrant 39 = .ok (.aload 5, 2) := by decide +kernel
theorem dX0_giveGrant_41 : decode cX0_giveGrant 41 = .ok (.ifnull 29, 3) := by decide +kernel
theorem dX0_giveGrant_44 : decode cX0_giveGrant 44 = .ok (.iload 6, 2) := by decide +kernel
theorem dX0_giveGrant_46 : decode cX0_giveGrant 46 = .ok (.aload 5, 2) := by decide +kernel
theorem dX0_giveGrant_48 : decode cX0_giveGrant 48 = .ok (.getfield 84, 3) := by decide +kernel
theorem dX0_giveGrant_51 : decode cX0_giveGrant 51 = .ok (.iconst 0, 1) := by decide +kernel
theorem dX0_giveGrant_52 : decode cX0_giveGrant 52 = .ok (.aload 5, 2) := by decide +kernel
theorem dX0_giveGrant_54 : decode cX0_giveGrant 54 = .ok (.invokevirtual 104, 3) := by decide +kernel
theorem dX0_giveGrant_57 : decode cX0_giveGrant 57 = .ok (.aload 5, 2) := by decide +kernel
theorem dX0_giveGrant_59 : decode cX0_giveGrant 59 = .ok (.getfield 81, 3) := by decide +kernel
theorem dX0_giveGrant_62 : decode cX0_giveGrant 62 = .ok (.isub, 1) := by decide +kernel
theorem dX0_giveGrant_63 : decode cX0_giveGrant 63 = .ok (.invokestatic 107, 3) := by decide +kernel
theorem dX0_giveGrant_66 : decode cX0_giveGrant 66 = .ok (.isub, 1) := by decide +kernel
theorem dX0_giveGrant_67 : decode cX0_giveGrant 67 = .ok (.iadd, 1) := by decide +kernel
theorem dX0_giveGrant_68 : decode cX0_giveGrant 68 = .ok (.istore 6, 2) := by decide +kernel
theorem dX0_giveGrant_70 : decode cX0_giveGrant 70 = .ok (.iload_n 3, 1) := by decide +kernel
theorem dX0_giveGrant_71 : decode cX0_giveGrant 71 = .ok (.aload_n 1, 1) := by decide +kernel
theorem dX0_giveGrant_72 : decode cX0_giveGrant 72 = .ok (.getfield 84, 3) := by decide +kernel
theorem dX0_giveGrant_75 : decode cX0_giveGrant 75 = .ok (.isub, 1) := by decide +kernel
theorem dX0_giveGrant_76 : decode cX0_giveGrant 76 = .ok (.iload 6, 2) := by decide +kernel
theorem dX0_giveGrant_78 : decode cX0_giveGrant 78 = .ok (.if_icmp .le 6, 3) := by decide +kernel
theorem dX0_giveGrant_81 : decode cX0_giveGrant 81 = .ok (.bipush (-3), 2) := by decide +kernel
theorem dX0_giveGrant_83 : decode cX0_giveGrant 83 = .ok (.ireturn, 1) := by decide +kernel
theorem dX0_giveGrant_84 : decode cX0_giveGrant 84 = .ok (.aload 5, 2) := by decide +kernel
theorem dX0_giveGrant_86 : decode cX0_giveGrant 86 = .ok (.ifnull 11, 3) := by decide +kernel
theorem dX0_giveGrant_89 : decode cX0_giveGrant 89 = .ok (.aload_n 0, 1) := by decide +kernel
theorem dX0_giveGrant_90 : decode cX0_giveGrant 90 = .ok (.aload 5, 2) := by decide +kernel
theorem dX0_giveGrant_92 : decode cX0_giveGrant 92 = .ok (.iload 4, 2) := by decide +kernel
theorem dX0_giveGrant_94 : decode cX0_giveGrant 94 = .ok (.invokevirtual 113, 3) := by decide +kernel
theorem dX0_giveGrant_97 : decode cX0_giveGrant 97 = .ok (.aload_n 1, 1) := by decide +kernel
theorem dX0_giveGrant_98 : decode cX0_giveGrant 98 = .ok (.getfield 84, 3) := by decide +kernel
theorem dX0_giveGrant_101 : decode cX0_giveGrant 101 = .ok (.ifCond .ne 8, 3) := by decide +kernel
theorem dX0_giveGrant_104 : decode cX0_giveGrant 104 = .ok (.aload_n 0, 1) := by decide +kernel
theorem dX0_giveGrant_105 : decode cX0_giveGrant 105 = .ok (.iload_n 2, 1) := by decide +kernel
theorem dX0_giveGrant_106 : decode cX0_giveGrant 106 = .ok (.invokevirtual 117, 3) := by decide +kernel
theorem dX0_giveGrant_109 : decode cX0_giveGrant 109 = .ok (.aload_n 1, 1) := by decide +kernel
theorem dX0_giveGrant_110 : decode cX0_giveGrant 110 = .ok (.iload_n 3, 1) := by decide +kernel
theorem dX0_giveGrant_111 : decode cX0_giveGrant 111 = .ok (.putfield 84, 3) := by decide +kernel
theorem dX0_giveGrant_114 : decode cX0_giveGrant 114 = .ok (.aload_n 1, 1) := by decide +kernel
theorem dX0_giveGrant_115 : decode cX0_giveGrant 115 = .ok (.invokevirtual 120, 3) := by decide +kernel
theorem dX0_giveGrant_118 : decode cX0_giveGrant 118 = .ok (.aload 5, 2) := by decide +kernel
theorem dX0_giveGrant_120 : decode cX0_giveGrant 120 = .ok (.ifnonnull 8, 3) := by decide +kernel
theorem dX0_giveGrant_123 : decode cX0_giveGrant 123 = .ok (.bipush (-5), 2) := by decide +kernel
theorem dX0_giveGrant_125 : decode cX0_giveGrant 125 = .ok (.goto 5, 3) := by decide +kernel
theorem dX0_giveGrant_128 : decode cX0_giveGrant 128 = .ok (.iload 4, 2) := by decide +kernel
theorem dX0_giveGrant_130 : decode cX0_giveGrant 130 = .ok (.ireturn, 1) := by decide +kernel
theorem dX0_rememberGrant_0 : decode cX0_rememberGrant 0 = .ok (.aload_n 0, 1) := by decide +kernel
theorem dX0_rememberGrant_1 : decode cX0_rememberGrant 1 = .ok (.getfield 52, 3) := by decide +kernel
theorem dX0_rememberGrant_4 : decode cX0_rememberGrant 4 = .ok (.iconst (-1), 1) := by decide +kernel
theorem dX0_rememberGrant_5 : decode cX0_rememberGrant 5 = .ok (.if_icmp .ne 11, 3) := by decide +kernel
theorem dX0_rememberGrant_8 : decode cX0_rememberGrant 8 = .ok (.aload_n 0, 1) := by decide +kernel
theorem dX0_rememberGrant_9 : decode cX0_rememberGrant 9 = .ok (.iload_n 1, 1) := by decide +kernel
theorem dX0_rememberGrant_10 : decode cX0_rememberGrant 10 = .ok (.putfield 52, 3) := by decide +kernel
theorem dX0_rememberGrant_13 : decode cX0_rememberGrant 13 = .ok (.goto 8, 3) := by decide +kernel
theorem dX0_rememberGrant_16 : decode cX0_rememberGrant 16 = .ok (.aload_n 0, 1) := by decide +kernel
theorem dX0_rememberGrant_17 : decode cX0_rememberGrant 17 = .ok (.iload_n 1, 1) := by decide +kernel
theorem dX0_rememberGrant_18 : decode cX0_rememberGrant 18 = .ok (.putfield 55, 3) := by decide +kernel
theorem dX0_rememberGrant_21 : decode cX0_rememberGrant 21 = .ok (.return_, 1) := by decide +kernel
theorem dX0_endGrant_0 : decode cX0_endGrant 0 = .ok (.aload_n 1, 1) := by decide +kernel
theorem dX0_endGrant_1 : decode cX0_endGrant 1 = .ok (.iconst 0, 1) := by decide +kernel
theorem dX0_endGrant_2 : decode cX0_endGrant 2 = .ok (.putfield 84, 3) := by decide +kernel
theorem dX0_endGrant_5 : decode cX0_endGrant 5 = .ok (.aload_n 1, 1) := by decide +kernel
theorem dX0_endGrant_6 : decode cX0_endGrant 6 = .ok (.invokevirtual 120, 3) := by decide +kernel
theorem dX0_endGrant_9 : decode cX0_endGrant 9 = .ok (.aload_n 0, 1) := by decide +kernel
theorem dX0_endGrant_10 : decode cX0_endGrant 10 = .ok (.getfield 52, 3) := by decide +kernel
theorem dX0_endGrant_13 : decode cX0_endGrant 13 = .ok (.iload_n 2, 1) := by decide +kernel
theorem dX0_endGrant_14 : decode cX0_endGrant 14 = .ok (.if_icmp .ne 11, 3) := by decide +kernel
theorem dX0_endGrant_17 : decode cX0_endGrant 17 = .ok (.aload_n 0, 1) := by decide +kernel
theorem dX0_endGrant_18 : decode cX0_endGrant 18 = .ok (.aload_n 0, 1) := by decide +kernel
theorem dX0_endGrant_19 : decode cX0_endGrant 19 = .ok (.getfield 55, 3) := by decide +kernel
theorem dX0_endGrant_22 : decode cX0_endGrant 22 = .ok (.putfield 52, 3) := by decide +kernel
theorem dX0_endGrant_25 : decode cX0_endGrant 25 = .ok (.aload_n 0, 1) := by decide +kernel
theorem dX0_endGrant_26 : decode cX0_endGrant 26 = .ok (.iconst (-1), 1) := by decide +kernel
theorem dX0_endGrant_27 : decode cX0_endGrant 27 = .ok (.putfield 55, 3) := by decide +kernel
theorem dX0_endGrant_30 : decode cX0_endGrant 30 = .ok (.return_, 1) := by decide +kernel
theorem dX0_judge_0 : decode cX0_judge 0 = .ok (.aload_n 1, 1) := by decide +kernel
theorem dX0_judge_1 : decode cX0_judge 1 = .ok (.invokevirtual 123, 3) := by decide +kernel
theorem dX0_judge_4 : decode cX0_judge 4 = .ok (.istore 4, 2) := by decide +kernel
theorem dX0_judge_6 : decode cX0_judge 6 = .ok (.iload_n 3, 1) := by decide +kernel
theorem dX0_judge_7 : decode cX0_judge 7 = .ok (.iload_n 3, 1) := by decide +kernel
theorem dX0_judge_8 : decode cX0_judge 8 = .ok (.iload 4, 2) := by decide +kernel
theorem dX0_judge_10 : decode cX0_judge 10 = .ok (.invokestatic 126, 3) := by decide +kernel
theorem dX0_judge_13 : decode cX0_judge 13 = .ok (.isub, 1) := by decide +kernel
theorem dX0_judge_14 : decode cX0_judge 14 = .ok (.istore 5, 2) := by decide +kernel
theorem dX0_judge_16 : decode cX0_judge 16 = .ok (.aload_n 0, 1) := by decide +kernel
theorem dX0_judge_17 : decode cX0_judge 17 = .ok (.iconst 0, 1) := by decide +kernel
theorem dX0_judge_18 : decode cX0_judge 18 = .ok (.putfield 129, 3) := by decide +kernel
theorem dX0_judge_21 : decode cX0_judge 21 = .ok (.aload_n 0, 1) := by decide +kernel
theorem dX0_judge_22 : decode cX0_judge 22 = .ok (.iconst 0, 1) := by decide +kernel
theorem dX0_judge_23 : decode cX0_judge 23 = .ok (.putfield 132, 3) := by decide +kernel
theorem dX0_judge_26 : decode cX0_judge 26 = .ok (.aload_n 0, 1) := by decide +kernel
theorem dX0_judge_27 : decode cX0_judge 27 = .ok (.getfield 29, 3) := by decide +kernel
theorem dX0_judge_30 : decode cX0_judge 30 = .ok (.iconst 0, 1) := by decide +kernel
theorem dX0_judge_31 : decode cX0_judge 31 = .ok (.iload 5, 2) := by decide +kernel
theorem dX0_judge_33 : decode cX0_judge 33 = .ok (.ifCond .ne 7, 3) := by decide +kernel
theorem dX0_judge_36 : decode cX0_judge 36 = .ok (.iconst 0, 1) := by decide +kernel
theorem dX0_judge_37 : decode cX0_judge 37 = .ok (.goto 4, 3) := by decide +kernel
theorem dX0_judge_40 : decode cX0_judge 40 = .ok (.iconst 1, 1) := by decide +kernel
theorem dX0_judge_41 : decode cX0_judge 41 = .ok (.iastore, 1) := by decide +kernel
theorem dX0_judge_42 : decode cX0_judge 42 = .ok (.aload_n 0, 1) := by decide +kernel
theorem dX0_judge_43 : decode cX0_judge 43 = .ok (.getfield 29, 3) := by decide +kernel
theorem dX0_judge_46 : decode cX0_judge 46 = .ok (.iconst 0, 1) := by decide +kernel
theorem dX0_judge_47 : decode cX0_judge 47 = .ok (.iaload, 1) := by decide +kernel
theorem dX0_judge_48 : decode cX0_judge 48 = .ok (.ifCond .ne 9, 3) := by decide +kernel
theorem dX0_judge_51 : decode cX0_judge 51 = .ok (.aload_n 0, 1) := by decide +kernel
theorem dX0_judge_52 : decode cX0_judge 52 = .ok (.iconst 1, 1) := by decide +kernel
theorem dX0_judge_53 : decode cX0_judge 53 = .ok (.putfield 129, 3) := by decide +kernel
theorem dX0_judge_56 : decode cX0_judge 56 = .ok (.return_, 1) := by decide +kernel
theorem dX0_judge_57 : decode cX0_judge 57 = .ok (.aload_n 0, 1) := by decide +kernel
theorem dX0_judge_58 : decode cX0_judge 58 = .ok (.invokevirtual 101, 3) := by decide +kernel
theorem dX0_judge_61 : decode cX0_judge 61 = .ok (.istore 6, 2) := by decide +kernel
theorem dX0_judge_63 : decode cX0_judge 63 = .ok (.aload_n 0, 1) := by decide +kernel
theorem dX0_judge_64 : decode cX0_judge 64 = .ok (.getfield 29, 3) := by decide +kernel
theorem dX0_judge_67 : decode cX0_judge 67 = .ok (.iconst 1, 1) := by decide +kernel
theorem dX0_judge_68 : decode cX0_judge 68 = .ok (.aload_n 2, 1) := by decide +kernel
theorem dX0_judge_69 : decode cX0_judge 69 = .ok (.iload 5, 2) := by decide +kernel
theorem dX0_judge_71 : decode cX0_judge 71 = .ok (.iload 6, 2) := by decide +kernel
theorem dX0_judge_73 : decode cX0_judge 73 = .ok (.invokevirtual 135, 3) := by decide +kernel
theorem dX0_judge_76 : decode cX0_judge 76 = .ok (.iastore, 1) := by decide +kernel
theorem dX0_judge_77 : decode cX0_judge 77 = .ok (.aload_n 0, 1) := by decide +kernel
theorem dX0_judge_78 : decode cX0_judge 78 = .ok (.getfield 29, 3) := by decide +kernel
theorem dX0_judge_81 : decode cX0_judge 81 = .ok (.iconst 1, 1) := by decide +kernel
theorem dX0_judge_82 : decode cX0_judge 82 = .ok (.iaload, 1) := by decide +kernel
theorem dX0_judge_83 : decode cX0_judge 83 = .ok (.ifCond .ne 9, 3) := by decide +kernel
theorem dX0_judge_86 : decode cX0_judge 86 = .ok (.aload_n 0, 1) := by decide +kernel
theorem dX0_judge_87 : decode cX0_judge 87 = .ok (.iconst 2, 1) := by decide +kernel
theorem dX0_judge_88 : decode cX0_judge 88 = .ok (.putfield 129, 3) := by decide +kernel
theorem dX0_judge_91 : decode cX0_judge 91 = .ok (.return_, 1) := by decide +kernel
theorem dX0_judge_92 : decode cX0_judge 92 = .ok (.aload_n 0, 1) := by decide +kernel
theorem dX0_judge_93 : decode cX0_judge 93 = .ok (.getfield 29, 3) := by decide +kernel
theorem dX0_judge_96 : decode cX0_judge 96 = .ok (.iconst 2, 1) := by decide +kernel
theorem dX0_judge_97 : decode cX0_judge 97 = .ok (.aload_n 1, 1) := by decide +kernel
theorem dX0_judge_98 : decode cX0_judge 98 = .ok (.aload_n 2, 1) := by decide +kernel
theorem dX0_judge_99 : decode cX0_judge 99 = .ok (.iload 5, 2) := by decide +kernel
theorem dX0_judge_101 : decode cX0_judge 101 = .ok (.invokestatic 140, 3) := by decide +kernel
theorem dX0_judge_104 : decode cX0_judge 104 = .ok (.iastore, 1) := by decide +kernel
theorem dX0_judge_105 : decode cX0_judge 105 = .ok (.aload_n 0, 1) := by decide +kernel
theorem dX0_judge_106 : decode cX0_judge 106 = .ok (.getfield 29, 3) := by decide +kernel
theorem dX0_judge_109 : decode cX0_judge 109 = .ok (.iconst 2, 1) := by decide +kernel
theorem dX0_judge_110 : decode cX0_judge 110 = .ok (.iaload, 1) := by decide +kernel
theorem dX0_judge_111 : decode cX0_judge 111 = .ok (.ifCond .ne 9, 3) := by decide +kernel
theorem dX0_judge_114 : decode cX0_judge 114 = .ok (.aload_n 0, 1) := by decide +kernel
theorem dX0_judge_115 : decode cX0_judge 115 = .ok (.iconst 3, 1) := by decide +kernel
theorem dX0_judge_116 : decode cX0_judge 116 = .ok (.putfield 129, 3) := by decide +kernel
theorem dX0_judge_119 : decode cX0_judge 119 = .ok (.return_, 1) := by decide +kernel
theorem dX0_judge_120 : decode cX0_judge 120 = .ok (.aload_n 0, 1) := by decide +kernel
theorem dX0_judge_121 : decode cX0_judge 121 = .ok (.getfield 29, 3) := by decide +kernel
theorem dX0_judge_124 : decode cX0_judge 124 = .ok (.iconst 3, 1) := by decide +kernel
theorem dX0_judge_125 : decode cX0_judge 125 = .ok (.bipush 6, 2) := by decide +kernel
theorem dX0_judge_127 : decode cX0_judge 127 = .ok (.iastore, 1) := by decide +kernel
theorem dX0_judge_128 : decode cX0_judge 128 = .ok (.aload_n 0, 1) := by decide +kernel
theorem dX0_judge_129 : decode cX0_judge 129 = .ok (.getfield 42, 3) := by decide +kernel
theorem dX0_judge_132 : decode cX0_judge 132 = .ok (.ifCond .eq 26, 3) := by decide +kernel
theorem dX0_judge_135 : decode cX0_judge 135 = .ok (.aload_n 0, 1) := by decide +kernel
theorem dX0_judge_136 : decode cX0_judge 136 = .ok (.aload_n 0, 1) := by decide +kernel
theorem dX0_judge_137 : decode cX0_judge 137 = .ok (.aload_n 1, 1) := by decide +kernel
theorem dX0_judge_138 : decode cX0_judge 138 = .ok (.aload_n 2, 1) := by decide +kernel
theorem dX0_judge_139 : decode cX0_judge 139 = .ok (.iload_n 3, 1) := by decide +kernel
theorem dX0_judge_140 : decode cX0_judge 140 = .ok (.iload 4, 2) := by decide +kernel
theorem dX0_judge_142 : decode cX0_judge 142 = .ok (.iload 6, 2) := by decide +kernel
theorem dX0_judge_144 : decode cX0_judge 144 = .ok (.invokevirtual 144, 3) := by decide +kernel
theorem dX0_judge_147 : decode cX0_judge 147 = .ok (.putfield 132, 3) := by decide +kernel
theorem dX0_judge_150 : decode cX0_judge 150 = .ok (.aload_n 0, 1) := by decide +kernel
theorem dX0_judge_151 : decode cX0_judge 151 = .ok (.getfield 29, 3) := by decide +kernel
theorem dX0_judge_154 : decode cX0_judge 154 = .ok (.iconst 3, 1) := by decide +kernel
theorem dX0_judge_155 : decode cX0_judge 155 = .ok (.bipush 7, 2) := by decide +kernel
theorem dX0_judge_157 : decode cX0_judge 157 = .ok (.iastore, 1) := by decide +kernel
theorem dX0_judge_158 : decode cX0_judge 158 = .ok (.aload_n 0, 1) := by decide +kernel
theorem dX0_judge_159 : decode cX0_judge 159 = .ok (.getfield 132, 3) := by decide +kernel
theorem dX0_judge_162 : decode cX0_judge 162 = .ok (.ifCond .le 8, 3) := by decide +kernel
theorem dX0_judge_165 : decode cX0_judge 165 = .ok (.aload_n 0, 1) := by decide +kernel
theorem dX0_judge_166 : decode cX0_judge 166 = .ok (.iconst 4, 1) := by decide +kernel
theorem dX0_judge_167 : decode cX0_judge 167 = .ok (.putfield 129, 3) := by decide +kernel
theorem dX0_judge_170 : decode cX0_judge 170 = .ok (.return_, 1) := by decide +kernel
theorem dX0_headroomRefusal_0 : decode cX0_headroomRefusal 0 = .ok (.aload_n 1, 1) := by decide +kernel
theorem dX0_headroomRefusal_1 : decode cX0_headroomRefusal 1 = .ok (.getfield 148, 3) := by decide +kernel
theorem dX0_headroomRefusal_4 : decode cX0_headroomRefusal 4 = .ok (.ifCond .ne 5, 3) := by decide +kernel
theorem dX0_headroomRefusal_7 : decode cX0_headroomRefusal 7 = .ok (.iconst 4, 1) := by decide +kernel
theorem dX0_headroomRefusal_8 : decode cX0_headroomRefusal 8 = .ok (.ireturn, 1) := by decide +kernel
theorem dX0_headroomRefusal_9 : decode cX0_headroomRefusal 9 = .ok (.iload_n 2, 1) := by decide +kernel
theorem dX0_headroomRefusal_10 : decode cX0_headroomRefusal 10 = .ok (.aload_n 0, 1) := by decide +kernel
theorem dX0_headroomRefusal_11 : decode cX0_headroomRefusal 11 = .ok (.getfield 87, 3) := by decide +kernel
theorem dX0_headroomRefusal_14 : decode cX0_headroomRefusal 14 = .ok (.aload_n 0, 1) := by decide +kernel
theorem dX0_headroomRefusal_15 : decode cX0_headroomRefusal 15 = .ok (.invokevirtual 151, 3) := by decide +kernel
theorem dX0_headroomRefusal_18 : decode cX0_headroomRefusal 18 = .ok (.isub, 1) := by decide +kernel
theorem dX0_headroomRefusal_19 : decode cX0_headroomRefusal 19 = .ok (.if_icmp .le 7, 3) := by decide +kernel
theorem dX0_headroomRefusal_22 : decode cX0_headroomRefusal 22 = .ok (.iconst 5, 1) := by decide +kernel
theorem dX0_headroomRefusal_23 : decode cX0_headroomRefusal 23 = .ok (.goto 4, 3) := by decide +kernel
theorem dX0_headroomRefusal_26 : decode cX0_headroomRefusal 26 = .ok (.iconst 0, 1) := by decide +kernel
theorem dX0_headroomRefusal_27 : decode cX0_headroomRefusal 27 = .ok (.ireturn, 1) := by decide +kernel
theorem dX0_victimsNeeded_0 : decode cX0_victimsNeeded 0 = .ok (.iload 4, 2) := by decide +kernel
theorem dX0_victimsNeeded_2 : decode cX0_victimsNeeded 2 = .ok (.istore 6, 2) := by decide +kernel
theorem dX0_victimsNeeded_4 : decode cX0_victimsNeeded 4 = .ok (.iload 5, 2) := by decide +kernel
theorem dX0_victimsNeeded_6 : decode cX0_victimsNeeded 6 = .ok (.istore 7, 2) := by decide +kernel
theorem dX0_victimsNeeded_8 : decode cX0_victimsNeeded 8 = .ok (.iconst 0, 1) := by decide +kernel
theorem dX0_victimsNeeded_9 : decode cX0_victimsNeeded 9 = .ok (.istore 8, 2) := by decide +kernel
theorem dX0_victimsNeeded_11 : decode cX0_victimsNeeded 11 = .ok (.iconst 2, 1) := by decide +kernel
theorem dX0_victimsNeeded_12 : decode cX0_victimsNeeded 12 = .ok (.istore 9, 2) := by decide +kernel
theorem dX0_victimsNeeded_14 : decode cX0_victimsNeeded 14 = .ok (.iload 9, 2) := by decide +kernel
theorem dX0_victimsNeeded_16 : decode cX0_victimsNeeded 16 = .ok (.aload_n 2, 1) := by decide +kernel
theorem dX0_victimsNeeded_17 : decode cX0_victimsNeeded 17 = .ok (.getfield 154, 3) := by decide +kernel
theorem dX0_victimsNeeded_20 : decode cX0_victimsNeeded 20 = .ok (.if_icmp .le 172, 3) := by decide +kernel
theorem dX0_victimsNeeded_23 : decode cX0_victimsNeeded 23 = .ok (.aload_n 1, 1) := by decide +kernel
theorem dX0_victimsNeeded_24 : decode cX0_victimsNeeded 24 = .ok (.getfield 74, 3) := by decide +kernel
theorem dX0_victimsNeeded_27 : decode cX0_victimsNeeded 27 = .ok (.iload 9, 2) := by decide +kernel
theorem dX0_victimsNeeded_29 : decode cX0_victimsNeeded 29 = .ok (.aaload, 1) := by decide +kernel
theorem dX0_victimsNeeded_30 : decode cX0_victimsNeeded 30 = .ok (.astore 10, 2) := by decide +kernel
theorem dX0_victimsNeeded_32 : decode cX0_victimsNeeded 32 = .ok (.aload 10, 2) := by decide +kernel
theorem dX0_victimsNeeded_34 : decode cX0_victimsNeeded 34 = .ok (.getfield 157, 3) := by decide +kernel
theorem dX0_victimsNeeded_37 : decode cX0_victimsNeeded 37 = .ok (.istore 11, 2) := by decide +kernel
theorem dX0_victimsNeeded_39 : decode cX0_victimsNeeded 39 = .ok (.aload 10, 2) := by decide +kernel
theorem dX0_victimsNeeded_41 : decode cX0_victimsNeeded 41 = .ok (.getfield 160, 3) := by decide +kernel
theorem dX0_victimsNeeded_44 : decode cX0_victimsNeeded 44 = .ok (.istore 12, 2) := by decide +kernel
theorem dX0_victimsNeeded_46 : decode cX0_victimsNeeded 46 = .ok (.aload 10, 2) := by decide +kernel
theorem dX0_victimsNeeded_48 : decode cX0_victimsNeeded 48 = .ok (.getfield 163, 3) := by decide +kernel
theorem dX0_victimsNeeded_51 : decode cX0_victimsNeeded 51 = .ok (.istore 13, 2) := by decide +kernel
theorem dX0_victimsNeeded_53 : decode cX0_victimsNeeded 53 = .ok (.iconst 0, 1) := by decide +kernel
theorem dX0_victimsNeeded_54 : decode cX0_victimsNeeded 54 = .ok (.istore 14, 2) := by decide +kernel
theorem dX0_victimsNeeded_56 : decode cX0_victimsNeeded 56 = .ok (.iload 14, 2) := by decide +kernel
theorem dX0_victimsNeeded_58 : decode cX0_victimsNeeded 58 = .ok (.aload 10, 2) := by decide +kernel
theorem dX0_victimsNeeded_60 : decode cX0_victimsNeeded 60 = .ok (.getfield 166, 3) := by decide +kernel
theorem dX0_victimsNeeded_63 : decode cX0_victimsNeeded 63 = .ok (.if_icmp .ge 123, 3) := by decide +kernel
theorem dX0_victimsNeeded_66 : decode cX0_victimsNeeded 66 = .ok (.aload_n 0, 1) := by decide +kernel
theorem dX0_victimsNeeded_67 : decode cX0_victimsNeeded 67 = .ok (.getfield 12, 3) := by decide +kernel
theorem dX0_victimsNeeded_70 : decode cX0_victimsNeeded 70 = .ok (.iload 13, 2) := by decide +kernel
theorem dX0_victimsNeeded_72 : decode cX0_victimsNeeded 72 = .ok (.invokevirtual 169, 3) := by decide +kernel
theorem dX0_victimsNeeded_75 : decode cX0_victimsNeeded 75 = .ok (.istore 15, 2) := by decide +kernel
theorem dX0_victimsNeeded_77 : decode cX0_victimsNeeded 77 = .ok (.iload 15, 2) := by decide +kernel
theorem dX0_victimsNeeded_79 : decode cX0_victimsNeeded 79 = .ok (.iload 11, 2) := by decide +kernel
theorem dX0_victimsNeeded_81 : decode cX0_victimsNeeded 81 = .ok (.invokestatic 126, 3) := by decide +kernel
theorem dX0_victimsNeeded_84 : decode cX0_victimsNeeded 84 = .ok (.istore 16, 2) := by decide +kernel
theorem dX0_victimsNeeded_86 : decode cX0_victimsNeeded 86 = .ok (.iload 11, 2) := by decide +kernel
theorem dX0_victimsNeeded_88 : decode cX0_victimsNeeded 88 = .ok (.iload 16, 2) := by decide +kernel
theorem dX0_victimsNeeded_90 : decode cX0_victimsNeeded 90 = .ok (.isub, 1) := by decide +kernel
theorem dX0_victimsNeeded_91 : decode cX0_victimsNeeded 91 = .ok (.istore 11, 2) := by decide +kernel
theorem dX0_victimsNeeded_93 : decode cX0_victimsNeeded 93 = .ok (.iload 15, 2) := by decide +kernel
theorem dX0_victimsNeeded_95 : decode cX0_victimsNeeded 95 = .ok (.iload 16, 2) := by decide +kernel
theorem dX0_victimsNeeded_97 : decode cX0_victimsNeeded 97 = .ok (.isub, 1) := by decide +kernel
theorem dX0_victimsNeeded_98 : decode cX0_victimsNeeded 98 = .ok (.istore 15, 2) := by decide +kernel
theorem dX0_victimsNeeded_100 : decode cX0_victimsNeeded 100 = .ok (.iload 15, 2) := by decide +kernel
theorem dX0_victimsNeeded_102 : decode cX0_victimsNeeded 102 = .ok (.iload 12, 2) := by decide +kernel
theorem dX0_victimsNeeded_104 : decode cX0_victimsNeeded 104 = .ok (.invokestatic 126, 3) := by decide +kernel
theorem dX0_victimsNeeded_107 : decode cX0_victimsNeeded 107 = .ok (.istore 16, 2) := by decide +kernel
theorem dX0_victimsNeeded_109 : decode cX0_victimsNeeded 109 = .ok (.iload 12, 2) := by decide +kernel
theorem dX0_victimsNeeded_111 : decode cX0_victimsNeeded 111 = .ok (.iload 16, 2) := by decide +kernel
theorem dX0_victimsNeeded_113 : decode cX0_victimsNeeded 113 = .ok (.isub, 1) := by decide +kernel
theorem dX0_victimsNeeded_114 : decode cX0_victimsNeeded 114 = .ok (.istore 12, 2) := by decide +kernel
theorem dX0_victimsNeeded_116 : decode cX0_victimsNeeded 116 = .ok (.iload 15, 2) := by decide +kernel
theorem dX0_victimsNeeded_118 : decode cX0_victimsNeeded 118 = .ok (.iload 16, 2) := by decide +kernel
theorem dX0_victimsNeeded_120 : decode cX0_victimsNeeded 120 = .ok (.isub, 1) := by decide +kernel
theorem dX0_victimsNeeded_121 : decode cX0_victimsNeeded 121 = .ok (.istore 15, 2) := by decide +kernel
theorem dX0_victimsNeeded_123 : decode cX0_victimsNeeded 123 = .ok (.iload 7, 2) := by decide +kernel
theorem dX0_victimsNeeded_125 : decode cX0_victimsNeeded 125 = .ok (.iload 16, 2) := by decide +kernel
theorem dX0_victimsNeeded_127 : decode cX0_victimsNeeded 127 = .ok (.iadd, 1) := by decide +kernel
theorem dX0_victimsNeeded_128 : decode cX0_victimsNeeded 128 = .ok (.istore 7, 2) := by decide +kernel
theorem dX0_victimsNeeded_130 : decode cX0_victimsNeeded 130 = .ok (.iload 6, 2) := by decide +kernel
theorem dX0_victimsNeeded_132 : decode cX0_victimsNeeded 132 = .ok (.iload 15, 2) := by decide +kernel
theorem dX0_victimsNeeded_134 : decode cX0_victimsNeeded 134 = .ok (.iadd, 1) := by decide +kernel
theorem dX0_victimsNeeded_135 : decode cX0_victimsNeeded 135 = .ok (.istore 6, 2) := by decide +kernel
theorem dX0_victimsNeeded_137 : decode cX0_victimsNeeded 137 = .ok (.iinc 8 1, 3) := by decide +kernel
theorem dX0_victimsNeeded_140 : decode cX0_victimsNeeded 140 = .ok (.iload_n 3, 1) := by decide +kernel
theorem dX0_victimsNeeded_141 : decode cX0_victimsNeeded 141 = .ok (.iload_n 3, 1) := by decide +kernel
theorem dX0_victimsNeeded_142 : decode cX0_victimsNeeded 142 = .ok (.iload 6, 2) := by decide +kernel
theorem dX0_victimsNeeded_144 : decode cX0_victimsNeeded 144 = .ok (.invokestatic 126, 3) := by decide +kernel
theorem dX0_victimsNeeded_147 : decode cX0_victimsNeeded 147 = .ok (.isub, 1) := by decide +kernel
theorem dX0_victimsNeeded_148 : decode cX0_victimsNeeded 148 = .ok (.istore 17, 2) := by decide +kernel
theorem dX0_victimsNeeded_150 : decode cX0_victimsNeeded 150 = .ok (.iload 17, 2) := by decide +kernel
theorem dX0_victimsNeeded_152 : decode cX0_victimsNeeded 152 = .ok (.ifCond .eq 14, 3) := by decide +kernel
theorem dX0_victimsNeeded_155 : decode cX0_victimsNeeded 155 = .ok (.aload_n 2, 1) := by decide +kernel
theorem dX0_victimsNeeded_156 : decode cX0_victimsNeeded 156 = .ok (.iload 17, 2) := by decide +kernel
theorem dX0_victimsNeeded_158 : decode cX0_victimsNeeded 158 = .ok (.iload 7, 2) := by decide +kernel
theorem dX0_victimsNeeded_160 : decode cX0_victimsNeeded 160 = .ok (.invokevirtual 135, 3) := by decide +kernel
theorem dX0_victimsNeeded_163 : decode cX0_victimsNeeded 163 = .ok (.ifCond .ne 6, 3) := by decide +kernel
theorem dX0_victimsNeeded_166 : decode cX0_victimsNeeded 166 = .ok (.iload 8, 2) := by decide +kernel
theorem dX0_victimsNeeded_168 : decode cX0_victimsNeeded 168 = .ok (.ireturn, 1) := by decide +kernel
theorem dX0_victimsNeeded_169 : decode cX0_victimsNeeded 169 = .ok (.aload_n 0, 1) := by decide +kernel
theorem dX0_victimsNeeded_170 : decode cX0_victimsNeeded 170 = .ok (.getfield 12, 3) := by decide +kernel
theorem dX0_victimsNeeded_173 : decode cX0_victimsNeeded 173 = .ok (.iload 13, 2) := by decide +kernel
theorem dX0_victimsNeeded_175 : decode cX0_victimsNeeded 175 = .ok (.invokevirtual 173, 3) := by decide +kernel
theorem dX0_victimsNeeded_178 : decode cX0_victimsNeeded 178 = .ok (.istore 13, 2) := by decide +kernel
theorem dX0_victimsNeeded_180 : decode cX0_victimsNeeded 180 = .ok (.iinc 14 1, 3) := by decide +kernel
theorem dX0_victimsNeeded_183 : decode cX0_victimsNeeded 183 = .ok (.goto (-127), 3) := by decide +kernel
theorem dX0_victimsNeeded_186 : decode cX0_victimsNeeded 186 = .ok (.iinc 9 (-1), 3) := by decide +kernel
theorem dX0_victimsNeeded_189 : decode cX0_victimsNeeded 189 = .ok (.goto (-175), 3) := by decide +kernel
theorem dX0_victimsNeeded_192 : decode cX0_victimsNeeded 192 = .ok (.iconst 0, 1) := by decide +kernel
theorem dX0_victimsNeeded_193 : decode cX0_victimsNeeded 193 = .ok (.ireturn, 1) := by decide +kernel
theorem dX0_receive_0 : decode cX0_receive 0 = .ok (.aload_n 0, 1) := by decide +kernel
theorem dX0_receive_1 : decode cX0_receive 1 = .ok (.aload_n 1, 1) := by decide +kernel
theorem dX0_receive_2 : decode cX0_receive 2 = .ok (.aload_n 2, 1) := by decide +kernel
theorem dX0_receive_3 : decode cX0_receive 3 = .ok (.iload_n 3, 1) := by decide +kernel
theorem dX0_receive_4 : decode cX0_receive 4 = .ok (.invokevirtual 176, 3) := by decide +kernel
theorem dX0_receive_7 : decode cX0_receive 7 = .ok (.aload_n 0, 1) := by decide +kernel
theorem dX0_receive_8 : decode cX0_receive 8 = .ok (.getfield 129, 3) := by decide +kernel
theorem dX0_receive_11 : decode cX0_receive 11 = .ok (.ifCond .ne 47, 3) := by decide +kernel
theorem dX0_receive_14 : decode cX0_receive 14 = .ok (.aload_n 0, 1) := by decide +kernel
theorem dX0_receive_15 : decode cX0_receive 15 = .ok (.getfield 29, 3) := by decide +kernel
theorem dX0_receive_18 : decode cX0_receive 18 = .ok (.iconst 0, 1) := by decide +kernel
theorem dX0_receive_19 : decode cX0_receive 19 = .ok (.aload_n 0, 1) := by decide +kernel
theorem dX0_receive_20 : decode cX0_receive 20 = .ok (.getfield 25, 3) := by decide +kernel
theorem dX0_receive_23 : decode cX0_receive 23 = .ok (.iconst 0, 1) := by decide +kernel
theorem dX0_receive_24 : decode cX0_receive 24 = .ok (.iconst 4, 1) := by decide +kernel
theorem dX0_receive_25 : decode cX0_receive 25 = .ok (.invokestatic 68, 3) := by decide +kernel
theorem dX0_receive_28 : decode cX0_receive 28 = .ok (.aload_n 0, 1) := by decide +kernel
theorem dX0_receive_29 : decode cX0_receive 29 = .ok (.iconst 1, 1) := by decide +kernel
theorem dX0_receive_30 : decode cX0_receive 30 = .ok (.putfield 58, 3) := by decide +kernel
theorem dX0_receive_33 : decode cX0_receive 33 = .ok (.aload_n 1, 1) := by decide +kernel
theorem dX0_receive_34 : decode cX0_receive 34 = .ok (.aload_n 2, 1) := by decide +kernel
theorem dX0_receive_35 : decode cX0_receive 35 = .ok (.getfield 148, 3) := by decide +kernel
theorem dX0_receive_38 : decode cX0_receive 38 = .ok (.ifCond .eq 7, 3) := by decide +kernel
theorem dX0_receive_41 : decode cX0_receive 41 = .ok (.iconst 5, 1) := by decide +kernel
theorem dX0_receive_42 : decode cX0_receive 42 = .ok (.goto 9, 3) := by decide +kernel
theorem dX0_receive_45 : decode cX0_receive 45 = .ok (.aload_n 0, 1) := by decide +kernel
theorem dX0_receive_46 : decode cX0_receive 46 = .ok (.getfield 29, 3) := by decide +kernel
theorem dX0_receive_49 : decode cX0_receive 49 = .ok (.iconst 1, 1) := by decide +kernel
theorem dX0_receive_50 : decode cX0_receive 50 = .ok (.iaload, 1) := by decide +kernel
theorem dX0_receive_51 : decode cX0_receive 51 = .ok (.iload_n 3, 1) := by decide +kernel
theorem dX0_receive_52 : decode cX0_receive 52 = .ok (.invokevirtual 180, 3) := by decide +kernel
theorem dX0_receive_55 : decode cX0_receive 55 = .ok (.bipush (-6), 2) := by decide +kernel
theorem dX0_receive_57 : decode cX0_receive 57 = .ok (.ireturn, 1) := by decide +kernel
theorem dX0_receive_58 : decode cX0_receive 58 = .ok (.aload_n 0, 1) := by decide +kernel
theorem dX0_receive_59 : decode cX0_receive 59 = .ok (.aload_n 1, 1) := by decide +kernel
theorem dX0_receive_60 : decode cX0_receive 60 = .ok (.aload_n 2, 1) := by decide +kernel
theorem dX0_receive_61 : decode cX0_receive 61 = .ok (.getfield 154, 3) := by decide +kernel
theorem dX0_receive_64 : decode cX0_receive 64 = .ok (.invokevirtual 184, 3) := by decide +kernel
theorem dX0_receive_67 : decode cX0_receive 67 = .ok (.aload_n 0, 1) := by decide +kernel
theorem dX0_receive_68 : decode cX0_receive 68 = .ok (.aload_n 1, 1) := by decide +kernel
theorem dX0_receive_69 : decode cX0_receive 69 = .ok (.aload_n 2, 1) := by decide +kernel
theorem dX0_receive_70 : decode cX0_receive 70 = .ok (.iload_n 3, 1) := by decide +kernel
theorem dX0_receive_71 : decode cX0_receive 71 = .ok (.invokevirtual 187, 3) := by decide +kernel
theorem dX0_receive_74 : decode cX0_receive 74 = .ok (.aload_n 0, 1) := by decide +kernel
theorem dX0_receive_75 : decode cX0_receive 75 = .ok (.getfield 49, 3) := by decide +kernel
theorem dX0_receive_78 : decode cX0_receive 78 = .ok (.istore 4, 2) := by decide +kernel
theorem dX0_receive_80 : decode cX0_receive 80 = .ok (.aload_n 0, 1) := by decide +kernel
theorem dX0_receive_81 : decode cX0_receive 81 = .ok (.getfield 12, 3) := by decide +kernel
theorem dX0_receive_84 : decode cX0_receive 84 = .ok (.aload_n 2, 1) := by decide +kernel
theorem dX0_receive_85 : decode cX0_receive 85 = .ok (.aload_n 0, 1) := by decide +kernel
theorem dX0_receive_86 : decode cX0_receive 86 = .ok (.getfield 12, 3) := by decide +kernel
theorem dX0_receive_89 : decode cX0_receive 89 = .ok (.iload 4, 2) := by decide +kernel
theorem dX0_receive_91 : decode cX0_receive 91 = .ok (.iload_n 3, 1) := by decide +kernel
theorem dX0_receive_92 : decode cX0_receive 92 = .ok (.invokevirtual 190, 3) := by decide +kernel
theorem dX0_receive_95 : decode cX0_receive 95 = .ok (.invokevirtual 193, 3) := by decide +kernel
theorem dX0_receive_98 : decode cX0_receive 98 = .ok (.aload_n 0, 1) := by decide +kernel
theorem dX0_receive_99 : decode cX0_receive 99 = .ok (.dup, 1) := by decide +kernel
theorem dX0_receive_100 : decode cX0_receive 100 = .ok (.getfield 49, 3) := by decide +kernel
theorem dX0_receive_103 : decode cX0_receive 103 = .ok (.iconst 1, 1) := by decide +kernel
theorem dX0_receive_104 : decode cX0_receive 104 = .ok (.iadd, 1) := by decide +kernel
theorem dX0_receive_105 : decode cX0_receive 105 = .ok (.putfield 49, 3) := by decide +kernel
theorem dX0_receive_108 : decode cX0_receive 108 = .ok (.iload 4, 2) := by decide +kernel
theorem dX0_receive_110 : decode cX0_receive 110 = .ok (.ireturn, 1) := by decide +kernel
theorem dX0_removeVictims_0 : decode cX0_removeVictims 0 = .ok (.aload_n 0, 1) := by decide +kernel
theorem dX0_removeVictims_1 : decode cX0_removeVictims 1 = .ok (.getfield 132, 3) := by decide +kernel
theorem dX0_removeVictims_4 : decode cX0_removeVictims 4 = .ok (.istore_n 3, 1) := by decide +kernel
theorem dX0_removeVictims_5 : decode cX0_removeVictims 5 = .ok (.iconst 2, 1) := by decide +kernel
theorem dX0_removeVictims_6 : decode cX0_removeVictims 6 = .ok (.istore 4, 2) := by decide +kernel
theorem dX0_removeVictims_8 : decode cX0_removeVictims 8 = .ok (.iload 4, 2) := by decide +kernel
theorem dX0_removeVictims_10 : decode cX0_removeVictims 10 = .ok (.iload_n 2, 1) := by decide +kernel
theorem dX0_removeVictims_11 : decode cX0_removeVictims 11 = .ok (.if_icmp .le 80, 3) := by decide +kernel
theorem dX0_removeVictims_14 : decode cX0_removeVictims 14 = .ok (.aload_n 1, 1) := by decide +kernel
theorem dX0_removeVictims_15 : decode cX0_removeVictims 15 = .ok (.getfield 74, 3) := by decide +kernel
theorem dX0_removeVictims_18 : decode cX0_removeVictims 18 = .ok (.iload 4, 2) := by decide +kernel
theorem dX0_removeVictims_20 : decode cX0_removeVictims 20 = .ok (.aaload, 1) := by decide +kernel
theorem dX0_removeVictims_21 : decode cX0_removeVictims 21 = .ok (.astore 5, 2) := by decide +kernel
theorem dX0_removeVictims_23 : decode cX0_removeVictims 23 = .ok (.iload_n 3, 1) := by decide +kernel
theorem dX0_removeVictims_24 : decode cX0_removeVictims 24 = .ok (.aload 5, 2) := by decide +kernel
theorem dX0_removeVictims_26 : decode cX0_removeVictims 26 = .ok (.getfield 166, 3) := by decide +kernel
theorem dX0_removeVictims_29 : decode cX0_removeVictims 29 = .ok (.invokestatic 126, 3) := by decide +kernel
theorem dX0_removeVictims_32 : decode cX0_removeVictims 32 = .ok (.istore 6, 2) := by decide +kernel
theorem dX0_removeVictims_34 : decode cX0_removeVictims 34 = .ok (.iconst 0, 1) := by decide +kernel
theorem dX0_removeVictims_35 : decode cX0_removeVictims 35 = .ok (.istore 7, 2) := by decide +kernel
theorem dX0_removeVictims_37 : decode cX0_removeVictims 37 = .ok (.iload 7, 2) := by decide +kernel
theorem dX0_removeVictims_39 : decode cX0_removeVictims 39 = .ok (.iload 6, 2) := by decide +kernel
theorem dX0_removeVictims_41 : decode cX0_removeVictims 41 = .ok (.if_icmp .ge 39, 3) := by decide +kernel
theorem dX0_removeVictims_44 : decode cX0_removeVictims 44 = .ok (.aload_n 1, 1) := by decide +kernel
theorem dX0_removeVictims_45 : decode cX0_removeVictims 45 = .ok (.bipush 8, 2) := by decide +kernel
theorem dX0_removeVictims_47 : decode cX0_removeVictims 47 = .ok (.aload_n 0, 1) := by decide +kernel
theorem dX0_removeVictims_48 : decode cX0_removeVictims 48 = .ok (.getfield 12, 3) := by decide +kernel
theorem dX0_removeVictims_51 : decode cX0_removeVictims 51 = .ok (.aload 5, 2) := by decide +kernel
theorem dX0_removeVictims_53 : decode cX0_removeVictims 53 = .ok (.getfield 163, 3) := by decide +kernel
theorem dX0_removeVictims_56 : decode cX0_removeVictims 56 = .ok (.invokevirtual 169, 3) := by decide +kernel
theorem dX0_removeVictims_59 : decode cX0_removeVictims 59 = .ok (.invokevirtual 180, 3) := by decide +kernel
theorem dX0_removeVictims_62 : decode cX0_removeVictims 62 = .ok (.aload_n 0, 1) := by decide +kernel
theorem dX0_removeVictims_63 : decode cX0_removeVictims 63 = .ok (.aload_n 1, 1) := by decide +kernel
theorem dX0_removeVictims_64 : decode cX0_removeVictims 64 = .ok (.aload 5, 2) := by decide +kernel
theorem dX0_removeVictims_66 : decode cX0_removeVictims 66 = .ok (.aload 5, 2) := by decide +kernel
theorem dX0_removeVictims_68 : decode cX0_removeVictims 68 = .ok (.getfield 163, 3) := by decide +kernel
theorem dX0_removeVictims_71 : decode cX0_removeVictims 71 = .ok (.invokevirtual 197, 3) := by decide +kernel
theorem dX0_removeVictims_74 : decode cX0_removeVictims 74 = .ok (.iinc 7 1, 3) := by decide +kernel
theorem dX0_removeVictims_77 : decode cX0_removeVictims 77 = .ok (.goto (-40), 3) := by decide +kernel
theorem dX0_removeVictims_80 : decode cX0_removeVictims 80 = .ok (.iload_n 3, 1) := by decide +kernel
theorem dX0_removeVictims_81 : decode cX0_removeVictims 81 = .ok (.iload 6, 2) := by decide +kernel
theorem dX0_removeVictims_83 : decode cX0_removeVictims 83 = .ok (.isub, 1) := by decide +kernel
theorem dX0_removeVictims_84 : decode cX0_removeVictims 84 = .ok (.istore_n 3, 1) := by decide +kernel
theorem dX0_removeVictims_85 : decode cX0_removeVictims 85 = .ok (.iinc 4 (-1), 3) := by decide +kernel
theorem dX0_removeVictims_88 : decode cX0_removeVictims 88 = .ok (.goto (-80), 3) := by decide +kernel
theorem dX0_removeVictims_91 : decode cX0_removeVictims 91 = .ok (.return_, 1) := by decide +kernel
theorem dX0_chargeCells_0 : decode cX0_chargeCells 0 = .ok (.iload_n 3, 1) := by decide +kernel
theorem dX0_chargeCells_1 : decode cX0_chargeCells 1 = .ok (.aload_n 1, 1) := by decide +kernel
theorem dX0_chargeCells_2 : decode cX0_chargeCells 2 = .ok (.invokevirtual 123, 3) := by decide +kernel
theorem dX0_chargeCells_5 : decode cX0_chargeCells 5 = .ok (.invokestatic 126, 3) := by decide +kernel
theorem dX0_chargeCells_8 : decode cX0_chargeCells 8 = .ok (.istore 4, 2) := by decide +kernel
theorem dX0_chargeCells_10 : decode cX0_chargeCells 10 = .ok (.iload_n 3, 1) := by decide +kernel
theorem dX0_chargeCells_11 : decode cX0_chargeCells 11 = .ok (.iload 4, 2) := by decide +kernel
theorem dX0_chargeCells_13 : decode cX0_chargeCells 13 = .ok (.isub, 1) := by decide +kernel
theorem dX0_chargeCells_14 : decode cX0_chargeCells 14 = .ok (.istore 5, 2) := by decide +kernel
theorem dX0_chargeCells_16 : decode cX0_chargeCells 16 = .ok (.aload_n 0, 1) := by decide +kernel
theorem dX0_chargeCells_17 : decode cX0_chargeCells 17 = .ok (.getfield 129, 3) := by decide +kernel
theorem dX0_chargeCells_20 : decode cX0_chargeCells 20 = .ok (.iconst 3, 1) := by decide +kernel
theorem dX0_chargeCells_21 : decode cX0_chargeCells 21 = .ok (.if_icmp .ne 21, 3) := by decide +kernel
theorem dX0_chargeCells_24 : decode cX0_chargeCells 24 = .ok (.aload_n 2, 1) := by decide +kernel
theorem dX0_chargeCells_25 : decode cX0_chargeCells 25 = .ok (.dup, 1) := by decide +kernel
theorem dX0_chargeCells_26 : decode cX0_chargeCells 26 = .ok (.getfield 157, 3) := by decide +kernel
theorem dX0_chargeCells_29 : decode cX0_chargeCells 29 = .ok (.iload 5, 2) := by decide +kernel
theorem dX0_chargeCells_31 : decode cX0_chargeCells 31 = .ok (.iadd, 1) := by decide +kernel
theorem dX0_chargeCells_32 : decode cX0_chargeCells 32 = .ok (.putfield 157, 3) := by decide +kernel
theorem dX0_chargeCells_35 : decode cX0_chargeCells 35 = .ok (.aload_n 2, 1) := by decide +kernel
theorem dX0_chargeCells_36 : decode cX0_chargeCells 36 = .ok (.invokevirtual 200, 3) := by decide +kernel
theorem dX0_chargeCells_39 : decode cX0_chargeCells 39 = .ok (.goto 18, 3) := by decide +kernel
theorem dX0_chargeCells_42 : decode cX0_chargeCells 42 = .ok (.iload 5, 2) := by decide +kernel
theorem dX0_chargeCells_44 : decode cX0_chargeCells 44 = .ok (.ifCond .le 13, 3) := by decide +kernel
theorem dX0_chargeCells_47 : decode cX0_chargeCells 47 = .ok (.aload_n 2, 1) := by decide +kernel
theorem dX0_chargeCells_48 : decode cX0_chargeCells 48 = .ok (.iload 5, 2) := by decide +kernel
theorem dX0_chargeCells_50 : decode cX0_chargeCells 50 = .ok (.aload_n 0, 1) := by decide +kernel
theorem dX0_chargeCells_51 : decode cX0_chargeCells 51 = .ok (.invokevirtual 101, 3) := by decide +kernel
theorem dX0_chargeCells_54 : decode cX0_chargeCells 54 = .ok (.invokevirtual 203, 3) := by decide +kernel
theorem dX0_chargeCells_57 : decode cX0_chargeCells 57 = .ok (.aload_n 2, 1) := by decide +kernel
theorem dX0_chargeCells_58 : decode cX0_chargeCells 58 = .ok (.dup, 1) := by decide +kernel
theorem dX0_chargeCells_59 : decode cX0_chargeCells 59 = .ok (.getfield 206, 3) := by decide +kernel
theorem dX0_chargeCells_62 : decode cX0_chargeCells 62 = .ok (.iload 4, 2) := by decide +kernel
theorem dX0_chargeCells_64 : decode cX0_chargeCells 64 = .ok (.iadd, 1) := by decide +kernel
theorem dX0_chargeCells_65 : decode cX0_chargeCells 65 = .ok (.putfield 206, 3) := by decide +kernel
theorem dX0_chargeCells_68 : decode cX0_chargeCells 68 = .ok (.return_, 1) := by decide +kernel
theorem dX0_takeOut_0 : decode cX0_takeOut 0 = .ok (.aload_n 2, 1) := by decide +kernel
theorem dX0_takeOut_1 : decode cX0_takeOut 1 = .ok (.aload_n 0, 1) := by decide +kernel
theorem dX0_takeOut_2 : decode cX0_takeOut 2 = .ok (.getfield 12, 3) := by decide +kernel
theorem dX0_takeOut_5 : decode cX0_takeOut 5 = .ok (.iload_n 3, 1) := by decide +kernel
theorem dX0_takeOut_6 : decode cX0_takeOut 6 = .ok (.invokevirtual 169, 3) := by decide +kernel
theorem dX0_takeOut_9 : decode cX0_takeOut 9 = .ok (.invokevirtual 209, 3) := by decide +kernel
theorem dX0_takeOut_12 : decode cX0_takeOut 12 = .ok (.aload_n 0, 1) := by decide +kernel
theorem dX0_takeOut_13 : decode cX0_takeOut 13 = .ok (.getfield 12, 3) := by decide +kernel
theorem dX0_takeOut_16 : decode cX0_takeOut 16 = .ok (.aload_n 2, 1) := by decide +kernel
theorem dX0_takeOut_17 : decode cX0_takeOut 17 = .ok (.iload_n 3, 1) := by decide +kernel
theorem dX0_takeOut_18 : decode cX0_takeOut 18 = .ok (.invokevirtual 212, 3) := by decide +kernel
theorem dX0_takeOut_21 : decode cX0_takeOut 21 = .ok (.aload_n 0, 1) := by decide +kernel
theorem dX0_takeOut_22 : decode cX0_takeOut 22 = .ok (.getfield 12, 3) := by decide +kernel
theorem dX0_takeOut_25 : decode cX0_takeOut 25 = .ok (.iload_n 3, 1) := by decide +kernel
theorem dX0_takeOut_26 : decode cX0_takeOut 26 = .ok (.invokevirtual 215, 3) := by decide +kernel
theorem dX0_takeOut_29 : decode cX0_takeOut 29 = .ok (.aload_n 2, 1) := by decide +kernel
theorem dX0_takeOut_30 : decode cX0_takeOut 30 = .ok (.getfield 166, 3) := by decide +kernel
theorem dX0_takeOut_33 : decode cX0_takeOut 33 = .ok (.ifCond .ne 8, 3) := by decide +kernel
theorem dX0_takeOut_36 : decode cX0_takeOut 36 = .ok (.aload_n 2, 1) := by decide +kernel
theorem dX0_takeOut_37 : decode cX0_takeOut 37 = .ok (.iconst 0, 1) := by decide +kernel
theorem dX0_takeOut_38 : decode cX0_takeOut 38 = .ok (.putfield 218, 3) := by decide +kernel
theorem dX0_takeOut_41 : decode cX0_takeOut 41 = .ok (.aload_n 1, 1) := by decide +kernel
theorem dX0_takeOut_42 : decode cX0_takeOut 42 = .ok (.invokevirtual 221, 3) := by decide +kernel
theorem dX0_takeOut_45 : decode cX0_takeOut 45 = .ok (.ifCond .eq 7, 3) := by decide +kernel
theorem dX0_takeOut_48 : decode cX0_takeOut 48 = .ok (.aload_n 1, 1) := by decide +kernel
theorem dX0_takeOut_49 : decode cX0_takeOut 49 = .ok (.invokevirtual 225, 3) := by decide +kernel
theorem dX0_takeOut_52 : decode cX0_takeOut 52 = .ok (.return_, 1) := by decide +kernel
theorem dX0_discardAll_0 : decode cX0_discardAll 0 = .ok (.iconst 0, 1) := by decide +kernel
theorem dX0_discardAll_1 : decode cX0_discardAll 1 = .ok (.istore_n 2, 1) := by decide +kernel
theorem dX0_discardAll_2 : decode cX0_discardAll 2 = .ok (.aload_n 1, 1) := by decide +kernel
theorem dX0_discardAll_3 : decode cX0_discardAll 3 = .ok (.getfield 74, 3) := by decide +kernel
theorem dX0_discardAll_6 : decode cX0_discardAll 6 = .ok (.astore_n 3, 1) := by decide +kernel
theorem dX0_discardAll_7 : decode cX0_discardAll 7 = .ok (.aload_n 3, 1) := by decide +kernel
theorem dX0_discardAll_8 : decode cX0_discardAll 8 = .ok (.arraylength, 1) := by decide +kernel
theorem dX0_discardAll_9 : decode cX0_discardAll 9 = .ok (.istore 4, 2) := by decide +kernel
theorem dX0_discardAll_11 : decode cX0_discardAll 11 = .ok (.iconst 0, 1) := by decide +kernel
theorem dX0_discardAll_12 : decode cX0_discardAll 12 = .ok (.istore 5, 2) := by decide +kernel
theorem dX0_discardAll_14 : decode cX0_discardAll 14 = .ok (.iload 5, 2) := by decide +kernel
theorem dX0_discardAll_16 : decode cX0_discardAll 16 = .ok (.iload 4, 2) := by decide +kernel
theorem dX0_discardAll_18 : decode cX0_discardAll 18 = .ok (.if_icmp .ge 73, 3) := by decide +kernel
theorem dX0_discardAll_21 : decode cX0_discardAll 21 = .ok (.aload_n 3, 1) := by decide +kernel
theorem dX0_discardAll_22 : decode cX0_discardAll 22 = .ok (.iload 5, 2) := by decide +kernel
theorem dX0_discardAll_24 : decode cX0_discardAll 24 = .ok (.aaload, 1) := by decide +kernel
theorem dX0_discardAll_25 : decode cX0_discardAll 25 = .ok (.astore 6, 2) := by decide +kernel
theorem dX0_discardAll_27 : decode cX0_discardAll 27 = .ok (.iconst 0, 1) := by decide +kernel
theorem dX0_discardAll_28 : decode cX0_discardAll 28 = .ok (.istore 7, 2) := by decide +kernel
theorem dX0_discardAll_30 : decode cX0_discardAll 30 = .ok (.iload 7, 2) := by decide +kernel
theorem dX0_discardAll_32 : decode cX0_discardAll 32 = .ok (.sipush 128, 3) := by decide +kernel
theorem dX0_discardAll_35 : decode cX0_discardAll 35 = .ok (.if_icmp .ge 50, 3) := by decide +kernel
theorem dX0_discardAll_38 : decode cX0_discardAll 38 = .ok (.aload 6, 2) := by decide +kernel
theorem dX0_discardAll_40 : decode cX0_discardAll 40 = .ok (.getfield 166, 3) := by decide +kernel
theorem dX0_discardAll_43 : decode cX0_discardAll 43 = .ok (.ifCond .le 42, 3) := by decide +kernel
theorem dX0_discardAll_46 : decode cX0_discardAll 46 = .ok (.aload_n 1, 1) := by decide +kernel
theorem dX0_discardAll_47 : decode cX0_discardAll 47 = .ok (.bipush 9, 2) := by decide +kernel
theorem dX0_discardAll_49 : decode cX0_discardAll 49 = .ok (.aload_n 0, 1) := by decide +kernel
theorem dX0_discardAll_50 : decode cX0_discardAll 50 = .ok (.getfield 12, 3) := by decide +kernel
theorem dX0_discardAll_53 : decode cX0_discardAll 53 = .ok (.aload 6, 2) := by decide +kernel
theorem dX0_discardAll_55 : decode cX0_discardAll 55 = .ok (.getfield 228, 3) := by decide +kernel
theorem dX0_discardAll_58 : decode cX0_discardAll 58 = .ok (.invokevirtual 169, 3) := by decide +kernel
theorem dX0_discardAll_61 : decode cX0_discardAll 61 = .ok (.invokevirtual 180, 3) := by decide +kernel
theorem dX0_discardAll_64 : decode cX0_discardAll 64 = .ok (.aload_n 0, 1) := by decide +kernel
theorem dX0_discardAll_65 : decode cX0_discardAll 65 = .ok (.aload_n 1, 1) := by decide +kernel
theorem dX0_discardAll_66 : decode cX0_discardAll 66 = .ok (.aload 6, 2) := by decide +kernel
theorem dX0_discardAll_68 : decode cX0_discardAll 68 = .ok (.aload 6, 2) := by decide +kernel
theorem dX0_discardAll_70 : decode cX0_discardAll 70 = .ok (.getfield 228, 3) := by decide +kernel
theorem dX0_discardAll_73 : decode cX0_discardAll 73 = .ok (.invokevirtual 197, 3) := by decide +kernel
theorem dX0_discardAll_76 : decode cX0_discardAll 76 = .ok (.iinc 2 1, 3) := by decide +kernel
theorem dX0_discardAll_79 : decode cX0_discardAll 79 = .ok (.iinc 7 1, 3) := by decide +kernel
theorem dX0_discardAll_82 : decode cX0_discardAll 82 = .ok (.goto (-52), 3) := by decide +kernel
theorem dX0_discardAll_85 : decode cX0_discardAll 85 = .ok (.iinc 5 1, 3) := by decide +kernel
theorem dX0_discardAll_88 : decode cX0_discardAll 88 = .ok (.goto (-74), 3) := by decide +kernel
theorem dX0_discardAll_91 : decode cX0_discardAll 91 = .ok (.iload_n 2, 1) := by decide +kernel
theorem dX0_discardAll_92 : decode cX0_discardAll 92 = .ok (.ireturn, 1) := by decide +kernel
theorem dX0_passTick_0 : decode cX0_passTick 0 = .ok (.iconst 0, 1) := by decide +kernel
theorem dX0_passTick_1 : decode cX0_passTick 1 = .ok (.istore_n 1, 1) := by decide +kernel
theorem dX0_passTick_2 : decode cX0_passTick 2 = .ok (.iconst 0, 1) := by decide +kernel
theorem dX0_passTick_3 : decode cX0_passTick 3 = .ok (.istore_n 2, 1) := by decide +kernel
theorem dX0_passTick_4 : decode cX0_passTick 4 = .ok (.iload_n 2, 1) := by decide +kernel
theorem dX0_passTick_5 : decode cX0_passTick 5 = .ok (.aload_n 0, 1) := by decide +kernel
theorem dX0_passTick_6 : decode cX0_passTick 6 = .ok (.getfield 38, 3) := by decide +kernel
theorem dX0_passTick_9 : decode cX0_passTick 9 = .ok (.if_icmp .ge 22, 3) := by decide +kernel
theorem dX0_passTick_12 : decode cX0_passTick 12 = .ok (.iload_n 1, 1) := by decide +kernel
theorem dX0_passTick_13 : decode cX0_passTick 13 = .ok (.aload_n 0, 1) := by decide +kernel
theorem dX0_passTick_14 : decode cX0_passTick 14 = .ok (.aload_n 0, 1) := by decide +kernel
theorem dX0_passTick_15 : decode cX0_passTick 15 = .ok (.getfield 20, 3) := by decide +kernel
theorem dX0_passTick_18 : decode cX0_passTick 18 = .ok (.iload_n 2, 1) := by decide +kernel
theorem dX0_passTick_19 : decode cX0_passTick 19 = .ok (.aaload, 1) := by decide +kernel
theorem dX0_passTick_20 : decode cX0_passTick 20 = .ok (.invokevirtual 231, 3) := by decide +kernel
theorem dX0_passTick_23 : decode cX0_passTick 23 = .ok (.iadd, 1) := by decide +kernel
theorem dX0_passTick_24 : decode cX0_passTick 24 = .ok (.istore_n 1, 1) := by decide +kernel
theorem dX0_passTick_25 : decode cX0_passTick 25 = .ok (.iinc 2 1, 3) := by decide +kernel
theorem dX0_passTick_28 : decode cX0_passTick 28 = .ok (.goto (-24), 3) := by decide +kernel
theorem dX0_passTick_31 : decode cX0_passTick 31 = .ok (.aload_n 0, 1) := by decide +kernel
theorem dX0_passTick_32 : decode cX0_passTick 32 = .ok (.invokevirtual 101, 3) := by decide +kernel
theorem dX0_passTick_35 : decode cX0_passTick 35 = .ok (.istore_n 2, 1) := by decide +kernel
theorem dX0_passTick_36 : decode cX0_passTick 36 = .ok (.iconst 0, 1) := by decide +kernel
theorem dX0_passTick_37 : decode cX0_passTick 37 = .ok (.istore_n 3, 1) := by decide +kernel
theorem dX0_passTick_38 : decode cX0_passTick 38 = .ok (.iload_n 3, 1) := by decide +kernel
theorem dX0_passTick_39 : decode cX0_passTick 39 = .ok (.aload_n 0, 1) := by decide +kernel
theorem dX0_passTick_40 : decode cX0_passTick 40 = .ok (.getfield 38, 3) := by decide +kernel
theorem dX0_passTick_43 : decode cX0_passTick 43 = .ok (.if_icmp .ge 102, 3) := by decide +kernel
theorem dX0_passTick_46 : decode cX0_passTick 46 = .ok (.aload_n 0, 1) := by decide +kernel
theorem dX0_passTick_47 : decode cX0_passTick 47 = .ok (.getfield 20, 3) := by decide +kernel
theorem dX0_passTick_50 : decode cX0_passTick 50 = .ok (.iload_n 3, 1) := by decide +kernel
theorem dX0_passTick_51 : decode cX0_passTick 51 = .ok (.aaload, 1) := by decide +kernel
theorem dX0_passTick_52 : decode cX0_passTick 52 = .ok (.getfield 74, 3) := by decide +kernel
theorem dX0_passTick_55 : decode cX0_passTick 55 = .ok (.astore 4, 2) := by decide +kernel
theorem dX0_passTick_57 : decode cX0_passTick 57 = .ok (.aload 4, 2) := by decide +kernel
theorem dX0_passTick_59 : decode cX0_passTick 59 = .ok (.arraylength, 1) := by decide +kernel
theorem dX0_passTick_60 : decode cX0_passTick 60 = .ok (.istore 5, 2) := by decide +kernel
theorem dX0_passTick_62 : decode cX0_passTick 62 = .ok (.iconst 0, 1) := by decide +kernel
theorem dX0_passTick_63 : decode cX0_passTick 63 = .ok (.istore 6, 2) := by decide +kernel
theorem dX0_passTick_65 : decode cX0_passTick 65 = .ok (.iload 6, 2) := by decide +kernel
theorem dX0_passTick_67 : decode cX0_passTick 67 = .ok (.iload 5, 2) := by decide +kernel
theorem dX0_passTick_69 : decode cX0_passTick 69 = .ok (.if_icmp .ge 70, 3) := by decide +kernel
theorem dX0_passTick_72 : decode cX0_passTick 72 = .ok (.aload 4, 2) := by decide +kernel
theorem dX0_passTick_74 : decode cX0_passTick 74 = .ok (.iload 6, 2) := by decide +kernel
theorem dX0_passTick_76 : decode cX0_passTick 76 = .ok (.aaload, 1) := by decide +kernel
theorem dX0_passTick_77 : decode cX0_passTick 77 = .ok (.astore 7, 2) := by decide +kernel
theorem dX0_passTick_79 : decode cX0_passTick 79 = .ok (.aload 7, 2) := by decide +kernel
theorem dX0_passTick_81 : decode cX0_passTick 81 = .ok (.aload 7, 2) := by decide +kernel
theorem dX0_passTick_83 : decode cX0_passTick 83 = .ok (.getfield 235, 3) := by decide +kernel
theorem dX0_passTick_86 : decode cX0_passTick 86 = .ok (.aload 7, 2) := by decide +kernel
theorem dX0_passTick_88 : decode cX0_passTick 88 = .ok (.getfield 238, 3) := by decide +kernel
theorem dX0_passTick_91 : decode cX0_passTick 91 = .ok (.aload 7, 2) := by decide +kernel
theorem dX0_passTick_93 : decode cX0_passTick 93 = .ok (.getfield 241, 3) := by decide +kernel
theorem dX0_passTick_96 : decode cX0_passTick 96 = .ok (.iadd, 1) := by decide +kernel
theorem dX0_passTick_97 : decode cX0_passTick 97 = .ok (.invokestatic 126, 3) := by decide +kernel
theorem dX0_passTick_100 : decode cX0_passTick 100 = .ok (.putfield 238, 3) := by decide +kernel
theorem dX0_passTick_103 : decode cX0_passTick 103 = .ok (.aload 7, 2) := by decide +kernel
theorem dX0_passTick_105 : decode cX0_passTick 105 = .ok (.getfield 157, 3) := by decide +kernel
theorem dX0_passTick_108 : decode cX0_passTick 108 = .ok (.ifCond .ne 25, 3) := by decide +kernel
theorem dX0_passTick_111 : decode cX0_passTick 111 = .ok (.aload 7, 2) := by decide +kernel
theorem dX0_passTick_113 : decode cX0_passTick 113 = .ok (.getfield 160, 3) := by decide +kernel
theorem dX0_passTick_116 : decode cX0_passTick 116 = .ok (.iconst 2, 1) := by decide +kernel
theorem dX0_passTick_117 : decode cX0_passTick 117 = .ok (.iadd, 1) := by decide +kernel
theorem dX0_passTick_118 : decode cX0_passTick 118 = .ok (.aload 7, 2) := by decide +kernel
theorem dX0_passTick_120 : decode cX0_passTick 120 = .ok (.iload_n 2, 1) := by decide +kernel
theorem dX0_passTick_121 : decode cX0_passTick 121 = .ok (.invokevirtual 244, 3) := by decide +kernel
theorem dX0_passTick_124 : decode cX0_passTick 124 = .ok (.if_icmp .gt 9, 3) := by decide +kernel
theorem dX0_passTick_127 : decode cX0_passTick 127 = .ok (.aload 7, 2) := by decide +kernel
theorem dX0_passTick_129 : decode cX0_passTick 129 = .ok (.iconst 0, 1) := by decide +kernel
theorem dX0_passTick_130 : decode cX0_passTick 130 = .ok (.putfield 247, 3) := by decide +kernel
theorem dX0_passTick_133 : decode cX0_passTick 133 = .ok (.iinc 6 1, 3) := by decide +kernel
theorem dX0_passTick_136 : decode cX0_passTick 136 = .ok (.goto (-71), 3) := by decide +kernel
theorem dX0_passTick_139 : decode cX0_passTick 139 = .ok (.iinc 3 1, 3) := by decide +kernel
theorem dX0_passTick_142 : decode cX0_passTick 142 = .ok (.goto (-104), 3) := by decide +kernel
theorem dX0_passTick_145 : decode cX0_passTick 145 = .ok (.aload_n 0, 1) := by decide +kernel
theorem dX0_passTick_146 : decode cX0_passTick 146 = .ok (.dup, 1) := by decide +kernel
theorem dX0_passTick_147 : decode cX0_passTick 147 = .ok (.getfield 46, 3) := by decide +kernel
theorem dX0_passTick_150 : decode cX0_passTick 150 = .ok (.iconst 1, 1) := by decide +kernel
theorem dX0_passTick_151 : decode cX0_passTick 151 = .ok (.iadd, 1) := by decide +kernel
theorem dX0_passTick_152 : decode cX0_passTick 152 = .ok (.putfield 46, 3) := by decide +kernel
theorem dX0_passTick_155 : decode cX0_passTick 155 = .ok (.iload_n 1, 1) := by decide +kernel
theorem dX0_passTick_156 : decode cX0_passTick 156 = .ok (.ireturn, 1) := by decide +kernel
theorem dX0_send_0 : decode cX0_send 0 = .ok (.aload_n 1, 1) := by decide +kernel
theorem dX0_send_1 : decode cX0_send 1 = .ok (.invokevirtual 221, 3) := by decide +kernel
theorem dX0_send_4 : decode cX0_send 4 = .ok (.ifCond .eq 5, 3) := by decide +kernel
theorem dX0_send_7 : decode cX0_send 7 = .ok (.iconst 0, 1) := by decide +kernel
theorem dX0_send_8 : decode cX0_send 8 = .ok (.ireturn, 1) := by decide +kernel
theorem dX0_send_9 : decode cX0_send 9 = .ok (.aload_n 1, 1) := by decide +kernel
theorem dX0_send_10 : decode cX0_send 10 = .ok (.dup, 1) := by decide +kernel
theorem dX0_send_11 : decode cX0_send 11 = .ok (.getfield 250, 3) := by decide +kernel
theorem dX0_send_14 : decode cX0_send 14 = .ok (.aload_n 1, 1) := by decide +kernel
theorem dX0_send_15 : decode cX0_send 15 = .ok (.getfield 253, 3) := by decide +kernel
theorem dX0_send_18 : decode cX0_send 18 = .ok (.iadd, 1) := by decide +kernel
theorem dX0_send_19 : decode cX0_send 19 = .ok (.putfield 250, 3) := by decide +kernel
theorem dX0_send_22 : decode cX0_send 22 = .ok (.aload_n 1, 1) := by decide +kernel
theorem dX0_send_23 : decode cX0_send 23 = .ok (.getfield 256, 3) := by decide +kernel
theorem dX0_send_26 : decode cX0_send 26 = .ok (.ifCond .eq 11, 3) := by decide +kernel
theorem dX0_send_29 : decode cX0_send 29 = .ok (.aload_n 0, 1) := by decide +kernel
theorem dX0_send_30 : decode cX0_send 30 = .ok (.aload_n 1, 1) := by decide +kernel
theorem dX0_send_31 : decode cX0_send 31 = .ok (.invokevirtual 259, 3) := by decide +kernel
theorem dX0_send_34 : decode cX0_send 34 = .ok (.goto 8, 3) := by decide +kernel
theorem dX0_send_37 : decode cX0_send 37 = .ok (.aload_n 0, 1) := by decide +kernel
theorem dX0_send_38 : decode cX0_send 38 = .ok (.aload_n 1, 1) := by decide +kernel
theorem dX0_send_39 : decode cX0_send 39 = .ok (.invokevirtual 262, 3) := by decide +kernel
theorem dX0_send_42 : decode cX0_send 42 = .ok (.istore_n 2, 1) := by decide +kernel
theorem dX0_send_43 : decode cX0_send 43 = .ok (.aload_n 1, 1) := by decide +kernel
theorem dX0_send_44 : decode cX0_send 44 = .ok (.dup, 1) := by decide +kernel
theorem dX0_send_45 : decode cX0_send 45 = .ok (.getfield 265, 3) := by decide +kernel
theorem dX0_send_48 : decode cX0_send 48 = .ok (.iload_n 2, 1) := by decide +kernel
theorem dX0_send_49 : decode cX0_send 49 = .ok (.iadd, 1) := by decide +kernel
theorem dX0_send_50 : decode cX0_send 50 = .ok (.putfield 265, 3) := by decide +kernel
theorem dX0_send_53 : decode cX0_send 53 = .ok (.iload_n 2, 1) := by decide +kernel
theorem dX0_send_54 : decode cX0_send 54 = .ok (.ireturn, 1) := by decide +kernel
theorem dX0_sendByPriority_0 : decode cX0_sendByPriority 0 = .ok (.iconst 0, 1) := by decide +kernel
theorem dX0_sendByPriority_1 : decode cX0_sendByPriority 1 = .ok (.istore_n 2, 1) := by decide +kernel
theorem dX0_sendByPriority_2 : decode cX0_sendByPriority 2 = .ok (.iconst 0, 1) := by decide +kernel
theorem dX0_sendByPriority_3 : decode cX0_sendByPriority 3 = .ok (.istore_n 3, 1) := by decide +kernel
theorem dX0_sendByPriority_4 : decode cX0_sendByPriority 4 = .ok (.iload_n 3, 1) := by decide +kernel
theorem dX0_sendByPriority_5 : decode cX0_sendByPriority 5 = .ok (.sipush 128, 3) := by decide +kernel
theorem dX0_sendByPriority_8 : decode cX0_sendByPriority 8 = .ok (.if_icmp .ge 75, 3) := by decide +kernel
theorem dX0_sendByPriority_11 : decode cX0_sendByPriority 11 = .ok (.aload_n 1, 1) := by decide +kernel
theorem dX0_sendByPriority_12 : decode cX0_sendByPriority 12 = .ok (.invokevirtual 268, 3) := by decide +kernel
theorem dX0_sendByPriority_15 : decode cX0_sendByPriority 15 = .ok (.astore 4, 2) := by decide +kernel
theorem dX0_sendByPriority_17 : decode cX0_sendByPriority 17 = .ok (.aload 4, 2) := by decide +kernel
theorem dX0_sendByPriority_19 : decode cX0_sendByPriority 19 = .ok (.ifnonnull 6, 3) := by decide +kernel
theorem dX0_sendByPriority_22 : decode cX0_sendByPriority 22 = .ok (.goto 61, 3) := by decide +kernel
theorem dX0_sendByPriority_25 : decode cX0_sendByPriority 25 = .ok (.aload_n 0, 1) := by decide +kernel
theorem dX0_sendByPriority_26 : decode cX0_sendByPriority 26 = .ok (.getfield 12, 3) := by decide +kernel
theorem dX0_sendByPriority_29 : decode cX0_sendByPriority 29 = .ok (.aload 4, 2) := by decide +kernel
theorem dX0_sendByPriority_31 : decode cX0_sendByPriority 31 = .ok (.getfield 228, 3) := by decide +kernel
theorem dX0_sendByPriority_34 : decode cX0_sendByPriority 34 = .ok (.invokevirtual 169, 3) := by decide +kernel
theorem dX0_sendByPriority_37 : decode cX0_sendByPriority 37 = .ok (.istore 5, 2) := by decide +kernel
theorem dX0_sendByPriority_39 : decode cX0_sendByPriority 39 = .ok (.iload 5, 2) := by decide +kernel
theorem dX0_sendByPriority_41 : decode cX0_sendByPriority 41 = .ok (.aload_n 1, 1) := by decide +kernel
theorem dX0_sendByPriority_42 : decode cX0_sendByPriority 42 = .ok (.getfield 250, 3) := by decide +kernel
theorem dX0_sendByPriority_45 : decode cX0_sendByPriority 45 = .ok (.if_icmp .le 6, 3) := by decide +kernel
theorem dX0_sendByPriority_48 : decode cX0_sendByPriority 48 = .ok (.goto 35, 3) := by decide +kernel
theorem dX0_sendByPriority_51 : decode cX0_sendByPriority 51 = .ok (.aload_n 1, 1) := by decide +kernel
theorem dX0_sendByPriority_52 : decode cX0_sendByPriority 52 = .ok (.dup, 1) := by decide +kernel
theorem dX0_sendByPriority_53 : decode cX0_sendByPriority 53 = .ok (.getfield 250, 3) := by decide +kernel
theorem dX0_sendByPriority_56 : decode cX0_sendByPriority 56 = .ok (.iload 5, 2) := by decide +kernel
theorem dX0_sendByPriority_58 : decode cX0_sendByPriority 58 = .ok (.isub, 1) := by decide +kernel
theorem dX0_sendByPriority_59 : decode cX0_sendByPriority 59 = .ok (.putfield 250, 3) := by decide +kernel
theorem dX0_sendByPriority_62 : decode cX0_sendByPriority 62 = .ok (.aload_n 0, 1) := by decide +kernel
theorem dX0_sendByPriority_63 : decode cX0_sendByPriority 63 = .ok (.aload_n 1, 1) := by decide +kernel
theorem dX0_sendByPriority_64 : decode cX0_sendByPriority 64 = .ok (.aload 4, 2) := by decide +kernel
theorem dX0_sendByPriority_66 : decode cX0_sendByPriority 66 = .ok (.aload 4, 2) := by decide +kernel
theorem dX0_sendByPriority_68 : decode cX0_sendByPriority 68 = .ok (.getfield 228, 3) := by decide +kernel
theorem dX0_sendByPriority_71 : decode cX0_sendByPriority 71 = .ok (.invokevirtual 197, 3) := by decide +kernel
theorem dX0_sendByPriority_74 : decode cX0_sendByPriority 74 = .ok (.iinc 2 1, 3) := by decide +kernel
theorem dX0_sendByPriority_77 : decode cX0_sendByPriority 77 = .ok (.iinc 3 1, 3) := by decide +kernel
theorem dX0_sendByPriority_80 : decode cX0_sendByPriority 80 = .ok (.goto (-76), 3) := by decide +kernel
theorem dX0_sendByPriority_83 : decode cX0_sendByPriority 83 = .ok (.iload_n 2, 1) := by decide +kernel
theorem dX0_sendByPriority_84 : decode cX0_sendByPriority 84 = .ok (.ireturn, 1) := by decide +kernel
theorem dX0_sendInTurns_0 : decode cX0_sendInTurns 0 = .ok (.iconst 0, 1) := by decide +kernel
theorem dX0_sendInTurns_1 : decode cX0_sendInTurns 1 = .ok (.istore_n 2, 1) := by decide +kernel
theorem dX0_sendInTurns_2 : decode cX0_sendInTurns 2 = .ok (.iconst 0, 1) := by decide +kernel
theorem dX0_sendInTurns_3 : decode cX0_sendInTurns 3 = .ok (.istore_n 3, 1) := by decide +kernel
theorem dX0_sendInTurns_4 : decode cX0_sendInTurns 4 = .ok (.iload_n 3, 1) := by decide +kernel
theorem dX0_sendInTurns_5 : decode cX0_sendInTurns 5 = .ok (.ldc_w 272, 3) := by decide +kernel
theorem dX0_sendInTurns_8 : decode cX0_sendInTurns 8 = .ok (.if_icmp .ge 150, 3) := by decide +kernel
theorem dX0_sendInTurns_11 : decode cX0_sendInTurns 11 = .ok (.aload_n 1, 1) := by decide +kernel
theorem dX0_sendInTurns_12 : decode cX0_sendInTurns 12 = .ok (.invokevirtual 221, 3) := by decide +kernel
theorem dX0_sendInTurns_15 : decode cX0_sendInTurns 15 = .ok (.ifCond .ne 143, 3) := by decide +kernel
theorem dX0_sendInTurns_18 : decode cX0_sendInTurns 18 = .ok (.aload_n 1, 1) := by decide +kernel
theorem dX0_sendInTurns_19 : decode cX0_sendInTurns 19 = .ok (.invokevirtual 273, 3) := by decide +kernel
theorem dX0_sendInTurns_22 : decode cX0_sendInTurns 22 = .ok (.astore 4, 2) := by decide +kernel
theorem dX0_sendInTurns_24 : decode cX0_sendInTurns 24 = .ok (.aload 4, 2) := by decide +kernel
theorem dX0_sendInTurns_26 : decode cX0_sendInTurns 26 = .ok (.ifnull 11, 3) := by decide +kernel
theorem dX0_sendInTurns_29 : decode cX0_sendInTurns 29 = .ok (.aload 4, 2) := by decide +kernel
theorem dX0_sendInTurns_31 : decode cX0_sendInTurns 31 = .ok (.getfield 166, 3) := by decide +kernel
theorem dX0_sendInTurns_34 : decode cX0_sendInTurns 34 = .ok (.ifCond .ne 10, 3) := by decide +kernel
theorem dX0_sendInTurns_37 : decode cX0_sendInTurns 37 = .ok (.aload_n 1, 1) := by decide +kernel
theorem dX0_sendInTurns_38 : decode cX0_sendInTurns 38 = .ok (.invokevirtual 276, 3) := by decide +kernel
theorem dX0_sendInTurns_41 : decode cX0_sendInTurns 41 = .ok (.goto 111, 3) := by decide +kernel
theorem dX0_sendInTurns_44 : decode cX0_sendInTurns 44 = .ok (.aload_n 1, 1) := by decide +kernel
theorem dX0_sendInTurns_45 : decode cX0_sendInTurns 45 = .ok (.getfield 279, 3) := by decide +kernel
theorem dX0_sendInTurns_48 : decode cX0_sendInTurns 48 = .ok (.ifCond .eq 23, 3) := by decide +kernel
theorem dX0_sendInTurns_51 : decode cX0_sendInTurns 51 = .ok (.aload 4, 2) := by decide +kernel
theorem dX0_sendInTurns_53 : decode cX0_sendInTurns 53 = .ok (.dup, 1) := by decide +kernel
theorem dX0_sendInTurns_54 : decode cX0_sendInTurns 54 = .ok (.getfield 218, 3) := by decide +kernel
theorem dX0_sendInTurns_57 : decode cX0_sendInTurns 57 = .ok (.aload 4, 2) := by decide +kernel
theorem dX0_sendInTurns_59 : decode cX0_sendInTurns 59 = .ok (.getfield 282, 3) := by decide +kernel
theorem dX0_sendInTurns_62 : decode cX0_sendInTurns 62 = .ok (.iadd, 1) := by decide +kernel
theorem dX0_sendInTurns_63 : decode cX0_sendInTurns 63 = .ok (.putfield 218, 3) := by decide +kernel
theorem dX0_sendInTurns_66 : decode cX0_sendInTurns 66 = .ok (.aload_n 1, 1) := by decide +kernel
theorem dX0_sendInTurns_67 : decode cX0_sendInTurns 67 = .ok (.iconst 0, 1) := by decide +kernel
theorem dX0_sendInTurns_68 : decode cX0_sendInTurns 68 = .ok (.putfield 279, 3) := by decide +kernel
theorem dX0_sendInTurns_71 : decode cX0_sendInTurns 71 = .ok (.aload_n 0, 1) := by decide +kernel
theorem dX0_sendInTurns_72 : decode cX0_sendInTurns 72 = .ok (.getfield 12, 3) := by decide +kernel
theorem dX0_sendInTurns_75 : decode cX0_sendInTurns 75 = .ok (.aload 4, 2) := by decide +kernel
theorem dX0_sendInTurns_77 : decode cX0_sendInTurns 77 = .ok (.getfield 228, 3) := by decide +kernel
theorem dX0_sendInTurns_80 : decode cX0_sendInTurns 80 = .ok (.invokevirtual 169, 3) := by decide +kernel
theorem dX0_sendInTurns_83 : decode cX0_sendInTurns 83 = .ok (.istore 5, 2) := by decide +kernel
theorem dX0_sendInTurns_85 : decode cX0_sendInTurns 85 = .ok (.iload 5, 2) := by decide +kernel
theorem dX0_sendInTurns_87 : decode cX0_sendInTurns 87 = .ok (.aload 4, 2) := by decide +kernel
theorem dX0_sendInTurns_89 : decode cX0_sendInTurns 89 = .ok (.getfield 218, 3) := by decide +kernel
theorem dX0_sendInTurns_92 : decode cX0_sendInTurns 92 = .ok (.if_icmp .le 10, 3) := by decide +kernel
theorem dX0_sendInTurns_95 : decode cX0_sendInTurns 95 = .ok (.aload_n 1, 1) := by decide +kernel
theorem dX0_sendInTurns_96 : decode cX0_sendInTurns 96 = .ok (.invokevirtual 276, 3) := by decide +kernel
theorem dX0_sendInTurns_99 : decode cX0_sendInTurns 99 = .ok (.goto 53, 3) := by decide +kernel
theorem dX0_sendInTurns_102 : decode cX0_sendInTurns 102 = .ok (.iload 5, 2) := by decide +kernel
theorem dX0_sendInTurns_104 : decode cX0_sendInTurns 104 = .ok (.aload_n 1, 1) := by decide +kernel
theorem dX0_sendInTurns_105 : decode cX0_sendInTurns 105 = .ok (.getfield 250, 3) := by decide +kernel
theorem dX0_sendInTurns_108 : decode cX0_sendInTurns 108 = .ok (.if_icmp .le 6, 3) := by decide +kernel
theorem dX0_sendInTurns_111 : decode cX0_sendInTurns 111 = .ok (.goto 47, 3) := by decide +kernel
theorem dX0_sendInTurns_114 : decode cX0_sendInTurns 114 = .ok (.aload 4, 2) := by decide +kernel
theorem dX0_sendInTurns_116 : decode cX0_sendInTurns 116 = .ok (.dup, 1) := by decide +kernel
theorem dX0_sendInTurns_117 : decode cX0_sendInTurns 117 = .ok (.getfield 218, 3) := by decide +kernel
theorem dX0_sendInTurns_120 : decode cX0_sendInTurns 120 = .ok (.iload 5, 2) := by decide +kernel
theorem dX0_sendInTurns_122 : decode cX0_sendInTurns 122 = .ok (.isub, 1) := by decide +kernel
theorem dX0_sendInTurns_123 : decode cX0_sendInTurns 123 = .ok (.putfield 218, 3) := by decide +kernel
theorem dX0_sendInTurns_126 : decode cX0_sendInTurns 126 = .ok (.aload_n 1, 1) := by decide +kernel
theorem dX0_sendInTurns_127 : decode cX0_sendInTurns 127 = .ok (.dup, 1) := by decide +kernel
theorem dX0_sendInTurns_128 : decode cX0_sendInTurns 128 = .ok (.getfield 250, 3) := by decide +kernel
theorem dX0_sendInTurns_131 : decode cX0_sendInTurns 131 = .ok (.iload 5, 2) := by decide +kernel
theorem dX0_sendInTurns_133 : decode cX0_sendInTurns 133 = .ok (.isub, 1) := by decide +kernel
theorem dX0_sendInTurns_134 : decode cX0_sendInTurns 134 = .ok (.putfield 250, 3) := by decide +kernel
theorem dX0_sendInTurns_137 : decode cX0_sendInTurns 137 = .ok (.aload_n 0, 1) := by decide +kernel
theorem dX0_sendInTurns_138 : decode cX0_sendInTurns 138 = .ok (.aload_n 1, 1) := by decide +kernel
theorem dX0_sendInTurns_139 : decode cX0_sendInTurns 139 = .ok (.aload 4, 2) := by decide +kernel
theorem dX0_sendInTurns_141 : decode cX0_sendInTurns 141 = .ok (.aload 4, 2) := by decide +kernel
theorem dX0_sendInTurns_143 : decode cX0_sendInTurns 143 = .ok (.getfield 228, 3) := by decide +kernel
theorem dX0_sendInTurns_146 : decode cX0_sendInTurns 146 = .ok (.invokevirtual 197, 3) := by decide +kernel
theorem dX0_sendInTurns_149 : decode cX0_sendInTurns 149 = .ok (.iinc 2 1, 3) := by decide +kernel
theorem dX0_sendInTurns_152 : decode cX0_sendInTurns 152 = .ok (.iinc 3 1, 3) := by decide +kernel
theorem dX0_sendInTurns_155 : decode cX0_sendInTurns 155 = .ok (.goto (-151), 3) := by decide +kernel
theorem dX0_sendInTurns_158 : decode cX0_sendInTurns 158 = .ok (.iload_n 2, 1) := by decide +kernel
theorem dX0_sendInTurns_159 : decode cX0_sendInTurns 159 = .ok (.ireturn, 1) := by decide +kernel
