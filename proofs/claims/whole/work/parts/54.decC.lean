theorem dX5_init_0 : decode cX5_init 0 = .ok (.aload_n 0, 1) := by decide +kernel
theorem dX5_init_1 : decode cX5_init 1 = .ok (.invokespecial 1, 3) := by decide +kernel
theorem dX5_init_4 : decode cX5_init 4 = .ok (.aload_n 0, 1) := by decide +kernel
theorem dX5_init_5 : decode cX5_init 5 = .ok (.new 7, 3) := by decide +kernel
theorem dX5_init_8 : decode cX5_init 8 = .ok (.dup, 1) := by decide +kernel
theorem dX5_init_9 : decode cX5_init 9 = .ok (.invokespecial 9, 3) := by decide +kernel
theorem dX5_init_12 : decode cX5_init 12 = .ok (.putfield 10, 3) := by decide +kernel
theorem dX5_init_15 : decode cX5_init 15 = .ok (.aload_n 0, 1) := by decide +kernel
theorem dX5_init_16 : decode cX5_init 16 = .ok (.new 7, 3) := by decide +kernel
theorem dX5_init_19 : decode cX5_init 19 = .ok (.dup, 1) := by decide +kernel
theorem dX5_init_20 : decode cX5_init 20 = .ok (.invokespecial 9, 3) := by decide +kernel
theorem dX5_init_23 : decode cX5_init 23 = .ok (.putfield 16, 3) := by decide +kernel
theorem dX5_init_26 : decode cX5_init 26 = .ok (.aload_n 0, 1) := by decide +kernel
theorem dX5_init_27 : decode cX5_init 27 = .ok (.iconst 2, 1) := by decide +kernel
theorem dX5_init_28 : decode cX5_init 28 = .ok (.anewarray 7, 3) := by decide +kernel
theorem dX5_init_31 : decode cX5_init 31 = .ok (.putfield 19, 3) := by decide +kernel
theorem dX5_init_34 : decode cX5_init 34 = .ok (.iconst 0, 1) := by decide +kernel
theorem dX5_init_35 : decode cX5_init 35 = .ok (.istore_n 1, 1) := by decide +kernel
theorem dX5_init_36 : decode cX5_init 36 = .ok (.iload_n 1, 1) := by decide +kernel
theorem dX5_init_37 : decode cX5_init 37 = .ok (.iconst 2, 1) := by decide +kernel
theorem dX5_init_38 : decode cX5_init 38 = .ok (.if_icmp .ge 22, 3) := by decide +kernel
theorem dX5_init_41 : decode cX5_init 41 = .ok (.aload_n 0, 1) := by decide +kernel
theorem dX5_init_42 : decode cX5_init 42 = .ok (.getfield 19, 3) := by decide +kernel
theorem dX5_init_45 : decode cX5_init 45 = .ok (.iload_n 1, 1) := by decide +kernel
theorem dX5_init_46 : decode cX5_init 46 = .ok (.new 7, 3) := by decide +kernel
theorem dX5_init_49 : decode cX5_init 49 = .ok (.dup, 1) := by decide +kernel
theorem dX5_init_50 : decode cX5_init 50 = .ok (.invokespecial 9, 3) := by decide +kernel
theorem dX5_init_53 : decode cX5_init 53 = .ok (.aastore, 1) := by decide +kernel
theorem dX5_init_54 : decode cX5_init 54 = .ok (.iinc 1 1, 3) := by decide +kernel
theorem dX5_init_57 : decode cX5_init 57 = .ok (.goto (-21), 3) := by decide +kernel
theorem dX5_init_60 : decode cX5_init 60 = .ok (.aload_n 0, 1) := by decide +kernel
theorem dX5_init_61 : decode cX5_init 61 = .ok (.iconst 2, 1) := by decide +kernel
theorem dX5_init_62 : decode cX5_init 62 = .ok (.newarray .boolean, 2) := by decide +kernel
theorem dX5_init_64 : decode cX5_init 64 = .ok (.putfield 23, 3) := by decide +kernel
theorem dX5_init_67 : decode cX5_init 67 = .ok (.aload_n 0, 1) := by decide +kernel
theorem dX5_init_68 : decode cX5_init 68 = .ok (.new 27, 3) := by decide +kernel
theorem dX5_init_71 : decode cX5_init 71 = .ok (.dup, 1) := by decide +kernel
theorem dX5_init_72 : decode cX5_init 72 = .ok (.invokespecial 29, 3) := by decide +kernel
theorem dX5_init_75 : decode cX5_init 75 = .ok (.putfield 30, 3) := by decide +kernel
theorem dX5_init_78 : decode cX5_init 78 = .ok (.aload_n 0, 1) := by decide +kernel
theorem dX5_init_79 : decode cX5_init 79 = .ok (.getfield 10, 3) := by decide +kernel
theorem dX5_init_82 : decode cX5_init 82 = .ok (.bipush 64, 2) := by decide +kernel
theorem dX5_init_84 : decode cX5_init 84 = .ok (.iconst 4, 1) := by decide +kernel
theorem dX5_init_85 : decode cX5_init 85 = .ok (.invokevirtual 34, 3) := by decide +kernel
theorem dX5_init_88 : decode cX5_init 88 = .ok (.return_, 1) := by decide +kernel
theorem dX5_reset_0 : decode cX5_reset 0 = .ok (.iload_n 1, 1) := by decide +kernel
theorem dX5_reset_1 : decode cX5_reset 1 = .ok (.bipush 16, 2) := by decide +kernel
theorem dX5_reset_3 : decode cX5_reset 3 = .ok (.sipush 128, 3) := by decide +kernel
theorem dX5_reset_6 : decode cX5_reset 6 = .ok (.invokestatic 38, 3) := by decide +kernel
theorem dX5_reset_9 : decode cX5_reset 9 = .ok (.ifCond .ne 13, 3) := by decide +kernel
theorem dX5_reset_12 : decode cX5_reset 12 = .ok (.iload_n 2, 1) := by decide +kernel
theorem dX5_reset_13 : decode cX5_reset 13 = .ok (.iconst 1, 1) := by decide +kernel
theorem dX5_reset_14 : decode cX5_reset 14 = .ok (.bipush 6, 2) := by decide +kernel
theorem dX5_reset_16 : decode cX5_reset 16 = .ok (.invokestatic 38, 3) := by decide +kernel
theorem dX5_reset_19 : decode cX5_reset 19 = .ok (.ifCond .eq 6, 3) := by decide +kernel
theorem dX5_reset_22 : decode cX5_reset 22 = .ok (.bipush (-2), 2) := by decide +kernel
theorem dX5_reset_24 : decode cX5_reset 24 = .ok (.ireturn, 1) := by decide +kernel
theorem dX5_reset_25 : decode cX5_reset 25 = .ok (.aload_n 0, 1) := by decide +kernel
theorem dX5_reset_26 : decode cX5_reset 26 = .ok (.getfield 10, 3) := by decide +kernel
theorem dX5_reset_29 : decode cX5_reset 29 = .ok (.getfield 42, 3) := by decide +kernel
theorem dX5_reset_32 : decode cX5_reset 32 = .ok (.getfield 46, 3) := by decide +kernel
theorem dX5_reset_35 : decode cX5_reset 35 = .ok (.istore_n 3, 1) := by decide +kernel
theorem dX5_reset_36 : decode cX5_reset 36 = .ok (.aload_n 0, 1) := by decide +kernel
theorem dX5_reset_37 : decode cX5_reset 37 = .ok (.getfield 10, 3) := by decide +kernel
theorem dX5_reset_40 : decode cX5_reset 40 = .ok (.iload_n 1, 1) := by decide +kernel
theorem dX5_reset_41 : decode cX5_reset 41 = .ok (.iload_n 2, 1) := by decide +kernel
theorem dX5_reset_42 : decode cX5_reset 42 = .ok (.invokevirtual 34, 3) := by decide +kernel
theorem dX5_reset_45 : decode cX5_reset 45 = .ok (.iload_n 3, 1) := by decide +kernel
theorem dX5_reset_46 : decode cX5_reset 46 = .ok (.ireturn, 1) := by decide +kernel
theorem dX5_setReserve_0 : decode cX5_setReserve 0 = .ok (.aload_n 0, 1) := by decide +kernel
theorem dX5_setReserve_1 : decode cX5_setReserve 1 = .ok (.getfield 10, 3) := by decide +kernel
theorem dX5_setReserve_4 : decode cX5_setReserve 4 = .ok (.iload_n 1, 1) := by decide +kernel
theorem dX5_setReserve_5 : decode cX5_setReserve 5 = .ok (.invokevirtual 52, 3) := by decide +kernel
theorem dX5_setReserve_8 : decode cX5_setReserve 8 = .ok (.astore_n 3, 1) := by decide +kernel
theorem dX5_setReserve_9 : decode cX5_setReserve 9 = .ok (.aload_n 3, 1) := by decide +kernel
theorem dX5_setReserve_10 : decode cX5_setReserve 10 = .ok (.ifnonnull 5, 3) := by decide +kernel
theorem dX5_setReserve_13 : decode cX5_setReserve 13 = .ok (.iconst (-1), 1) := by decide +kernel
theorem dX5_setReserve_14 : decode cX5_setReserve 14 = .ok (.ireturn, 1) := by decide +kernel
theorem dX5_setReserve_15 : decode cX5_setReserve 15 = .ok (.iload_n 2, 1) := by decide +kernel
theorem dX5_setReserve_16 : decode cX5_setReserve 16 = .ok (.iconst 0, 1) := by decide +kernel
theorem dX5_setReserve_17 : decode cX5_setReserve 17 = .ok (.bipush 64, 2) := by decide +kernel
theorem dX5_setReserve_19 : decode cX5_setReserve 19 = .ok (.invokestatic 38, 3) := by decide +kernel
theorem dX5_setReserve_22 : decode cX5_setReserve 22 = .ok (.ifCond .eq 6, 3) := by decide +kernel
theorem dX5_setReserve_25 : decode cX5_setReserve 25 = .ok (.bipush (-2), 2) := by decide +kernel
theorem dX5_setReserve_27 : decode cX5_setReserve 27 = .ok (.ireturn, 1) := by decide +kernel
theorem dX5_setReserve_28 : decode cX5_setReserve 28 = .ok (.aload_n 3, 1) := by decide +kernel
theorem dX5_setReserve_29 : decode cX5_setReserve 29 = .ok (.getfield 56, 3) := by decide +kernel
theorem dX5_setReserve_32 : decode cX5_setReserve 32 = .ok (.istore 4, 2) := by decide +kernel
theorem dX5_setReserve_34 : decode cX5_setReserve 34 = .ok (.iload_n 2, 1) := by decide +kernel
theorem dX5_setReserve_35 : decode cX5_setReserve 35 = .ok (.iload 4, 2) := by decide +kernel
theorem dX5_setReserve_37 : decode cX5_setReserve 37 = .ok (.isub, 1) := by decide +kernel
theorem dX5_setReserve_38 : decode cX5_setReserve 38 = .ok (.aload_n 0, 1) := by decide +kernel
theorem dX5_setReserve_39 : decode cX5_setReserve 39 = .ok (.getfield 10, 3) := by decide +kernel
theorem dX5_setReserve_42 : decode cX5_setReserve 42 = .ok (.invokevirtual 61, 3) := by decide +kernel
theorem dX5_setReserve_45 : decode cX5_setReserve 45 = .ok (.if_icmp .le 6, 3) := by decide +kernel
theorem dX5_setReserve_48 : decode cX5_setReserve 48 = .ok (.bipush (-3), 2) := by decide +kernel
theorem dX5_setReserve_50 : decode cX5_setReserve 50 = .ok (.ireturn, 1) := by decide +kernel
theorem dX5_setReserve_51 : decode cX5_setReserve 51 = .ok (.aload_n 3, 1) := by decide +kernel
theorem dX5_setReserve_52 : decode cX5_setReserve 52 = .ok (.iload_n 2, 1) := by decide +kernel
theorem dX5_setReserve_53 : decode cX5_setReserve 53 = .ok (.putfield 56, 3) := by decide +kernel
theorem dX5_setReserve_56 : decode cX5_setReserve 56 = .ok (.aload_n 3, 1) := by decide +kernel
theorem dX5_setReserve_57 : decode cX5_setReserve 57 = .ok (.invokevirtual 65, 3) := by decide +kernel
theorem dX5_setReserve_60 : decode cX5_setReserve 60 = .ok (.iload 4, 2) := by decide +kernel
theorem dX5_setReserve_62 : decode cX5_setReserve 62 = .ok (.ireturn, 1) := by decide +kernel
theorem dX5_setHeadroom_0 : decode cX5_setHeadroom 0 = .ok (.aload_n 0, 1) := by decide +kernel
theorem dX5_setHeadroom_1 : decode cX5_setHeadroom 1 = .ok (.getfield 10, 3) := by decide +kernel
theorem dX5_setHeadroom_4 : decode cX5_setHeadroom 4 = .ok (.iload_n 1, 1) := by decide +kernel
theorem dX5_setHeadroom_5 : decode cX5_setHeadroom 5 = .ok (.invokevirtual 52, 3) := by decide +kernel
theorem dX5_setHeadroom_8 : decode cX5_setHeadroom 8 = .ok (.astore_n 3, 1) := by decide +kernel
theorem dX5_setHeadroom_9 : decode cX5_setHeadroom 9 = .ok (.aload_n 3, 1) := by decide +kernel
theorem dX5_setHeadroom_10 : decode cX5_setHeadroom 10 = .ok (.ifnonnull 5, 3) := by decide +kernel
theorem dX5_setHeadroom_13 : decode cX5_setHeadroom 13 = .ok (.iconst (-1), 1) := by decide +kernel
theorem dX5_setHeadroom_14 : decode cX5_setHeadroom 14 = .ok (.ireturn, 1) := by decide +kernel
theorem dX5_setHeadroom_15 : decode cX5_setHeadroom 15 = .ok (.iload_n 2, 1) := by decide +kernel
theorem dX5_setHeadroom_16 : decode cX5_setHeadroom 16 = .ok (.iconst 0, 1) := by decide +kernel
theorem dX5_setHeadroom_17 : decode cX5_setHeadroom 17 = .ok (.bipush 64, 2) := by decide +kernel
theorem dX5_setHeadroom_19 : decode cX5_setHeadroom 19 = .ok (.invokestatic 38, 3) := by decide +kernel
theorem dX5_setHeadroom_22 : decode cX5_setHeadroom 22 = .ok (.ifCond .eq 6, 3) := by decide +kernel
theorem dX5_setHeadroom_25 : decode cX5_setHeadroom 25 = .ok (.bipush (-2), 2) := by decide +kernel
theorem dX5_setHeadroom_27 : decode cX5_setHeadroom 27 = .ok (.ireturn, 1) := by decide +kernel
theorem dX5_setHeadroom_28 : decode cX5_setHeadroom 28 = .ok (.aload_n 3, 1) := by decide +kernel
theorem dX5_setHeadroom_29 : decode cX5_setHeadroom 29 = .ok (.invokevirtual 68, 3) := by decide +kernel
theorem dX5_setHeadroom_32 : decode cX5_setHeadroom 32 = .ok (.iload_n 2, 1) := by decide +kernel
theorem dX5_setHeadroom_33 : decode cX5_setHeadroom 33 = .ok (.if_icmp .le 6, 3) := by decide +kernel
theorem dX5_setHeadroom_36 : decode cX5_setHeadroom 36 = .ok (.bipush (-4), 2) := by decide +kernel
theorem dX5_setHeadroom_38 : decode cX5_setHeadroom 38 = .ok (.ireturn, 1) := by decide +kernel
theorem dX5_setHeadroom_39 : decode cX5_setHeadroom 39 = .ok (.aload_n 3, 1) := by decide +kernel
theorem dX5_setHeadroom_40 : decode cX5_setHeadroom 40 = .ok (.getfield 71, 3) := by decide +kernel
theorem dX5_setHeadroom_43 : decode cX5_setHeadroom 43 = .ok (.istore 4, 2) := by decide +kernel
theorem dX5_setHeadroom_45 : decode cX5_setHeadroom 45 = .ok (.iload_n 2, 1) := by decide +kernel
theorem dX5_setHeadroom_46 : decode cX5_setHeadroom 46 = .ok (.iload 4, 2) := by decide +kernel
theorem dX5_setHeadroom_48 : decode cX5_setHeadroom 48 = .ok (.isub, 1) := by decide +kernel
theorem dX5_setHeadroom_49 : decode cX5_setHeadroom 49 = .ok (.aload_n 0, 1) := by decide +kernel
theorem dX5_setHeadroom_50 : decode cX5_setHeadroom 50 = .ok (.getfield 10, 3) := by decide +kernel
theorem dX5_setHeadroom_53 : decode cX5_setHeadroom 53 = .ok (.invokevirtual 61, 3) := by decide +kernel
theorem dX5_setHeadroom_56 : decode cX5_setHeadroom 56 = .ok (.if_icmp .le 6, 3) := by decide +kernel
theorem dX5_setHeadroom_59 : decode cX5_setHeadroom 59 = .ok (.bipush (-3), 2) := by decide +kernel
theorem dX5_setHeadroom_61 : decode cX5_setHeadroom 61 = .ok (.ireturn, 1) := by decide +kernel
theorem dX5_setHeadroom_62 : decode cX5_setHeadroom 62 = .ok (.aload_n 3, 1) := by decide +kernel
theorem dX5_setHeadroom_63 : decode cX5_setHeadroom 63 = .ok (.iload_n 2, 1) := by decide +kernel
theorem dX5_setHeadroom_64 : decode cX5_setHeadroom 64 = .ok (.putfield 71, 3) := by decide +kernel
theorem dX5_setHeadroom_67 : decode cX5_setHeadroom 67 = .ok (.iload 4, 2) := by decide +kernel
theorem dX5_setHeadroom_69 : decode cX5_setHeadroom 69 = .ok (.ireturn, 1) := by decide +kernel
theorem dX5_setAlpha_0 : decode cX5_setAlpha 0 = .ok (.aload_n 0, 1) := by decide +kernel
theorem dX5_setAlpha_1 : decode cX5_setAlpha 1 = .ok (.getfield 10, 3) := by decide +kernel
theorem dX5_setAlpha_4 : decode cX5_setAlpha 4 = .ok (.iload_n 1, 1) := by decide +kernel
theorem dX5_setAlpha_5 : decode cX5_setAlpha 5 = .ok (.iload_n 2, 1) := by decide +kernel
theorem dX5_setAlpha_6 : decode cX5_setAlpha 6 = .ok (.invokevirtual 74, 3) := by decide +kernel
theorem dX5_setAlpha_9 : decode cX5_setAlpha 9 = .ok (.astore 4, 2) := by decide +kernel
theorem dX5_setAlpha_11 : decode cX5_setAlpha 11 = .ok (.aload 4, 2) := by decide +kernel
theorem dX5_setAlpha_13 : decode cX5_setAlpha 13 = .ok (.ifnonnull 5, 3) := by decide +kernel
theorem dX5_setAlpha_16 : decode cX5_setAlpha 16 = .ok (.iconst (-1), 1) := by decide +kernel
theorem dX5_setAlpha_17 : decode cX5_setAlpha 17 = .ok (.ireturn, 1) := by decide +kernel
theorem dX5_setAlpha_18 : decode cX5_setAlpha 18 = .ok (.iload_n 3, 1) := by decide +kernel
theorem dX5_setAlpha_19 : decode cX5_setAlpha 19 = .ok (.iconst 0, 1) := by decide +kernel
theorem dX5_setAlpha_20 : decode cX5_setAlpha 20 = .ok (.bipush 64, 2) := by decide +kernel
theorem dX5_setAlpha_22 : decode cX5_setAlpha 22 = .ok (.invokestatic 38, 3) := by decide +kernel
theorem dX5_setAlpha_25 : decode cX5_setAlpha 25 = .ok (.ifCond .eq 6, 3) := by decide +kernel
theorem dX5_setAlpha_28 : decode cX5_setAlpha 28 = .ok (.bipush (-2), 2) := by decide +kernel
theorem dX5_setAlpha_30 : decode cX5_setAlpha 30 = .ok (.ireturn, 1) := by decide +kernel
theorem dX5_setAlpha_31 : decode cX5_setAlpha 31 = .ok (.aload 4, 2) := by decide +kernel
theorem dX5_setAlpha_33 : decode cX5_setAlpha 33 = .ok (.getfield 78, 3) := by decide +kernel
theorem dX5_setAlpha_36 : decode cX5_setAlpha 36 = .ok (.istore 5, 2) := by decide +kernel
theorem dX5_setAlpha_38 : decode cX5_setAlpha 38 = .ok (.aload 4, 2) := by decide +kernel
theorem dX5_setAlpha_40 : decode cX5_setAlpha 40 = .ok (.iload_n 3, 1) := by decide +kernel
theorem dX5_setAlpha_41 : decode cX5_setAlpha 41 = .ok (.putfield 78, 3) := by decide +kernel
theorem dX5_setAlpha_44 : decode cX5_setAlpha 44 = .ok (.iload 5, 2) := by decide +kernel
theorem dX5_setAlpha_46 : decode cX5_setAlpha 46 = .ok (.ireturn, 1) := by decide +kernel
theorem dX5_setBurst_0 : decode cX5_setBurst 0 = .ok (.aload_n 0, 1) := by decide +kernel
theorem dX5_setBurst_1 : decode cX5_setBurst 1 = .ok (.getfield 10, 3) := by decide +kernel
theorem dX5_setBurst_4 : decode cX5_setBurst 4 = .ok (.iload_n 1, 1) := by decide +kernel
theorem dX5_setBurst_5 : decode cX5_setBurst 5 = .ok (.iload_n 2, 1) := by decide +kernel
theorem dX5_setBurst_6 : decode cX5_setBurst 6 = .ok (.invokevirtual 74, 3) := by decide +kernel
theorem dX5_setBurst_9 : decode cX5_setBurst 9 = .ok (.astore 5, 2) := by decide +kernel
theorem dX5_setBurst_11 : decode cX5_setBurst 11 = .ok (.aload 5, 2) := by decide +kernel
theorem dX5_setBurst_13 : decode cX5_setBurst 13 = .ok (.ifnonnull 5, 3) := by decide +kernel
theorem dX5_setBurst_16 : decode cX5_setBurst 16 = .ok (.iconst (-1), 1) := by decide +kernel
theorem dX5_setBurst_17 : decode cX5_setBurst 17 = .ok (.ireturn, 1) := by decide +kernel
theorem dX5_setBurst_18 : decode cX5_setBurst 18 = .ok (.iload_n 3, 1) := by decide +kernel
theorem dX5_setBurst_19 : decode cX5_setBurst 19 = .ok (.iconst 0, 1) := by decide +kernel
theorem dX5_setBurst_20 : decode cX5_setBurst 20 = .ok (.bipush 32, 2) := by decide +kernel
theorem dX5_setBurst_22 : decode cX5_setBurst 22 = .ok (.invokestatic 38, 3) := by decide +kernel
theorem dX5_setBurst_25 : decode cX5_setBurst 25 = .ok (.ifCond .ne 14, 3) := by decide +kernel
theorem dX5_setBurst_28 : decode cX5_setBurst 28 = .ok (.iload 4, 2) := by decide +kernel
theorem dX5_setBurst_30 : decode cX5_setBurst 30 = .ok (.iconst 0, 1) := by decide +kernel
theorem dX5_setBurst_31 : decode cX5_setBurst 31 = .ok (.bipush 8, 2) := by decide +kernel
theorem dX5_setBurst_33 : decode cX5_setBurst 33 = .ok (.invokestatic 38, 3) := by decide +kernel
theorem dX5_setBurst_36 : decode cX5_setBurst 36 = .ok (.ifCond .eq 6, 3) := by decide +kernel
theorem dX5_setBurst_39 : decode cX5_setBurst 39 = .ok (.bipush (-2), 2) := by decide +kernel
theorem dX5_setBurst_41 : decode cX5_setBurst 41 = .ok (.ireturn, 1) := by decide +kernel
theorem dX5_setBurst_42 : decode cX5_setBurst 42 = .ok (.aload 5, 2) := by decide +kernel
theorem dX5_setBurst_44 : decode cX5_setBurst 44 = .ok (.getfield 83, 3) := by decide +kernel
theorem dX5_setBurst_47 : decode cX5_setBurst 47 = .ok (.istore 6, 2) := by decide +kernel
theorem dX5_setBurst_49 : decode cX5_setBurst 49 = .ok (.aload 5, 2) := by decide +kernel
theorem dX5_setBurst_51 : decode cX5_setBurst 51 = .ok (.iload_n 3, 1) := by decide +kernel
theorem dX5_setBurst_52 : decode cX5_setBurst 52 = .ok (.putfield 86, 3) := by decide +kernel
theorem dX5_setBurst_55 : decode cX5_setBurst 55 = .ok (.aload 5, 2) := by decide +kernel
theorem dX5_setBurst_57 : decode cX5_setBurst 57 = .ok (.iload 4, 2) := by decide +kernel
theorem dX5_setBurst_59 : decode cX5_setBurst 59 = .ok (.putfield 89, 3) := by decide +kernel
theorem dX5_setBurst_62 : decode cX5_setBurst 62 = .ok (.aload 5, 2) := by decide +kernel
theorem dX5_setBurst_64 : decode cX5_setBurst 64 = .ok (.iload_n 3, 1) := by decide +kernel
theorem dX5_setBurst_65 : decode cX5_setBurst 65 = .ok (.putfield 83, 3) := by decide +kernel
theorem dX5_setBurst_68 : decode cX5_setBurst 68 = .ok (.iload 6, 2) := by decide +kernel
theorem dX5_setBurst_70 : decode cX5_setBurst 70 = .ok (.ireturn, 1) := by decide +kernel
theorem dX5_setLossless_0 : decode cX5_setLossless 0 = .ok (.aload_n 0, 1) := by decide +kernel
theorem dX5_setLossless_1 : decode cX5_setLossless 1 = .ok (.getfield 10, 3) := by decide +kernel
theorem dX5_setLossless_4 : decode cX5_setLossless 4 = .ok (.iload_n 1, 1) := by decide +kernel
theorem dX5_setLossless_5 : decode cX5_setLossless 5 = .ok (.iload_n 2, 1) := by decide +kernel
theorem dX5_setLossless_6 : decode cX5_setLossless 6 = .ok (.invokevirtual 74, 3) := by decide +kernel
theorem dX5_setLossless_9 : decode cX5_setLossless 9 = .ok (.astore 4, 2) := by decide +kernel
theorem dX5_setLossless_11 : decode cX5_setLossless 11 = .ok (.aload 4, 2) := by decide +kernel
theorem dX5_setLossless_13 : decode cX5_setLossless 13 = .ok (.ifnonnull 5, 3) := by decide +kernel
theorem dX5_setLossless_16 : decode cX5_setLossless 16 = .ok (.iconst (-1), 1) := by decide +kernel
theorem dX5_setLossless_17 : decode cX5_setLossless 17 = .ok (.ireturn, 1) := by decide +kernel
theorem dX5_setLossless_18 : decode cX5_setLossless 18 = .ok (.iload_n 3, 1) := by decide +kernel
theorem dX5_setLossless_19 : decode cX5_setLossless 19 = .ok (.ifCond .ne 14, 3) := by decide +kernel
theorem dX5_setLossless_22 : decode cX5_setLossless 22 = .ok (.aload 4, 2) := by decide +kernel
theorem dX5_setLossless_24 : decode cX5_setLossless 24 = .ok (.getfield 92, 3) := by decide +kernel
theorem dX5_setLossless_27 : decode cX5_setLossless 27 = .ok (.ifCond .le 6, 3) := by decide +kernel
theorem dX5_setLossless_30 : decode cX5_setLossless 30 = .ok (.bipush (-4), 2) := by decide +kernel
theorem dX5_setLossless_32 : decode cX5_setLossless 32 = .ok (.ireturn, 1) := by decide +kernel
theorem dX5_setLossless_33 : decode cX5_setLossless 33 = .ok (.aload 4, 2) := by decide +kernel
theorem dX5_setLossless_35 : decode cX5_setLossless 35 = .ok (.getfield 95, 3) := by decide +kernel
theorem dX5_setLossless_38 : decode cX5_setLossless 38 = .ok (.invokestatic 99, 3) := by decide +kernel
theorem dX5_setLossless_41 : decode cX5_setLossless 41 = .ok (.istore 5, 2) := by decide +kernel
theorem dX5_setLossless_43 : decode cX5_setLossless 43 = .ok (.aload 4, 2) := by decide +kernel
theorem dX5_setLossless_45 : decode cX5_setLossless 45 = .ok (.iload_n 3, 1) := by decide +kernel
theorem dX5_setLossless_46 : decode cX5_setLossless 46 = .ok (.putfield 95, 3) := by decide +kernel
theorem dX5_setLossless_49 : decode cX5_setLossless 49 = .ok (.iload_n 3, 1) := by decide +kernel
theorem dX5_setLossless_50 : decode cX5_setLossless 50 = .ok (.ifCond .ne 9, 3) := by decide +kernel
theorem dX5_setLossless_53 : decode cX5_setLossless 53 = .ok (.aload 4, 2) := by decide +kernel
theorem dX5_setLossless_55 : decode cX5_setLossless 55 = .ok (.iconst 0, 1) := by decide +kernel
theorem dX5_setLossless_56 : decode cX5_setLossless 56 = .ok (.putfield 103, 3) := by decide +kernel
theorem dX5_setLossless_59 : decode cX5_setLossless 59 = .ok (.iload 5, 2) := by decide +kernel
theorem dX5_setLossless_61 : decode cX5_setLossless 61 = .ok (.ireturn, 1) := by decide +kernel
theorem dX5_setScheduler_0 : decode cX5_setScheduler 0 = .ok (.aload_n 0, 1) := by decide +kernel
theorem dX5_setScheduler_1 : decode cX5_setScheduler 1 = .ok (.getfield 10, 3) := by decide +kernel
theorem dX5_setScheduler_4 : decode cX5_setScheduler 4 = .ok (.iload_n 1, 1) := by decide +kernel
theorem dX5_setScheduler_5 : decode cX5_setScheduler 5 = .ok (.invokevirtual 52, 3) := by decide +kernel
theorem dX5_setScheduler_8 : decode cX5_setScheduler 8 = .ok (.astore 4, 2) := by decide +kernel
theorem dX5_setScheduler_10 : decode cX5_setScheduler 10 = .ok (.aload 4, 2) := by decide +kernel
theorem dX5_setScheduler_12 : decode cX5_setScheduler 12 = .ok (.ifnonnull 5, 3) := by decide +kernel
theorem dX5_setScheduler_15 : decode cX5_setScheduler 15 = .ok (.iconst (-1), 1) := by decide +kernel
theorem dX5_setScheduler_16 : decode cX5_setScheduler 16 = .ok (.ireturn, 1) := by decide +kernel
theorem dX5_setScheduler_17 : decode cX5_setScheduler 17 = .ok (.iload_n 3, 1) := by decide +kernel
theorem dX5_setScheduler_18 : decode cX5_setScheduler 18 = .ok (.iconst 0, 1) := by decide +kernel
theorem dX5_setScheduler_19 : decode cX5_setScheduler 19 = .ok (.bipush 16, 2) := by decide +kernel
theorem dX5_setScheduler_21 : decode cX5_setScheduler 21 = .ok (.invokestatic 38, 3) := by decide +kernel
theorem dX5_setScheduler_24 : decode cX5_setScheduler 24 = .ok (.ifCond .eq 6, 3) := by decide +kernel
theorem dX5_setScheduler_27 : decode cX5_setScheduler 27 = .ok (.bipush (-2), 2) := by decide +kernel
theorem dX5_setScheduler_29 : decode cX5_setScheduler 29 = .ok (.ireturn, 1) := by decide +kernel
theorem dX5_setScheduler_30 : decode cX5_setScheduler 30 = .ok (.aload 4, 2) := by decide +kernel
theorem dX5_setScheduler_32 : decode cX5_setScheduler 32 = .ok (.getfield 106, 3) := by decide +kernel
theorem dX5_setScheduler_35 : decode cX5_setScheduler 35 = .ok (.istore 5, 2) := by decide +kernel
theorem dX5_setScheduler_37 : decode cX5_setScheduler 37 = .ok (.aload 4, 2) := by decide +kernel
theorem dX5_setScheduler_39 : decode cX5_setScheduler 39 = .ok (.iload_n 2, 1) := by decide +kernel
theorem dX5_setScheduler_40 : decode cX5_setScheduler 40 = .ok (.putfield 109, 3) := by decide +kernel
theorem dX5_setScheduler_43 : decode cX5_setScheduler 43 = .ok (.aload 4, 2) := by decide +kernel
theorem dX5_setScheduler_45 : decode cX5_setScheduler 45 = .ok (.iload_n 3, 1) := by decide +kernel
theorem dX5_setScheduler_46 : decode cX5_setScheduler 46 = .ok (.putfield 106, 3) := by decide +kernel
theorem dX5_setScheduler_49 : decode cX5_setScheduler 49 = .ok (.iload 5, 2) := by decide +kernel
theorem dX5_setScheduler_51 : decode cX5_setScheduler 51 = .ok (.ireturn, 1) := by decide +kernel
theorem dX5_setQuantum_0 : decode cX5_setQuantum 0 = .ok (.aload_n 0, 1) := by decide +kernel
theorem dX5_setQuantum_1 : decode cX5_setQuantum 1 = .ok (.getfield 10, 3) := by decide +kernel
theorem dX5_setQuantum_4 : decode cX5_setQuantum 4 = .ok (.iload_n 1, 1) := by decide +kernel
theorem dX5_setQuantum_5 : decode cX5_setQuantum 5 = .ok (.iload_n 2, 1) := by decide +kernel
theorem dX5_setQuantum_6 : decode cX5_setQuantum 6 = .ok (.invokevirtual 74, 3) := by decide +kernel
theorem dX5_setQuantum_9 : decode cX5_setQuantum 9 = .ok (.astore 4, 2) := by decide +kernel
theorem dX5_setQuantum_11 : decode cX5_setQuantum 11 = .ok (.aload 4, 2) := by decide +kernel
theorem dX5_setQuantum_13 : decode cX5_setQuantum 13 = .ok (.ifnonnull 5, 3) := by decide +kernel
theorem dX5_setQuantum_16 : decode cX5_setQuantum 16 = .ok (.iconst (-1), 1) := by decide +kernel
theorem dX5_setQuantum_17 : decode cX5_setQuantum 17 = .ok (.ireturn, 1) := by decide +kernel
theorem dX5_setQuantum_18 : decode cX5_setQuantum 18 = .ok (.iload_n 3, 1) := by decide +kernel
theorem dX5_setQuantum_19 : decode cX5_setQuantum 19 = .ok (.iconst 1, 1) := by decide +kernel
theorem dX5_setQuantum_20 : decode cX5_setQuantum 20 = .ok (.bipush 16, 2) := by decide +kernel
theorem dX5_setQuantum_22 : decode cX5_setQuantum 22 = .ok (.invokestatic 38, 3) := by decide +kernel
theorem dX5_setQuantum_25 : decode cX5_setQuantum 25 = .ok (.ifCond .eq 6, 3) := by decide +kernel
theorem dX5_setQuantum_28 : decode cX5_setQuantum 28 = .ok (.bipush (-2), 2) := by decide +kernel
theorem dX5_setQuantum_30 : decode cX5_setQuantum 30 = .ok (.ireturn, 1) := by decide +kernel
theorem dX5_setQuantum_31 : decode cX5_setQuantum 31 = .ok (.aload 4, 2) := by decide +kernel
theorem dX5_setQuantum_33 : decode cX5_setQuantum 33 = .ok (.getfield 112, 3) := by decide +kernel
theorem dX5_setQuantum_36 : decode cX5_setQuantum 36 = .ok (.istore 5, 2) := by decide +kernel
theorem dX5_setQuantum_38 : decode cX5_setQuantum 38 = .ok (.aload 4, 2) := by decide +kernel
theorem dX5_setQuantum_40 : decode cX5_setQuantum 40 = .ok (.iload_n 3, 1) := by decide +kernel
theorem dX5_setQuantum_41 : decode cX5_setQuantum 41 = .ok (.putfield 112, 3) := by decide +kernel
theorem dX5_setQuantum_44 : decode cX5_setQuantum 44 = .ok (.iload 5, 2) := by decide +kernel
theorem dX5_setQuantum_46 : decode cX5_setQuantum 46 = .ok (.ireturn, 1) := by decide +kernel
theorem dX5_setPushOut_0 : decode cX5_setPushOut 0 = .ok (.aload_n 0, 1) := by decide +kernel
theorem dX5_setPushOut_1 : decode cX5_setPushOut 1 = .ok (.getfield 10, 3) := by decide +kernel
theorem dX5_setPushOut_4 : decode cX5_setPushOut 4 = .ok (.getfield 115, 3) := by decide +kernel
theorem dX5_setPushOut_7 : decode cX5_setPushOut 7 = .ok (.invokestatic 99, 3) := by decide +kernel
theorem dX5_setPushOut_10 : decode cX5_setPushOut 10 = .ok (.istore_n 2, 1) := by decide +kernel
theorem dX5_setPushOut_11 : decode cX5_setPushOut 11 = .ok (.aload_n 0, 1) := by decide +kernel
theorem dX5_setPushOut_12 : decode cX5_setPushOut 12 = .ok (.getfield 10, 3) := by decide +kernel
theorem dX5_setPushOut_15 : decode cX5_setPushOut 15 = .ok (.iload_n 1, 1) := by decide +kernel
theorem dX5_setPushOut_16 : decode cX5_setPushOut 16 = .ok (.putfield 115, 3) := by decide +kernel
theorem dX5_setPushOut_19 : decode cX5_setPushOut 19 = .ok (.iload_n 2, 1) := by decide +kernel
theorem dX5_setPushOut_20 : decode cX5_setPushOut 20 = .ok (.ireturn, 1) := by decide +kernel
theorem dX5_grant_0 : decode cX5_grant 0 = .ok (.aload_n 0, 1) := by decide +kernel
theorem dX5_grant_1 : decode cX5_grant 1 = .ok (.getfield 10, 3) := by decide +kernel
theorem dX5_grant_4 : decode cX5_grant 4 = .ok (.iload_n 1, 1) := by decide +kernel
theorem dX5_grant_5 : decode cX5_grant 5 = .ok (.invokevirtual 52, 3) := by decide +kernel
theorem dX5_grant_8 : decode cX5_grant 8 = .ok (.astore_n 3, 1) := by decide +kernel
theorem dX5_grant_9 : decode cX5_grant 9 = .ok (.aload_n 3, 1) := by decide +kernel
theorem dX5_grant_10 : decode cX5_grant 10 = .ok (.ifnonnull 5, 3) := by decide +kernel
theorem dX5_grant_13 : decode cX5_grant 13 = .ok (.iconst (-1), 1) := by decide +kernel
theorem dX5_grant_14 : decode cX5_grant 14 = .ok (.ireturn, 1) := by decide +kernel
theorem dX5_grant_15 : decode cX5_grant 15 = .ok (.iload_n 2, 1) := by decide +kernel
theorem dX5_grant_16 : decode cX5_grant 16 = .ok (.iconst 1, 1) := by decide +kernel
theorem dX5_grant_17 : decode cX5_grant 17 = .ok (.bipush 32, 2) := by decide +kernel
theorem dX5_grant_19 : decode cX5_grant 19 = .ok (.invokestatic 38, 3) := by decide +kernel
theorem dX5_grant_22 : decode cX5_grant 22 = .ok (.ifCond .eq 6, 3) := by decide +kernel
theorem dX5_grant_25 : decode cX5_grant 25 = .ok (.bipush (-2), 2) := by decide +kernel
theorem dX5_grant_27 : decode cX5_grant 27 = .ok (.ireturn, 1) := by decide +kernel
theorem dX5_grant_28 : decode cX5_grant 28 = .ok (.aload_n 0, 1) := by decide +kernel
theorem dX5_grant_29 : decode cX5_grant 29 = .ok (.getfield 10, 3) := by decide +kernel
theorem dX5_grant_32 : decode cX5_grant 32 = .ok (.aload_n 3, 1) := by decide +kernel
theorem dX5_grant_33 : decode cX5_grant 33 = .ok (.iload_n 1, 1) := by decide +kernel
theorem dX5_grant_34 : decode cX5_grant 34 = .ok (.iload_n 2, 1) := by decide +kernel
theorem dX5_grant_35 : decode cX5_grant 35 = .ok (.invokevirtual 118, 3) := by decide +kernel
theorem dX5_grant_38 : decode cX5_grant 38 = .ok (.ireturn, 1) := by decide +kernel
theorem dX5_withdraw_0 : decode cX5_withdraw 0 = .ok (.aload_n 0, 1) := by decide +kernel
theorem dX5_withdraw_1 : decode cX5_withdraw 1 = .ok (.getfield 10, 3) := by decide +kernel
theorem dX5_withdraw_4 : decode cX5_withdraw 4 = .ok (.iload_n 1, 1) := by decide +kernel
theorem dX5_withdraw_5 : decode cX5_withdraw 5 = .ok (.invokevirtual 52, 3) := by decide +kernel
theorem dX5_withdraw_8 : decode cX5_withdraw 8 = .ok (.astore_n 2, 1) := by decide +kernel
theorem dX5_withdraw_9 : decode cX5_withdraw 9 = .ok (.aload_n 2, 1) := by decide +kernel
theorem dX5_withdraw_10 : decode cX5_withdraw 10 = .ok (.ifnonnull 5, 3) := by decide +kernel
theorem dX5_withdraw_13 : decode cX5_withdraw 13 = .ok (.iconst (-1), 1) := by decide +kernel
theorem dX5_withdraw_14 : decode cX5_withdraw 14 = .ok (.ireturn, 1) := by decide +kernel
theorem dX5_withdraw_15 : decode cX5_withdraw 15 = .ok (.aload_n 2, 1) := by decide +kernel
theorem dX5_withdraw_16 : decode cX5_withdraw 16 = .ok (.getfield 122, 3) := by decide +kernel
theorem dX5_withdraw_19 : decode cX5_withdraw 19 = .ok (.ifCond .ne 6, 3) := by decide +kernel
theorem dX5_withdraw_22 : decode cX5_withdraw 22 = .ok (.bipush (-5), 2) := by decide +kernel
theorem dX5_withdraw_24 : decode cX5_withdraw 24 = .ok (.ireturn, 1) := by decide +kernel
theorem dX5_withdraw_25 : decode cX5_withdraw 25 = .ok (.aload_n 2, 1) := by decide +kernel
theorem dX5_withdraw_26 : decode cX5_withdraw 26 = .ok (.getfield 122, 3) := by decide +kernel
theorem dX5_withdraw_29 : decode cX5_withdraw 29 = .ok (.istore_n 3, 1) := by decide +kernel
theorem dX5_withdraw_30 : decode cX5_withdraw 30 = .ok (.aload_n 0, 1) := by decide +kernel
theorem dX5_withdraw_31 : decode cX5_withdraw 31 = .ok (.getfield 10, 3) := by decide +kernel
theorem dX5_withdraw_34 : decode cX5_withdraw 34 = .ok (.aload_n 2, 1) := by decide +kernel
theorem dX5_withdraw_35 : decode cX5_withdraw 35 = .ok (.iload_n 1, 1) := by decide +kernel
theorem dX5_withdraw_36 : decode cX5_withdraw 36 = .ok (.invokevirtual 125, 3) := by decide +kernel
theorem dX5_withdraw_39 : decode cX5_withdraw 39 = .ok (.iload_n 3, 1) := by decide +kernel
theorem dX5_withdraw_40 : decode cX5_withdraw 40 = .ok (.ireturn, 1) := by decide +kernel
theorem dX5_arrive_0 : decode cX5_arrive 0 = .ok (.aload_n 0, 1) := by decide +kernel
theorem dX5_arrive_1 : decode cX5_arrive 1 = .ok (.getfield 10, 3) := by decide +kernel
theorem dX5_arrive_4 : decode cX5_arrive 4 = .ok (.iload_n 1, 1) := by decide +kernel
theorem dX5_arrive_5 : decode cX5_arrive 5 = .ok (.invokevirtual 52, 3) := by decide +kernel
theorem dX5_arrive_8 : decode cX5_arrive 8 = .ok (.astore 4, 2) := by decide +kernel
theorem dX5_arrive_10 : decode cX5_arrive 10 = .ok (.aload_n 0, 1) := by decide +kernel
theorem dX5_arrive_11 : decode cX5_arrive 11 = .ok (.getfield 10, 3) := by decide +kernel
theorem dX5_arrive_14 : decode cX5_arrive 14 = .ok (.iload_n 1, 1) := by decide +kernel
theorem dX5_arrive_15 : decode cX5_arrive 15 = .ok (.iload_n 2, 1) := by decide +kernel
theorem dX5_arrive_16 : decode cX5_arrive 16 = .ok (.invokevirtual 74, 3) := by decide +kernel
theorem dX5_arrive_19 : decode cX5_arrive 19 = .ok (.astore 5, 2) := by decide +kernel
theorem dX5_arrive_21 : decode cX5_arrive 21 = .ok (.aload 4, 2) := by decide +kernel
theorem dX5_arrive_23 : decode cX5_arrive 23 = .ok (.ifnull 8, 3) := by decide +kernel
theorem dX5_arrive_26 : decode cX5_arrive 26 = .ok (.aload 5, 2) := by decide +kernel
theorem dX5_arrive_28 : decode cX5_arrive 28 = .ok (.ifnonnull 5, 3) := by decide +kernel
theorem dX5_arrive_31 : decode cX5_arrive 31 = .ok (.iconst (-1), 1) := by decide +kernel
theorem dX5_arrive_32 : decode cX5_arrive 32 = .ok (.ireturn, 1) := by decide +kernel
theorem dX5_arrive_33 : decode cX5_arrive 33 = .ok (.iload_n 3, 1) := by decide +kernel
theorem dX5_arrive_34 : decode cX5_arrive 34 = .ok (.iconst 1, 1) := by decide +kernel
theorem dX5_arrive_35 : decode cX5_arrive 35 = .ok (.bipush 12, 2) := by decide +kernel
theorem dX5_arrive_37 : decode cX5_arrive 37 = .ok (.invokestatic 38, 3) := by decide +kernel
theorem dX5_arrive_40 : decode cX5_arrive 40 = .ok (.ifCond .eq 6, 3) := by decide +kernel
theorem dX5_arrive_43 : decode cX5_arrive 43 = .ok (.bipush (-2), 2) := by decide +kernel
theorem dX5_arrive_45 : decode cX5_arrive 45 = .ok (.ireturn, 1) := by decide +kernel
theorem dX5_arrive_46 : decode cX5_arrive 46 = .ok (.aload_n 0, 1) := by decide +kernel
theorem dX5_arrive_47 : decode cX5_arrive 47 = .ok (.getfield 10, 3) := by decide +kernel
theorem dX5_arrive_50 : decode cX5_arrive 50 = .ok (.aload 4, 2) := by decide +kernel
theorem dX5_arrive_52 : decode cX5_arrive 52 = .ok (.aload 5, 2) := by decide +kernel
theorem dX5_arrive_54 : decode cX5_arrive 54 = .ok (.iload_n 3, 1) := by decide +kernel
theorem dX5_arrive_55 : decode cX5_arrive 55 = .ok (.invokevirtual 129, 3) := by decide +kernel
theorem dX5_arrive_58 : decode cX5_arrive 58 = .ok (.ireturn, 1) := by decide +kernel
theorem dX5_ticks_0 : decode cX5_ticks 0 = .ok (.iload_n 1, 1) := by decide +kernel
theorem dX5_ticks_1 : decode cX5_ticks 1 = .ok (.iconst 1, 1) := by decide +kernel
theorem dX5_ticks_2 : decode cX5_ticks 2 = .ok (.bipush 20, 2) := by decide +kernel
theorem dX5_ticks_4 : decode cX5_ticks 4 = .ok (.invokestatic 38, 3) := by decide +kernel
theorem dX5_ticks_7 : decode cX5_ticks 7 = .ok (.ifCond .eq 6, 3) := by decide +kernel
theorem dX5_ticks_10 : decode cX5_ticks 10 = .ok (.bipush (-2), 2) := by decide +kernel
theorem dX5_ticks_12 : decode cX5_ticks 12 = .ok (.ireturn, 1) := by decide +kernel
theorem dX5_ticks_13 : decode cX5_ticks 13 = .ok (.iconst 0, 1) := by decide +kernel
theorem dX5_ticks_14 : decode cX5_ticks 14 = .ok (.istore_n 2, 1) := by decide +kernel
theorem dX5_ticks_15 : decode cX5_ticks 15 = .ok (.iconst 0, 1) := by decide +kernel
theorem dX5_ticks_16 : decode cX5_ticks 16 = .ok (.istore_n 3, 1) := by decide +kernel
theorem dX5_ticks_17 : decode cX5_ticks 17 = .ok (.iload_n 3, 1) := by decide +kernel
theorem dX5_ticks_18 : decode cX5_ticks 18 = .ok (.iload_n 1, 1) := by decide +kernel
theorem dX5_ticks_19 : decode cX5_ticks 19 = .ok (.if_icmp .ge 19, 3) := by decide +kernel
theorem dX5_ticks_22 : decode cX5_ticks 22 = .ok (.iload_n 2, 1) := by decide +kernel
theorem dX5_ticks_23 : decode cX5_ticks 23 = .ok (.aload_n 0, 1) := by decide +kernel
theorem dX5_ticks_24 : decode cX5_ticks 24 = .ok (.getfield 10, 3) := by decide +kernel
theorem dX5_ticks_27 : decode cX5_ticks 27 = .ok (.invokevirtual 133, 3) := by decide +kernel
theorem dX5_ticks_30 : decode cX5_ticks 30 = .ok (.iadd, 1) := by decide +kernel
theorem dX5_ticks_31 : decode cX5_ticks 31 = .ok (.istore_n 2, 1) := by decide +kernel
theorem dX5_ticks_32 : decode cX5_ticks 32 = .ok (.iinc 3 1, 3) := by decide +kernel
theorem dX5_ticks_35 : decode cX5_ticks 35 = .ok (.goto (-18), 3) := by decide +kernel
theorem dX5_ticks_38 : decode cX5_ticks 38 = .ok (.iload_n 2, 1) := by decide +kernel
theorem dX5_ticks_39 : decode cX5_ticks 39 = .ok (.ireturn, 1) := by decide +kernel
theorem dX5_flush_0 : decode cX5_flush 0 = .ok (.aload_n 0, 1) := by decide +kernel
theorem dX5_flush_1 : decode cX5_flush 1 = .ok (.getfield 10, 3) := by decide +kernel
theorem dX5_flush_4 : decode cX5_flush 4 = .ok (.iload_n 1, 1) := by decide +kernel
theorem dX5_flush_5 : decode cX5_flush 5 = .ok (.invokevirtual 52, 3) := by decide +kernel
theorem dX5_flush_8 : decode cX5_flush 8 = .ok (.astore_n 2, 1) := by decide +kernel
theorem dX5_flush_9 : decode cX5_flush 9 = .ok (.aload_n 2, 1) := by decide +kernel
theorem dX5_flush_10 : decode cX5_flush 10 = .ok (.ifnonnull 5, 3) := by decide +kernel
theorem dX5_flush_13 : decode cX5_flush 13 = .ok (.iconst (-1), 1) := by decide +kernel
theorem dX5_flush_14 : decode cX5_flush 14 = .ok (.ireturn, 1) := by decide +kernel
theorem dX5_flush_15 : decode cX5_flush 15 = .ok (.aload_n 0, 1) := by decide +kernel
theorem dX5_flush_16 : decode cX5_flush 16 = .ok (.getfield 10, 3) := by decide +kernel
theorem dX5_flush_19 : decode cX5_flush 19 = .ok (.aload_n 2, 1) := by decide +kernel
theorem dX5_flush_20 : decode cX5_flush 20 = .ok (.invokevirtual 136, 3) := by decide +kernel
theorem dX5_flush_23 : decode cX5_flush 23 = .ok (.ireturn, 1) := by decide +kernel
theorem dX5_traffic_0 : decode cX5_traffic 0 = .ok (.iload_n 1, 1) := by decide +kernel
theorem dX5_traffic_1 : decode cX5_traffic 1 = .ok (.ifCond .lt 22, 3) := by decide +kernel
theorem dX5_traffic_4 : decode cX5_traffic 4 = .ok (.iload_n 2, 1) := by decide +kernel
theorem dX5_traffic_5 : decode cX5_traffic 5 = .ok (.iconst 1, 1) := by decide +kernel
theorem dX5_traffic_6 : decode cX5_traffic 6 = .ok (.bipush 16, 2) := by decide +kernel
theorem dX5_traffic_8 : decode cX5_traffic 8 = .ok (.invokestatic 38, 3) := by decide +kernel
theorem dX5_traffic_11 : decode cX5_traffic 11 = .ok (.ifCond .ne 12, 3) := by decide +kernel
theorem dX5_traffic_14 : decode cX5_traffic 14 = .ok (.iload_n 3, 1) := by decide +kernel
theorem dX5_traffic_15 : decode cX5_traffic 15 = .ok (.iconst 1, 1) := by decide +kernel
theorem dX5_traffic_16 : decode cX5_traffic 16 = .ok (.iconst 3, 1) := by decide +kernel
theorem dX5_traffic_17 : decode cX5_traffic 17 = .ok (.invokestatic 38, 3) := by decide +kernel
theorem dX5_traffic_20 : decode cX5_traffic 20 = .ok (.ifCond .eq 6, 3) := by decide +kernel
theorem dX5_traffic_23 : decode cX5_traffic 23 = .ok (.bipush (-2), 2) := by decide +kernel
theorem dX5_traffic_25 : decode cX5_traffic 25 = .ok (.ireturn, 1) := by decide +kernel
theorem dX5_traffic_26 : decode cX5_traffic 26 = .ok (.iconst 1, 1) := by decide +kernel
theorem dX5_traffic_27 : decode cX5_traffic 27 = .ok (.aload_n 0, 1) := by decide +kernel
theorem dX5_traffic_28 : decode cX5_traffic 28 = .ok (.getfield 10, 3) := by decide +kernel
theorem dX5_traffic_31 : decode cX5_traffic 31 = .ok (.getfield 140, 3) := by decide +kernel
theorem dX5_traffic_34 : decode cX5_traffic 34 = .ok (.invokestatic 143, 3) := by decide +kernel
theorem dX5_traffic_37 : decode cX5_traffic 37 = .ok (.istore 4, 2) := by decide +kernel
theorem dX5_traffic_39 : decode cX5_traffic 39 = .ok (.iload_n 1, 1) := by decide +kernel
theorem dX5_traffic_40 : decode cX5_traffic 40 = .ok (.i2l, 1) := by decide +kernel
theorem dX5_traffic_41 : decode cX5_traffic 41 = .ok (.lstore 5, 2) := by decide +kernel
theorem dX5_traffic_43 : decode cX5_traffic 43 = .ok (.iconst 0, 1) := by decide +kernel
theorem dX5_traffic_44 : decode cX5_traffic 44 = .ok (.istore 7, 2) := by decide +kernel
theorem dX5_traffic_46 : decode cX5_traffic 46 = .ok (.iconst 0, 1) := by decide +kernel
theorem dX5_traffic_47 : decode cX5_traffic 47 = .ok (.istore 8, 2) := by decide +kernel
theorem dX5_traffic_49 : decode cX5_traffic 49 = .ok (.iload 8, 2) := by decide +kernel
theorem dX5_traffic_51 : decode cX5_traffic 51 = .ok (.iload_n 2, 1) := by decide +kernel
theorem dX5_traffic_52 : decode cX5_traffic 52 = .ok (.if_icmp .ge 116, 3) := by decide +kernel
theorem dX5_traffic_55 : decode cX5_traffic 55 = .ok (.iconst 0, 1) := by decide +kernel
theorem dX5_traffic_56 : decode cX5_traffic 56 = .ok (.istore 9, 2) := by decide +kernel
theorem dX5_traffic_58 : decode cX5_traffic 58 = .ok (.iload 9, 2) := by decide +kernel
theorem dX5_traffic_60 : decode cX5_traffic 60 = .ok (.iload_n 3, 1) := by decide +kernel
theorem dX5_traffic_61 : decode cX5_traffic 61 = .ok (.if_icmp .ge 93, 3) := by decide +kernel
theorem dX5_traffic_64 : decode cX5_traffic 64 = .ok (.lload 5, 2) := by decide +kernel
theorem dX5_traffic_66 : decode cX5_traffic 66 = .ok (.ldc2_w 149, 3) := by decide +kernel
theorem dX5_traffic_69 : decode cX5_traffic 69 = .ok (.lmul, 1) := by decide +kernel
theorem dX5_traffic_70 : decode cX5_traffic 70 = .ok (.ldc2_w 151, 3) := by decide +kernel
theorem dX5_traffic_73 : decode cX5_traffic 73 = .ok (.ladd, 1) := by decide +kernel
theorem dX5_traffic_74 : decode cX5_traffic 74 = .ok (.ldc2_w 153, 3) := by decide +kernel
theorem dX5_traffic_77 : decode cX5_traffic 77 = .ok (.lrem, 1) := by decide +kernel
theorem dX5_traffic_78 : decode cX5_traffic 78 = .ok (.lstore 5, 2) := by decide +kernel
theorem dX5_traffic_80 : decode cX5_traffic 80 = .ok (.lload 5, 2) := by decide +kernel
theorem dX5_traffic_82 : decode cX5_traffic 82 = .ok (.ldc2_w 155, 3) := by decide +kernel
theorem dX5_traffic_85 : decode cX5_traffic 85 = .ok (.ldiv, 1) := by decide +kernel
theorem dX5_traffic_86 : decode cX5_traffic 86 = .ok (.l2i, 1) := by decide +kernel
theorem dX5_traffic_87 : decode cX5_traffic 87 = .ok (.istore 10, 2) := by decide +kernel
theorem dX5_traffic_89 : decode cX5_traffic 89 = .ok (.aload_n 0, 1) := by decide +kernel
theorem dX5_traffic_90 : decode cX5_traffic 90 = .ok (.getfield 10, 3) := by decide +kernel
theorem dX5_traffic_93 : decode cX5_traffic 93 = .ok (.iload 10, 2) := by decide +kernel
theorem dX5_traffic_95 : decode cX5_traffic 95 = .ok (.iload 4, 2) := by decide +kernel
theorem dX5_traffic_97 : decode cX5_traffic 97 = .ok (.irem, 1) := by decide +kernel
theorem dX5_traffic_98 : decode cX5_traffic 98 = .ok (.invokevirtual 52, 3) := by decide +kernel
theorem dX5_traffic_101 : decode cX5_traffic 101 = .ok (.astore 11, 2) := by decide +kernel
theorem dX5_traffic_103 : decode cX5_traffic 103 = .ok (.aload_n 0, 1) := by decide +kernel
theorem dX5_traffic_104 : decode cX5_traffic 104 = .ok (.getfield 10, 3) := by decide +kernel
theorem dX5_traffic_107 : decode cX5_traffic 107 = .ok (.iload 10, 2) := by decide +kernel
theorem dX5_traffic_109 : decode cX5_traffic 109 = .ok (.iload 4, 2) := by decide +kernel
theorem dX5_traffic_111 : decode cX5_traffic 111 = .ok (.irem, 1) := by decide +kernel
theorem dX5_traffic_112 : decode cX5_traffic 112 = .ok (.iload 10, 2) := by decide +kernel
theorem dX5_traffic_114 : decode cX5_traffic 114 = .ok (.bipush 8, 2) := by decide +kernel
theorem dX5_traffic_116 : decode cX5_traffic 116 = .ok (.idiv, 1) := by decide +kernel
theorem dX5_traffic_117 : decode cX5_traffic 117 = .ok (.iconst 3, 1) := by decide +kernel
theorem dX5_traffic_118 : decode cX5_traffic 118 = .ok (.irem, 1) := by decide +kernel
theorem dX5_traffic_119 : decode cX5_traffic 119 = .ok (.invokevirtual 74, 3) := by decide +kernel
theorem dX5_traffic_122 : decode cX5_traffic 122 = .ok (.astore 12, 2) := by decide +kernel
theorem dX5_traffic_124 : decode cX5_traffic 124 = .ok (.iload 7, 2) := by decide +kernel
theorem dX5_traffic_126 : decode cX5_traffic 126 = .ok (.aload_n 0, 1) := by decide +kernel
theorem dX5_traffic_127 : decode cX5_traffic 127 = .ok (.aload 11, 2) := by decide +kernel
theorem dX5_traffic_129 : decode cX5_traffic 129 = .ok (.aload 12, 2) := by decide +kernel
theorem dX5_traffic_131 : decode cX5_traffic 131 = .ok (.iload 10, 2) := by decide +kernel
theorem dX5_traffic_133 : decode cX5_traffic 133 = .ok (.bipush 32, 2) := by decide +kernel
theorem dX5_traffic_135 : decode cX5_traffic 135 = .ok (.idiv, 1) := by decide +kernel
theorem dX5_traffic_136 : decode cX5_traffic 136 = .ok (.bipush 12, 2) := by decide +kernel
theorem dX5_traffic_138 : decode cX5_traffic 138 = .ok (.irem, 1) := by decide +kernel
theorem dX5_traffic_139 : decode cX5_traffic 139 = .ok (.iconst 1, 1) := by decide +kernel
theorem dX5_traffic_140 : decode cX5_traffic 140 = .ok (.iadd, 1) := by decide +kernel
theorem dX5_traffic_141 : decode cX5_traffic 141 = .ok (.iconst 1, 1) := by decide +kernel
theorem dX5_traffic_142 : decode cX5_traffic 142 = .ok (.invokevirtual 157, 3) := by decide +kernel
theorem dX5_traffic_145 : decode cX5_traffic 145 = .ok (.iadd, 1) := by decide +kernel
theorem dX5_traffic_146 : decode cX5_traffic 146 = .ok (.istore 7, 2) := by decide +kernel
theorem dX5_traffic_148 : decode cX5_traffic 148 = .ok (.iinc 9 1, 3) := by decide +kernel
theorem dX5_traffic_151 : decode cX5_traffic 151 = .ok (.goto (-93), 3) := by decide +kernel
theorem dX5_traffic_154 : decode cX5_traffic 154 = .ok (.aload_n 0, 1) := by decide +kernel
theorem dX5_traffic_155 : decode cX5_traffic 155 = .ok (.getfield 10, 3) := by decide +kernel
theorem dX5_traffic_158 : decode cX5_traffic 158 = .ok (.invokevirtual 133, 3) := by decide +kernel
theorem dX5_traffic_161 : decode cX5_traffic 161 = .ok (.pop, 1) := by decide +kernel
theorem dX5_traffic_162 : decode cX5_traffic 162 = .ok (.iinc 8 1, 3) := by decide +kernel
theorem dX5_traffic_165 : decode cX5_traffic 165 = .ok (.goto (-116), 3) := by decide +kernel
theorem dX5_traffic_168 : decode cX5_traffic 168 = .ok (.iload 7, 2) := by decide +kernel
theorem dX5_traffic_170 : decode cX5_traffic 170 = .ok (.ireturn, 1) := by decide +kernel
theorem dX5_freeShared_0 : decode cX5_freeShared 0 = .ok (.aload_n 0, 1) := by decide +kernel
theorem dX5_freeShared_1 : decode cX5_freeShared 1 = .ok (.getfield 10, 3) := by decide +kernel
theorem dX5_freeShared_4 : decode cX5_freeShared 4 = .ok (.invokevirtual 61, 3) := by decide +kernel
theorem dX5_freeShared_7 : decode cX5_freeShared 7 = .ok (.ireturn, 1) := by decide +kernel
theorem dX5_sharedPool_0 : decode cX5_sharedPool 0 = .ok (.aload_n 0, 1) := by decide +kernel
theorem dX5_sharedPool_1 : decode cX5_sharedPool 1 = .ok (.getfield 10, 3) := by decide +kernel
theorem dX5_sharedPool_4 : decode cX5_sharedPool 4 = .ok (.invokevirtual 161, 3) := by decide +kernel
theorem dX5_sharedPool_7 : decode cX5_sharedPool 7 = .ok (.ireturn, 1) := by decide +kernel
theorem dX5_freeGuarantee_0 : decode cX5_freeGuarantee 0 = .ok (.aload_n 0, 1) := by decide +kernel
theorem dX5_freeGuarantee_1 : decode cX5_freeGuarantee 1 = .ok (.getfield 10, 3) := by decide +kernel
theorem dX5_freeGuarantee_4 : decode cX5_freeGuarantee 4 = .ok (.iload_n 1, 1) := by decide +kernel
theorem dX5_freeGuarantee_5 : decode cX5_freeGuarantee 5 = .ok (.invokevirtual 52, 3) := by decide +kernel
theorem dX5_freeGuarantee_8 : decode cX5_freeGuarantee 8 = .ok (.astore_n 2, 1) := by decide +kernel
theorem dX5_freeGuarantee_9 : decode cX5_freeGuarantee 9 = .ok (.aload_n 2, 1) := by decide +kernel
theorem dX5_freeGuarantee_10 : decode cX5_freeGuarantee 10 = .ok (.ifnonnull 7, 3) := by decide +kernel
theorem dX5_freeGuarantee_13 : decode cX5_freeGuarantee 13 = .ok (.iconst (-1), 1) := by decide +kernel
theorem dX5_freeGuarantee_14 : decode cX5_freeGuarantee 14 = .ok (.goto 7, 3) := by decide +kernel
theorem dX5_freeGuarantee_17 : decode cX5_freeGuarantee 17 = .ok (.aload_n 2, 1) := by decide +kernel
theorem dX5_freeGuarantee_18 : decode cX5_freeGuarantee 18 = .ok (.invokevirtual 164, 3) := by decide +kernel
theorem dX5_freeGuarantee_21 : decode cX5_freeGuarantee 21 = .ok (.ireturn, 1) := by decide +kernel
theorem dX5_grantOf_0 : decode cX5_grantOf 0 = .ok (.aload_n 0, 1) := by decide +kernel
theorem dX5_grantOf_1 : decode cX5_grantOf 1 = .ok (.getfield 10, 3) := by decide +kernel
theorem dX5_grantOf_4 : decode cX5_grantOf 4 = .ok (.iload_n 1, 1) := by decide +kernel
theorem dX5_grantOf_5 : decode cX5_grantOf 5 = .ok (.invokevirtual 52, 3) := by decide +kernel
theorem dX5_grantOf_8 : decode cX5_grantOf 8 = .ok (.astore_n 2, 1) := by decide +kernel
theorem dX5_grantOf_9 : decode cX5_grantOf 9 = .ok (.aload_n 2, 1) := by decide +kernel
theorem dX5_grantOf_10 : decode cX5_grantOf 10 = .ok (.ifnonnull 7, 3) := by decide +kernel
theorem dX5_grantOf_13 : decode cX5_grantOf 13 = .ok (.iconst (-1), 1) := by decide +kernel
theorem dX5_grantOf_14 : decode cX5_grantOf 14 = .ok (.goto 7, 3) := by decide +kernel
theorem dX5_grantOf_17 : decode cX5_grantOf 17 = .ok (.aload_n 2, 1) := by decide +kernel
theorem dX5_grantOf_18 : decode cX5_grantOf 18 = .ok (.getfield 122, 3) := by decide +kernel
theorem dX5_grantOf_21 : decode cX5_grantOf 21 = .ok (.ireturn, 1) := by decide +kernel
theorem dX5_threshold_0 : decode cX5_threshold 0 = .ok (.aload_n 0, 1) := by decide +kernel
theorem dX5_threshold_1 : decode cX5_threshold 1 = .ok (.getfield 10, 3) := by decide +kernel
theorem dX5_threshold_4 : decode cX5_threshold 4 = .ok (.iload_n 1, 1) := by decide +kernel
theorem dX5_threshold_5 : decode cX5_threshold 5 = .ok (.iload_n 2, 1) := by decide +kernel
theorem dX5_threshold_6 : decode cX5_threshold 6 = .ok (.invokevirtual 74, 3) := by decide +kernel
theorem dX5_threshold_9 : decode cX5_threshold 9 = .ok (.astore_n 3, 1) := by decide +kernel
theorem dX5_threshold_10 : decode cX5_threshold 10 = .ok (.aload_n 3, 1) := by decide +kernel
theorem dX5_threshold_11 : decode cX5_threshold 11 = .ok (.ifnonnull 7, 3) := by decide +kernel
theorem dX5_threshold_14 : decode cX5_threshold 14 = .ok (.iconst (-1), 1) := by decide +kernel
theorem dX5_threshold_15 : decode cX5_threshold 15 = .ok (.goto 14, 3) := by decide +kernel
theorem dX5_threshold_18 : decode cX5_threshold 18 = .ok (.aload_n 3, 1) := by decide +kernel
theorem dX5_threshold_19 : decode cX5_threshold 19 = .ok (.aload_n 0, 1) := by decide +kernel
theorem dX5_threshold_20 : decode cX5_threshold 20 = .ok (.getfield 10, 3) := by decide +kernel
theorem dX5_threshold_23 : decode cX5_threshold 23 = .ok (.invokevirtual 61, 3) := by decide +kernel
theorem dX5_threshold_26 : decode cX5_threshold 26 = .ok (.invokevirtual 167, 3) := by decide +kernel
theorem dX5_threshold_29 : decode cX5_threshold 29 = .ok (.ireturn, 1) := by decide +kernel
theorem dX5_guaranteedCells_0 : decode cX5_guaranteedCells 0 = .ok (.aload_n 0, 1) := by decide +kernel
theorem dX5_guaranteedCells_1 : decode cX5_guaranteedCells 1 = .ok (.getfield 10, 3) := by decide +kernel
theorem dX5_guaranteedCells_4 : decode cX5_guaranteedCells 4 = .ok (.iload_n 1, 1) := by decide +kernel
theorem dX5_guaranteedCells_5 : decode cX5_guaranteedCells 5 = .ok (.iload_n 2, 1) := by decide +kernel
theorem dX5_guaranteedCells_6 : decode cX5_guaranteedCells 6 = .ok (.invokevirtual 74, 3) := by decide +kernel
theorem dX5_guaranteedCells_9 : decode cX5_guaranteedCells 9 = .ok (.astore_n 3, 1) := by decide +kernel
theorem dX5_guaranteedCells_10 : decode cX5_guaranteedCells 10 = .ok (.aload_n 3, 1) := by decide +kernel
theorem dX5_guaranteedCells_11 : decode cX5_guaranteedCells 11 = .ok (.ifnonnull 7, 3) := by decide +kernel
theorem dX5_guaranteedCells_14 : decode cX5_guaranteedCells 14 = .ok (.iconst (-1), 1) := by decide +kernel
theorem dX5_guaranteedCells_15 : decode cX5_guaranteedCells 15 = .ok (.goto 7, 3) := by decide +kernel
theorem dX5_guaranteedCells_18 : decode cX5_guaranteedCells 18 = .ok (.aload_n 3, 1) := by decide +kernel
theorem dX5_guaranteedCells_19 : decode cX5_guaranteedCells 19 = .ok (.getfield 171, 3) := by decide +kernel
theorem dX5_guaranteedCells_22 : decode cX5_guaranteedCells 22 = .ok (.ireturn, 1) := by decide +kernel
theorem dX5_sharedCells_0 : decode cX5_sharedCells 0 = .ok (.aload_n 0, 1) := by decide +kernel
theorem dX5_sharedCells_1 : decode cX5_sharedCells 1 = .ok (.getfield 10, 3) := by decide +kernel
theorem dX5_sharedCells_4 : decode cX5_sharedCells 4 = .ok (.iload_n 1, 1) := by decide +kernel
theorem dX5_sharedCells_5 : decode cX5_sharedCells 5 = .ok (.iload_n 2, 1) := by decide +kernel
theorem dX5_sharedCells_6 : decode cX5_sharedCells 6 = .ok (.invokevirtual 74, 3) := by decide +kernel
theorem dX5_sharedCells_9 : decode cX5_sharedCells 9 = .ok (.astore_n 3, 1) := by decide +kernel
theorem dX5_sharedCells_10 : decode cX5_sharedCells 10 = .ok (.aload_n 3, 1) := by decide +kernel
theorem dX5_sharedCells_11 : decode cX5_sharedCells 11 = .ok (.ifnonnull 7, 3) := by decide +kernel
theorem dX5_sharedCells_14 : decode cX5_sharedCells 14 = .ok (.iconst (-1), 1) := by decide +kernel
theorem dX5_sharedCells_15 : decode cX5_sharedCells 15 = .ok (.goto 7, 3) := by decide +kernel
theorem dX5_sharedCells_18 : decode cX5_sharedCells 18 = .ok (.aload_n 3, 1) := by decide +kernel
theorem dX5_sharedCells_19 : decode cX5_sharedCells 19 = .ok (.getfield 174, 3) := by decide +kernel
theorem dX5_sharedCells_22 : decode cX5_sharedCells 22 = .ok (.ireturn, 1) := by decide +kernel
theorem dX5_headroomCells_0 : decode cX5_headroomCells 0 = .ok (.aload_n 0, 1) := by decide +kernel
theorem dX5_headroomCells_1 : decode cX5_headroomCells 1 = .ok (.getfield 10, 3) := by decide +kernel
theorem dX5_headroomCells_4 : decode cX5_headroomCells 4 = .ok (.iload_n 1, 1) := by decide +kernel
theorem dX5_headroomCells_5 : decode cX5_headroomCells 5 = .ok (.iload_n 2, 1) := by decide +kernel
theorem dX5_headroomCells_6 : decode cX5_headroomCells 6 = .ok (.invokevirtual 74, 3) := by decide +kernel
theorem dX5_headroomCells_9 : decode cX5_headroomCells 9 = .ok (.astore_n 3, 1) := by decide +kernel
theorem dX5_headroomCells_10 : decode cX5_headroomCells 10 = .ok (.aload_n 3, 1) := by decide +kernel
theorem dX5_headroomCells_11 : decode cX5_headroomCells 11 = .ok (.ifnonnull 7, 3) := by decide +kernel
theorem dX5_headroomCells_14 : decode cX5_headroomCells 14 = .ok (.iconst (-1), 1) := by decide +kernel
theorem dX5_headroomCells_15 : decode cX5_headroomCells 15 = .ok (.goto 7, 3) := by decide +kernel
theorem dX5_headroomCells_18 : decode cX5_headroomCells 18 = .ok (.aload_n 3, 1) := by decide +kernel
theorem dX5_headroomCells_19 : decode cX5_headroomCells 19 = .ok (.getfield 92, 3) := by decide +kernel
theorem dX5_headroomCells_22 : decode cX5_headroomCells 22 = .ok (.ireturn, 1) := by decide +kernel
theorem dX5_burstTank_0 : decode cX5_burstTank 0 = .ok (.aload_n 0, 1) := by decide +kernel
theorem dX5_burstTank_1 : decode cX5_burstTank 1 = .ok (.getfield 10, 3) := by decide +kernel
theorem dX5_burstTank_4 : decode cX5_burstTank 4 = .ok (.iload_n 1, 1) := by decide +kernel
theorem dX5_burstTank_5 : decode cX5_burstTank 5 = .ok (.iload_n 2, 1) := by decide +kernel
theorem dX5_burstTank_6 : decode cX5_burstTank 6 = .ok (.invokevirtual 74, 3) := by decide +kernel
theorem dX5_burstTank_9 : decode cX5_burstTank 9 = .ok (.astore_n 3, 1) := by decide +kernel
theorem dX5_burstTank_10 : decode cX5_burstTank 10 = .ok (.aload_n 3, 1) := by decide +kernel
theorem dX5_burstTank_11 : decode cX5_burstTank 11 = .ok (.ifnonnull 7, 3) := by decide +kernel
theorem dX5_burstTank_14 : decode cX5_burstTank 14 = .ok (.iconst (-1), 1) := by decide +kernel
theorem dX5_burstTank_15 : decode cX5_burstTank 15 = .ok (.goto 7, 3) := by decide +kernel
theorem dX5_burstTank_18 : decode cX5_burstTank 18 = .ok (.aload_n 3, 1) := by decide +kernel
theorem dX5_burstTank_19 : decode cX5_burstTank 19 = .ok (.getfield 83, 3) := by decide +kernel
theorem dX5_burstTank_22 : decode cX5_burstTank 22 = .ok (.ireturn, 1) := by decide +kernel
theorem dX5_isPaused_0 : decode cX5_isPaused 0 = .ok (.aload_n 0, 1) := by decide +kernel
theorem dX5_isPaused_1 : decode cX5_isPaused 1 = .ok (.getfield 10, 3) := by decide +kernel
theorem dX5_isPaused_4 : decode cX5_isPaused 4 = .ok (.iload_n 1, 1) := by decide +kernel
theorem dX5_isPaused_5 : decode cX5_isPaused 5 = .ok (.iload_n 2, 1) := by decide +kernel
theorem dX5_isPaused_6 : decode cX5_isPaused 6 = .ok (.invokevirtual 74, 3) := by decide +kernel
theorem dX5_isPaused_9 : decode cX5_isPaused 9 = .ok (.astore_n 3, 1) := by decide +kernel
theorem dX5_isPaused_10 : decode cX5_isPaused 10 = .ok (.aload_n 3, 1) := by decide +kernel
theorem dX5_isPaused_11 : decode cX5_isPaused 11 = .ok (.ifnonnull 7, 3) := by decide +kernel
theorem dX5_isPaused_14 : decode cX5_isPaused 14 = .ok (.iconst (-1), 1) := by decide +kernel
theorem dX5_isPaused_15 : decode cX5_isPaused 15 = .ok (.goto 10, 3) := by decide +kernel
theorem dX5_isPaused_18 : decode cX5_isPaused 18 = .ok (.aload_n 3, 1) := by decide +kernel
theorem dX5_isPaused_19 : decode cX5_isPaused 19 = .ok (.getfield 103, 3) := by decide +kernel
theorem dX5_isPaused_22 : decode cX5_isPaused 22 = .ok (.invokestatic 99, 3) := by decide +kernel
theorem dX5_isPaused_25 : decode cX5_isPaused 25 = .ok (.ireturn, 1) := by decide +kernel
theorem dX5_pauses_0 : decode cX5_pauses 0 = .ok (.aload_n 0, 1) := by decide +kernel
theorem dX5_pauses_1 : decode cX5_pauses 1 = .ok (.getfield 10, 3) := by decide +kernel
theorem dX5_pauses_4 : decode cX5_pauses 4 = .ok (.iload_n 1, 1) := by decide +kernel
theorem dX5_pauses_5 : decode cX5_pauses 5 = .ok (.iload_n 2, 1) := by decide +kernel
theorem dX5_pauses_6 : decode cX5_pauses 6 = .ok (.invokevirtual 74, 3) := by decide +kernel
theorem dX5_pauses_9 : decode cX5_pauses 9 = .ok (.astore_n 3, 1) := by decide +kernel
theorem dX5_pauses_10 : decode cX5_pauses 10 = .ok (.aload_n 3, 1) := by decide +kernel
theorem dX5_pauses_11 : decode cX5_pauses 11 = .ok (.ifnonnull 7, 3) := by decide +kernel
theorem dX5_pauses_14 : decode cX5_pauses 14 = .ok (.iconst (-1), 1) := by decide +kernel
theorem dX5_pauses_15 : decode cX5_pauses 15 = .ok (.goto 7, 3) := by decide +kernel
theorem dX5_pauses_18 : decode cX5_pauses 18 = .ok (.aload_n 3, 1) := by decide +kernel
theorem dX5_pauses_19 : decode cX5_pauses 19 = .ok (.getfield 177, 3) := by decide +kernel
theorem dX5_pauses_22 : decode cX5_pauses 22 = .ok (.ireturn, 1) := by decide +kernel
theorem dX5_credit_0 : decode cX5_credit 0 = .ok (.aload_n 0, 1) := by decide +kernel
theorem dX5_credit_1 : decode cX5_credit 1 = .ok (.getfield 10, 3) := by decide +kernel
theorem dX5_credit_4 : decode cX5_credit 4 = .ok (.iload_n 1, 1) := by decide +kernel
theorem dX5_credit_5 : decode cX5_credit 5 = .ok (.invokevirtual 52, 3) := by decide +kernel
theorem dX5_credit_8 : decode cX5_credit 8 = .ok (.astore_n 2, 1) := by decide +kernel
theorem dX5_credit_9 : decode cX5_credit 9 = .ok (.aload_n 2, 1) := by decide +kernel
theorem dX5_credit_10 : decode cX5_credit 10 = .ok (.ifnonnull 7, 3) := by decide +kernel
theorem dX5_credit_13 : decode cX5_credit 13 = .ok (.iconst (-1), 1) := by decide +kernel
theorem dX5_credit_14 : decode cX5_credit 14 = .ok (.goto 7, 3) := by decide +kernel
theorem dX5_credit_17 : decode cX5_credit 17 = .ok (.aload_n 2, 1) := by decide +kernel
theorem dX5_credit_18 : decode cX5_credit 18 = .ok (.getfield 180, 3) := by decide +kernel
theorem dX5_credit_21 : decode cX5_credit 21 = .ok (.ireturn, 1) := by decide +kernel
theorem dX5_deficit_0 : decode cX5_deficit 0 = .ok (.aload_n 0, 1) := by decide +kernel
theorem dX5_deficit_1 : decode cX5_deficit 1 = .ok (.getfield 10, 3) := by decide +kernel
theorem dX5_deficit_4 : decode cX5_deficit 4 = .ok (.iload_n 1, 1) := by decide +kernel
theorem dX5_deficit_5 : decode cX5_deficit 5 = .ok (.iload_n 2, 1) := by decide +kernel
theorem dX5_deficit_6 : decode cX5_deficit 6 = .ok (.invokevirtual 74, 3) := by decide +kernel
theorem dX5_deficit_9 : decode cX5_deficit 9 = .ok (.astore_n 3, 1) := by decide +kernel
theorem dX5_deficit_10 : decode cX5_deficit 10 = .ok (.aload_n 3, 1) := by decide +kernel
theorem dX5_deficit_11 : decode cX5_deficit 11 = .ok (.ifnonnull 7, 3) := by decide +kernel
theorem dX5_deficit_14 : decode cX5_deficit 14 = .ok (.iconst (-1), 1) := by decide +kernel
theorem dX5_deficit_15 : decode cX5_deficit 15 = .ok (.goto 7, 3) := by decide +kernel
theorem dX5_deficit_18 : decode cX5_deficit 18 = .ok (.aload_n 3, 1) := by decide +kernel
theorem dX5_deficit_19 : decode cX5_deficit 19 = .ok (.getfield 183, 3) := by decide +kernel
theorem dX5_deficit_22 : decode cX5_deficit 22 = .ok (.ireturn, 1) := by decide +kernel
theorem dX5_losses_0 : decode cX5_losses 0 = .ok (.aload_n 0, 1) := by decide +kernel
theorem dX5_losses_1 : decode cX5_losses 1 = .ok (.getfield 10, 3) := by decide +kernel
theorem dX5_losses_4 : decode cX5_losses 4 = .ok (.iload_n 1, 1) := by decide +kernel
theorem dX5_losses_5 : decode cX5_losses 5 = .ok (.invokevirtual 52, 3) := by decide +kernel
theorem dX5_losses_8 : decode cX5_losses 8 = .ok (.astore_n 3, 1) := by decide +kernel
theorem dX5_losses_9 : decode cX5_losses 9 = .ok (.aload_n 3, 1) := by decide +kernel
theorem dX5_losses_10 : decode cX5_losses 10 = .ok (.ifnonnull 5, 3) := by decide +kernel
theorem dX5_losses_13 : decode cX5_losses 13 = .ok (.iconst (-1), 1) := by decide +kernel
theorem dX5_losses_14 : decode cX5_losses 14 = .ok (.ireturn, 1) := by decide +kernel
theorem dX5_losses_15 : decode cX5_losses 15 = .ok (.iload_n 2, 1) := by decide +kernel
theorem dX5_losses_16 : decode cX5_losses 16 = .ok (.tableswitch 55 2 9 #[48, 48, 55, 48, 55, 55, 48, 48], 48) := by decide +kernel
theorem dX5_losses_64 : decode cX5_losses 64 = .ok (.aload_n 3, 1) := by decide +kernel
theorem dX5_losses_65 : decode cX5_losses 65 = .ok (.getfield 186, 3) := by decide +kernel
theorem dX5_losses_68 : decode cX5_losses 68 = .ok (.iload_n 2, 1) := by decide +kernel
theorem dX5_losses_69 : decode cX5_losses 69 = .ok (.iaload, 1) := by decide +kernel
theorem dX5_losses_70 : decode cX5_losses 70 = .ok (.ireturn, 1) := by decide +kernel
theorem dX5_losses_71 : decode cX5_losses 71 = .ok (.bipush (-2), 2) := by decide +kernel
theorem dX5_losses_73 : decode cX5_losses 73 = .ok (.ireturn, 1) := by decide +kernel
theorem dX5_lostCells_0 : decode cX5_lostCells 0 = .ok (.aload_n 0, 1) := by decide +kernel
theorem dX5_lostCells_1 : decode cX5_lostCells 1 = .ok (.getfield 10, 3) := by decide +kernel
theorem dX5_lostCells_4 : decode cX5_lostCells 4 = .ok (.iload_n 1, 1) := by decide +kernel
theorem dX5_lostCells_5 : decode cX5_lostCells 5 = .ok (.invokevirtual 52, 3) := by decide +kernel
theorem dX5_lostCells_8 : decode cX5_lostCells 8 = .ok (.astore_n 2, 1) := by decide +kernel
theorem dX5_lostCells_9 : decode cX5_lostCells 9 = .ok (.aload_n 2, 1) := by decide +kernel
theorem dX5_lostCells_10 : decode cX5_lostCells 10 = .ok (.ifnonnull 7, 3) := by decide +kernel
theorem dX5_lostCells_13 : decode cX5_lostCells 13 = .ok (.iconst (-1), 1) := by decide +kernel
theorem dX5_lostCells_14 : decode cX5_lostCells 14 = .ok (.goto 7, 3) := by decide +kernel
theorem dX5_lostCells_17 : decode cX5_lostCells 17 = .ok (.aload_n 2, 1) := by decide +kernel
theorem dX5_lostCells_18 : decode cX5_lostCells 18 = .ok (.getfield 190, 3) := by decide +kernel
theorem dX5_lostCells_21 : decode cX5_lostCells 21 = .ok (.ireturn, 1) := by decide +kernel
theorem dX5_lossCause_0 : decode cX5_lossCause 0 = .ok (.iload_n 1, 1) := by decide +kernel
theorem dX5_lossCause_1 : decode cX5_lossCause 1 = .ok (.iconst 0, 1) := by decide +kernel
theorem dX5_lossCause_2 : decode cX5_lossCause 2 = .ok (.iconst 3, 1) := by decide +kernel
theorem dX5_lossCause_3 : decode cX5_lossCause 3 = .ok (.invokestatic 38, 3) := by decide +kernel
theorem dX5_lossCause_6 : decode cX5_lossCause 6 = .ok (.ifCond .eq 5, 3) := by decide +kernel
theorem dX5_lossCause_9 : decode cX5_lossCause 9 = .ok (.iconst (-1), 1) := by decide +kernel
theorem dX5_lossCause_10 : decode cX5_lossCause 10 = .ok (.ireturn, 1) := by decide +kernel
theorem dX5_lossCause_11 : decode cX5_lossCause 11 = .ok (.aload_n 0, 1) := by decide +kernel
theorem dX5_lossCause_12 : decode cX5_lossCause 12 = .ok (.getfield 10, 3) := by decide +kernel
theorem dX5_lossCause_15 : decode cX5_lossCause 15 = .ok (.getfield 193, 3) := by decide +kernel
theorem dX5_lossCause_18 : decode cX5_lossCause 18 = .ok (.ifCond .eq 17, 3) := by decide +kernel
theorem dX5_lossCause_21 : decode cX5_lossCause 21 = .ok (.aload_n 0, 1) := by decide +kernel
theorem dX5_lossCause_22 : decode cX5_lossCause 22 = .ok (.getfield 10, 3) := by decide +kernel
theorem dX5_lossCause_25 : decode cX5_lossCause 25 = .ok (.getfield 196, 3) := by decide +kernel
theorem dX5_lossCause_28 : decode cX5_lossCause 28 = .ok (.iconst 3, 1) := by decide +kernel
theorem dX5_lossCause_29 : decode cX5_lossCause 29 = .ok (.iload_n 1, 1) := by decide +kernel
theorem dX5_lossCause_30 : decode cX5_lossCause 30 = .ok (.isub, 1) := by decide +kernel
theorem dX5_lossCause_31 : decode cX5_lossCause 31 = .ok (.iaload, 1) := by decide +kernel
theorem dX5_lossCause_32 : decode cX5_lossCause 32 = .ok (.goto 5, 3) := by decide +kernel
theorem dX5_lossCause_35 : decode cX5_lossCause 35 = .ok (.bipush (-5), 2) := by decide +kernel
theorem dX5_lossCause_37 : decode cX5_lossCause 37 = .ok (.ireturn, 1) := by decide +kernel
theorem dX5_departed_0 : decode cX5_departed 0 = .ok (.aload_n 0, 1) := by decide +kernel
theorem dX5_departed_1 : decode cX5_departed 1 = .ok (.getfield 10, 3) := by decide +kernel
theorem dX5_departed_4 : decode cX5_departed 4 = .ok (.iload_n 1, 1) := by decide +kernel
theorem dX5_departed_5 : decode cX5_departed 5 = .ok (.invokevirtual 52, 3) := by decide +kernel
theorem dX5_departed_8 : decode cX5_departed 8 = .ok (.astore_n 2, 1) := by decide +kernel
theorem dX5_departed_9 : decode cX5_departed 9 = .ok (.aload_n 2, 1) := by decide +kernel
theorem dX5_departed_10 : decode cX5_departed 10 = .ok (.ifnonnull 7, 3) := by decide +kernel
theorem dX5_departed_13 : decode cX5_departed 13 = .ok (.iconst (-1), 1) := by decide +kernel
theorem dX5_departed_14 : decode cX5_departed 14 = .ok (.goto 7, 3) := by decide +kernel
theorem dX5_departed_17 : decode cX5_departed 17 = .ok (.aload_n 2, 1) := by decide +kernel
theorem dX5_departed_18 : decode cX5_departed 18 = .ok (.getfield 199, 3) := by decide +kernel
theorem dX5_departed_21 : decode cX5_departed 21 = .ok (.ireturn, 1) := by decide +kernel
theorem dX5_admitted_0 : decode cX5_admitted 0 = .ok (.aload_n 0, 1) := by decide +kernel
theorem dX5_admitted_1 : decode cX5_admitted 1 = .ok (.getfield 10, 3) := by decide +kernel
theorem dX5_admitted_4 : decode cX5_admitted 4 = .ok (.getfield 202, 3) := by decide +kernel
theorem dX5_admitted_7 : decode cX5_admitted 7 = .ok (.ireturn, 1) := by decide +kernel
theorem dX5_time_0 : decode cX5_time 0 = .ok (.aload_n 0, 1) := by decide +kernel
theorem dX5_time_1 : decode cX5_time 1 = .ok (.getfield 10, 3) := by decide +kernel
theorem dX5_time_4 : decode cX5_time 4 = .ok (.getfield 205, 3) := by decide +kernel
theorem dX5_time_7 : decode cX5_time 7 = .ok (.ireturn, 1) := by decide +kernel
theorem dX5_queueLength_0 : decode cX5_queueLength 0 = .ok (.aload_n 0, 1) := by decide +kernel
theorem dX5_queueLength_1 : decode cX5_queueLength 1 = .ok (.getfield 10, 3) := by decide +kernel
theorem dX5_queueLength_4 : decode cX5_queueLength 4 = .ok (.iload_n 1, 1) := by decide +kernel
theorem dX5_queueLength_5 : decode cX5_queueLength 5 = .ok (.iload_n 2, 1) := by decide +kernel
theorem dX5_queueLength_6 : decode cX5_queueLength 6 = .ok (.invokevirtual 74, 3) := by decide +kernel
theorem dX5_queueLength_9 : decode cX5_queueLength 9 = .ok (.astore_n 3, 1) := by decide +kernel
theorem dX5_queueLength_10 : decode cX5_queueLength 10 = .ok (.aload_n 3, 1) := by decide +kernel
theorem dX5_queueLength_11 : decode cX5_queueLength 11 = .ok (.ifnonnull 7, 3) := by decide +kernel
theorem dX5_queueLength_14 : decode cX5_queueLength 14 = .ok (.iconst (-1), 1) := by decide +kernel
theorem dX5_queueLength_15 : decode cX5_queueLength 15 = .ok (.goto 7, 3) := by decide +kernel
theorem dX5_queueLength_18 : decode cX5_queueLength 18 = .ok (.aload_n 3, 1) := by decide +kernel
theorem dX5_queueLength_19 : decode cX5_queueLength 19 = .ok (.getfield 208, 3) := by decide +kernel
theorem dX5_queueLength_22 : decode cX5_queueLength 22 = .ok (.ireturn, 1) := by decide +kernel
theorem dX5_packetAt_0 : decode cX5_packetAt 0 = .ok (.aload_n 0, 1) := by decide +kernel
theorem dX5_packetAt_1 : decode cX5_packetAt 1 = .ok (.getfield 10, 3) := by decide +kernel
theorem dX5_packetAt_4 : decode cX5_packetAt 4 = .ok (.iload_n 1, 1) := by decide +kernel
theorem dX5_packetAt_5 : decode cX5_packetAt 5 = .ok (.iload_n 2, 1) := by decide +kernel
theorem dX5_packetAt_6 : decode cX5_packetAt 6 = .ok (.invokevirtual 74, 3) := by decide +kernel
theorem dX5_packetAt_9 : decode cX5_packetAt 9 = .ok (.astore 4, 2) := by decide +kernel
theorem dX5_packetAt_11 : decode cX5_packetAt 11 = .ok (.aload 4, 2) := by decide +kernel
theorem dX5_packetAt_13 : decode cX5_packetAt 13 = .ok (.ifnull 18, 3) := by decide +kernel
theorem dX5_packetAt_16 : decode cX5_packetAt 16 = .ok (.iload_n 3, 1) := by decide +kernel
theorem dX5_packetAt_17 : decode cX5_packetAt 17 = .ok (.iconst 0, 1) := by decide +kernel
theorem dX5_packetAt_18 : decode cX5_packetAt 18 = .ok (.aload 4, 2) := by decide +kernel
theorem dX5_packetAt_20 : decode cX5_packetAt 20 = .ok (.getfield 208, 3) := by decide +kernel
theorem dX5_packetAt_23 : decode cX5_packetAt 23 = .ok (.iconst 1, 1) := by decide +kernel
theorem dX5_packetAt_24 : decode cX5_packetAt 24 = .ok (.isub, 1) := by decide +kernel
theorem dX5_packetAt_25 : decode cX5_packetAt 25 = .ok (.invokestatic 38, 3) := by decide +kernel
theorem dX5_packetAt_28 : decode cX5_packetAt 28 = .ok (.ifCond .eq 5, 3) := by decide +kernel
theorem dX5_packetAt_31 : decode cX5_packetAt 31 = .ok (.iconst (-1), 1) := by decide +kernel
theorem dX5_packetAt_32 : decode cX5_packetAt 32 = .ok (.ireturn, 1) := by decide +kernel
theorem dX5_packetAt_33 : decode cX5_packetAt 33 = .ok (.aload 4, 2) := by decide +kernel
theorem dX5_packetAt_35 : decode cX5_packetAt 35 = .ok (.getfield 211, 3) := by decide +kernel
theorem dX5_packetAt_38 : decode cX5_packetAt 38 = .ok (.istore 5, 2) := by decide +kernel
theorem dX5_packetAt_40 : decode cX5_packetAt 40 = .ok (.iconst 0, 1) := by decide +kernel
theorem dX5_packetAt_41 : decode cX5_packetAt 41 = .ok (.istore 6, 2) := by decide +kernel
theorem dX5_packetAt_43 : decode cX5_packetAt 43 = .ok (.iload 6, 2) := by decide +kernel
theorem dX5_packetAt_45 : decode cX5_packetAt 45 = .ok (.iload_n 3, 1) := by decide +kernel
theorem dX5_packetAt_46 : decode cX5_packetAt 46 = .ok (.if_icmp .ge 23, 3) := by decide +kernel
theorem dX5_packetAt_49 : decode cX5_packetAt 49 = .ok (.aload_n 0, 1) := by decide +kernel
theorem dX5_packetAt_50 : decode cX5_packetAt 50 = .ok (.getfield 10, 3) := by decide +kernel
theorem dX5_packetAt_53 : decode cX5_packetAt 53 = .ok (.getfield 42, 3) := by decide +kernel
theorem dX5_packetAt_56 : decode cX5_packetAt 56 = .ok (.iload 5, 2) := by decide +kernel
theorem dX5_packetAt_58 : decode cX5_packetAt 58 = .ok (.invokevirtual 214, 3) := by decide +kernel
theorem dX5_packetAt_61 : decode cX5_packetAt 61 = .ok (.istore 5, 2) := by decide +kernel
theorem dX5_packetAt_63 : decode cX5_packetAt 63 = .ok (.iinc 6 1, 3) := by decide +kernel
theorem dX5_packetAt_66 : decode cX5_packetAt 66 = .ok (.goto (-23), 3) := by decide +kernel
theorem dX5_packetAt_69 : decode cX5_packetAt 69 = .ok (.aload_n 0, 1) := by decide +kernel
theorem dX5_packetAt_70 : decode cX5_packetAt 70 = .ok (.getfield 10, 3) := by decide +kernel
theorem dX5_packetAt_73 : decode cX5_packetAt 73 = .ok (.getfield 42, 3) := by decide +kernel
theorem dX5_packetAt_76 : decode cX5_packetAt 76 = .ok (.iload 5, 2) := by decide +kernel
theorem dX5_packetAt_78 : decode cX5_packetAt 78 = .ok (.invokevirtual 217, 3) := by decide +kernel
theorem dX5_packetAt_81 : decode cX5_packetAt 81 = .ok (.ireturn, 1) := by decide +kernel
theorem dX5_fragments_0 : decode cX5_fragments 0 = .ok (.aload_n 0, 1) := by decide +kernel
theorem dX5_fragments_1 : decode cX5_fragments 1 = .ok (.getfield 10, 3) := by decide +kernel
theorem dX5_fragments_4 : decode cX5_fragments 4 = .ok (.getfield 42, 3) := by decide +kernel
theorem dX5_fragments_7 : decode cX5_fragments 7 = .ok (.iload_n 1, 1) := by decide +kernel
theorem dX5_fragments_8 : decode cX5_fragments 8 = .ok (.invokevirtual 220, 3) := by decide +kernel
theorem dX5_fragments_11 : decode cX5_fragments 11 = .ok (.istore_n 2, 1) := by decide +kernel
theorem dX5_fragments_12 : decode cX5_fragments 12 = .ok (.iload_n 2, 1) := by decide +kernel
theorem dX5_fragments_13 : decode cX5_fragments 13 = .ok (.iconst (-1), 1) := by decide +kernel
theorem dX5_fragments_14 : decode cX5_fragments 14 = .ok (.if_icmp .ne 7, 3) := by decide +kernel
theorem dX5_fragments_17 : decode cX5_fragments 17 = .ok (.iconst (-1), 1) := by decide +kernel
theorem dX5_fragments_18 : decode cX5_fragments 18 = .ok (.goto 14, 3) := by decide +kernel
theorem dX5_fragments_21 : decode cX5_fragments 21 = .ok (.aload_n 0, 1) := by decide +kernel
theorem dX5_fragments_22 : decode cX5_fragments 22 = .ok (.getfield 10, 3) := by decide +kernel
theorem dX5_fragments_25 : decode cX5_fragments 25 = .ok (.getfield 42, 3) := by decide +kernel
theorem dX5_fragments_28 : decode cX5_fragments 28 = .ok (.iload_n 2, 1) := by decide +kernel
theorem dX5_fragments_29 : decode cX5_fragments 29 = .ok (.invokevirtual 223, 3) := by decide +kernel
theorem dX5_fragments_32 : decode cX5_fragments 32 = .ok (.ireturn, 1) := by decide +kernel
theorem dX5_fragmentStart_0 : decode cX5_fragmentStart 0 = .ok (.aload_n 0, 1) := by decide +kernel
theorem dX5_fragmentStart_1 : decode cX5_fragmentStart 1 = .ok (.getfield 10, 3) := by decide +kernel
theorem dX5_fragmentStart_4 : decode cX5_fragmentStart 4 = .ok (.getfield 42, 3) := by decide +kernel
theorem dX5_fragmentStart_7 : decode cX5_fragmentStart 7 = .ok (.aload_n 0, 1) := by decide +kernel
theorem dX5_fragmentStart_8 : decode cX5_fragmentStart 8 = .ok (.getfield 10, 3) := by decide +kernel
theorem dX5_fragmentStart_11 : decode cX5_fragmentStart 11 = .ok (.getfield 42, 3) := by decide +kernel
theorem dX5_fragmentStart_14 : decode cX5_fragmentStart 14 = .ok (.iload_n 1, 1) := by decide +kernel
theorem dX5_fragmentStart_15 : decode cX5_fragmentStart 15 = .ok (.invokevirtual 220, 3) := by decide +kernel
theorem dX5_fragmentStart_18 : decode cX5_fragmentStart 18 = .ok (.iload_n 2, 1) := by decide +kernel
theorem dX5_fragmentStart_19 : decode cX5_fragmentStart 19 = .ok (.invokevirtual 226, 3) := by decide +kernel
theorem dX5_fragmentStart_22 : decode cX5_fragmentStart 22 = .ok (.istore_n 3, 1) := by decide +kernel
theorem dX5_fragmentStart_23 : decode cX5_fragmentStart 23 = .ok (.iload_n 3, 1) := by decide +kernel
theorem dX5_fragmentStart_24 : decode cX5_fragmentStart 24 = .ok (.iconst (-1), 1) := by decide +kernel
theorem dX5_fragmentStart_25 : decode cX5_fragmentStart 25 = .ok (.if_icmp .ne 7, 3) := by decide +kernel
theorem dX5_fragmentStart_28 : decode cX5_fragmentStart 28 = .ok (.iconst (-1), 1) := by decide +kernel
theorem dX5_fragmentStart_29 : decode cX5_fragmentStart 29 = .ok (.goto 4, 3) := by decide +kernel
theorem dX5_fragmentStart_32 : decode cX5_fragmentStart 32 = .ok (.iload_n 3, 1) := by decide +kernel
theorem dX5_fragmentStart_33 : decode cX5_fragmentStart 33 = .ok (.ireturn, 1) := by decide +kernel
theorem dX5_fragmentLength_0 : decode cX5_fragmentLength 0 = .ok (.aload_n 0, 1) := by decide +kernel
theorem dX5_fragmentLength_1 : decode cX5_fragmentLength 1 = .ok (.getfield 10, 3) := by decide +kernel
theorem dX5_fragmentLength_4 : decode cX5_fragmentLength 4 = .ok (.getfield 42, 3) := by decide +kernel
theorem dX5_fragmentLength_7 : decode cX5_fragmentLength 7 = .ok (.aload_n 0, 1) := by decide +kernel
theorem dX5_fragmentLength_8 : decode cX5_fragmentLength 8 = .ok (.getfield 10, 3) := by decide +kernel
theorem dX5_fragmentLength_11 : decode cX5_fragmentLength 11 = .ok (.getfield 42, 3) := by decide +kernel
theorem dX5_fragmentLength_14 : decode cX5_fragmentLength 14 = .ok (.iload_n 1, 1) := by decide +kernel
theorem dX5_fragmentLength_15 : decode cX5_fragmentLength 15 = .ok (.invokevirtual 220, 3) := by decide +kernel
theorem dX5_fragmentLength_18 : decode cX5_fragmentLength 18 = .ok (.iload_n 2, 1) := by decide +kernel
theorem dX5_fragmentLength_19 : decode cX5_fragmentLength 19 = .ok (.invokevirtual 226, 3) := by decide +kernel
theorem dX5_fragmentLength_22 : decode cX5_fragmentLength 22 = .ok (.istore_n 3, 1) := by decide +kernel
theorem dX5_fragmentLength_23 : decode cX5_fragmentLength 23 = .ok (.iload_n 3, 1) := by decide +kernel
theorem dX5_fragmentLength_24 : decode cX5_fragmentLength 24 = .ok (.iconst (-1), 1) := by decide +kernel
theorem dX5_fragmentLength_25 : decode cX5_fragmentLength 25 = .ok (.if_icmp .ne 7, 3) := by decide +kernel
theorem dX5_fragmentLength_28 : decode cX5_fragmentLength 28 = .ok (.iconst (-1), 1) := by decide +kernel
theorem dX5_fragmentLength_29 : decode cX5_fragmentLength 29 = .ok (.goto 15, 3) := by decide +kernel
theorem dX5_fragmentLength_32 : decode cX5_fragmentLength 32 = .ok (.aload_n 0, 1) := by decide +kernel
theorem dX5_fragmentLength_33 : decode cX5_fragmentLength 33 = .ok (.getfield 10, 3) := by decide +kernel
theorem dX5_fragmentLength_36 : decode cX5_fragmentLength 36 = .ok (.getfield 42, 3) := by decide +kernel
theorem dX5_fragmentLength_39 : decode cX5_fragmentLength 39 = .ok (.getfield 229, 3) := by decide +kernel
theorem dX5_fragmentLength_42 : decode cX5_fragmentLength 42 = .ok (.iload_n 3, 1) := by decide +kernel
theorem dX5_fragmentLength_43 : decode cX5_fragmentLength 43 = .ok (.iaload, 1) := by decide +kernel
theorem dX5_fragmentLength_44 : decode cX5_fragmentLength 44 = .ok (.ireturn, 1) := by decide +kernel
theorem dX5_freeRuns_0 : decode cX5_freeRuns 0 = .ok (.aload_n 0, 1) := by decide +kernel
theorem dX5_freeRuns_1 : decode cX5_freeRuns 1 = .ok (.getfield 10, 3) := by decide +kernel
theorem dX5_freeRuns_4 : decode cX5_freeRuns 4 = .ok (.getfield 42, 3) := by decide +kernel
theorem dX5_freeRuns_7 : decode cX5_freeRuns 7 = .ok (.invokevirtual 232, 3) := by decide +kernel
theorem dX5_freeRuns_10 : decode cX5_freeRuns 10 = .ok (.ireturn, 1) := by decide +kernel
theorem dX5_runStart_0 : decode cX5_runStart 0 = .ok (.aload_n 0, 1) := by decide +kernel
theorem dX5_runStart_1 : decode cX5_runStart 1 = .ok (.getfield 10, 3) := by decide +kernel
theorem dX5_runStart_4 : decode cX5_runStart 4 = .ok (.getfield 42, 3) := by decide +kernel
theorem dX5_runStart_7 : decode cX5_runStart 7 = .ok (.iload_n 1, 1) := by decide +kernel
theorem dX5_runStart_8 : decode cX5_runStart 8 = .ok (.invokevirtual 235, 3) := by decide +kernel
theorem dX5_runStart_11 : decode cX5_runStart 11 = .ok (.istore_n 2, 1) := by decide +kernel
theorem dX5_runStart_12 : decode cX5_runStart 12 = .ok (.iload_n 2, 1) := by decide +kernel
theorem dX5_runStart_13 : decode cX5_runStart 13 = .ok (.iconst (-1), 1) := by decide +kernel
theorem dX5_runStart_14 : decode cX5_runStart 14 = .ok (.if_icmp .ne 7, 3) := by decide +kernel
theorem dX5_runStart_17 : decode cX5_runStart 17 = .ok (.iconst (-1), 1) := by decide +kernel
theorem dX5_runStart_18 : decode cX5_runStart 18 = .ok (.goto 4, 3) := by decide +kernel
theorem dX5_runStart_21 : decode cX5_runStart 21 = .ok (.iload_n 2, 1) := by decide +kernel
theorem dX5_runStart_22 : decode cX5_runStart 22 = .ok (.ireturn, 1) := by decide +kernel
theorem dX5_runLength_0 : decode cX5_runLength 0 = .ok (.aload_n 0, 1) := by decide +kernel
theorem dX5_runLength_1 : decode cX5_runLength 1 = .ok (.getfield 10, 3) := by decide +kernel
theorem dX5_runLength_4 : decode cX5_runLength 4 = .ok (.getfield 42, 3) := by decide +kernel
theorem dX5_runLength_7 : decode cX5_runLength 7 = .ok (.iload_n 1, 1) := by decide +kernel
theorem dX5_runLength_8 : decode cX5_runLength 8 = .ok (.invokevirtual 235, 3) := by decide +kernel
theorem dX5_runLength_11 : decode cX5_runLength 11 = .ok (.istore_n 2, 1) := by decide +kernel
theorem dX5_runLength_12 : decode cX5_runLength 12 = .ok (.iload_n 2, 1) := by decide +kernel
theorem dX5_runLength_13 : decode cX5_runLength 13 = .ok (.iconst (-1), 1) := by decide +kernel
theorem dX5_runLength_14 : decode cX5_runLength 14 = .ok (.if_icmp .ne 7, 3) := by decide +kernel
theorem dX5_runLength_17 : decode cX5_runLength 17 = .ok (.iconst (-1), 1) := by decide +kernel
theorem dX5_runLength_18 : decode cX5_runLength 18 = .ok (.goto 14, 3) := by decide +kernel
theorem dX5_runLength_21 : decode cX5_runLength 21 = .ok (.aload_n 0, 1) := by decide +kernel
theorem dX5_runLength_22 : decode cX5_runLength 22 = .ok (.getfield 10, 3) := by decide +kernel
theorem dX5_runLength_25 : decode cX5_runLength 25 = .ok (.getfield 42, 3) := by decide +kernel
theorem dX5_runLength_28 : decode cX5_runLength 28 = .ok (.iload_n 2, 1) := by decide +kernel
theorem dX5_runLength_29 : decode cX5_runLength 29 = .ok (.invokevirtual 238, 3) := by decide +kernel
theorem dX5_runLength_32 : decode cX5_runLength 32 = .ok (.ireturn, 1) := by decide +kernel
theorem dX5_stageFor_0 : decode cX5_stageFor 0 = .ok (.aload_n 0, 1) := by decide +kernel
theorem dX5_stageFor_1 : decode cX5_stageFor 1 = .ok (.getfield 10, 3) := by decide +kernel
theorem dX5_stageFor_4 : decode cX5_stageFor 4 = .ok (.iload_n 1, 1) := by decide +kernel
theorem dX5_stageFor_5 : decode cX5_stageFor 5 = .ok (.invokevirtual 52, 3) := by decide +kernel
theorem dX5_stageFor_8 : decode cX5_stageFor 8 = .ok (.astore 4, 2) := by decide +kernel
theorem dX5_stageFor_10 : decode cX5_stageFor 10 = .ok (.aload_n 0, 1) := by decide +kernel
theorem dX5_stageFor_11 : decode cX5_stageFor 11 = .ok (.getfield 10, 3) := by decide +kernel
theorem dX5_stageFor_14 : decode cX5_stageFor 14 = .ok (.iload_n 1, 1) := by decide +kernel
theorem dX5_stageFor_15 : decode cX5_stageFor 15 = .ok (.iload_n 2, 1) := by decide +kernel
theorem dX5_stageFor_16 : decode cX5_stageFor 16 = .ok (.invokevirtual 74, 3) := by decide +kernel
theorem dX5_stageFor_19 : decode cX5_stageFor 19 = .ok (.astore 5, 2) := by decide +kernel
theorem dX5_stageFor_21 : decode cX5_stageFor 21 = .ok (.aload 4, 2) := by decide +kernel
theorem dX5_stageFor_23 : decode cX5_stageFor 23 = .ok (.ifnull 8, 3) := by decide +kernel
theorem dX5_stageFor_26 : decode cX5_stageFor 26 = .ok (.aload 5, 2) := by decide +kernel
theorem dX5_stageFor_28 : decode cX5_stageFor 28 = .ok (.ifnonnull 5, 3) := by decide +kernel
theorem dX5_stageFor_31 : decode cX5_stageFor 31 = .ok (.iconst (-1), 1) := by decide +kernel
theorem dX5_stageFor_32 : decode cX5_stageFor 32 = .ok (.ireturn, 1) := by decide +kernel
theorem dX5_stageFor_33 : decode cX5_stageFor 33 = .ok (.iload_n 3, 1) := by decide +kernel
theorem dX5_stageFor_34 : decode cX5_stageFor 34 = .ok (.iconst 1, 1) := by decide +kernel
theorem dX5_stageFor_35 : decode cX5_stageFor 35 = .ok (.bipush 12, 2) := by decide +kernel
theorem dX5_stageFor_37 : decode cX5_stageFor 37 = .ok (.invokestatic 38, 3) := by decide +kernel
theorem dX5_stageFor_40 : decode cX5_stageFor 40 = .ok (.ifCond .eq 6, 3) := by decide +kernel
theorem dX5_stageFor_43 : decode cX5_stageFor 43 = .ok (.bipush (-2), 2) := by decide +kernel
theorem dX5_stageFor_45 : decode cX5_stageFor 45 = .ok (.ireturn, 1) := by decide +kernel
theorem dX5_stageFor_46 : decode cX5_stageFor 46 = .ok (.aload_n 0, 1) := by decide +kernel
theorem dX5_stageFor_47 : decode cX5_stageFor 47 = .ok (.getfield 10, 3) := by decide +kernel
theorem dX5_stageFor_50 : decode cX5_stageFor 50 = .ok (.aload 4, 2) := by decide +kernel
theorem dX5_stageFor_52 : decode cX5_stageFor 52 = .ok (.aload 5, 2) := by decide +kernel
theorem dX5_stageFor_54 : decode cX5_stageFor 54 = .ok (.iload_n 3, 1) := by decide +kernel
theorem dX5_stageFor_55 : decode cX5_stageFor 55 = .ok (.invokevirtual 241, 3) := by decide +kernel
theorem dX5_stageFor_58 : decode cX5_stageFor 58 = .ok (.aload_n 0, 1) := by decide +kernel
theorem dX5_stageFor_59 : decode cX5_stageFor 59 = .ok (.getfield 10, 3) := by decide +kernel
theorem dX5_stageFor_62 : decode cX5_stageFor 62 = .ok (.getfield 245, 3) := by decide +kernel
theorem dX5_stageFor_65 : decode cX5_stageFor 65 = .ok (.ifCond .ne 8, 3) := by decide +kernel
theorem dX5_stageFor_68 : decode cX5_stageFor 68 = .ok (.bipush (-6), 2) := by decide +kernel
theorem dX5_stageFor_70 : decode cX5_stageFor 70 = .ok (.goto 10, 3) := by decide +kernel
theorem dX5_stageFor_73 : decode cX5_stageFor 73 = .ok (.aload_n 0, 1) := by decide +kernel
theorem dX5_stageFor_74 : decode cX5_stageFor 74 = .ok (.getfield 10, 3) := by decide +kernel
theorem dX5_stageFor_77 : decode cX5_stageFor 77 = .ok (.getfield 245, 3) := by decide +kernel
theorem dX5_stageFor_80 : decode cX5_stageFor 80 = .ok (.ireturn, 1) := by decide +kernel
theorem dX5_largestAdmissible_0 : decode cX5_largestAdmissible 0 = .ok (.aload_n 0, 1) := by decide +kernel
theorem dX5_largestAdmissible_1 : decode cX5_largestAdmissible 1 = .ok (.getfield 10, 3) := by decide +kernel
theorem dX5_largestAdmissible_4 : decode cX5_largestAdmissible 4 = .ok (.iload_n 1, 1) := by decide +kernel
theorem dX5_largestAdmissible_5 : decode cX5_largestAdmissible 5 = .ok (.invokevirtual 52, 3) := by decide +kernel
theorem dX5_largestAdmissible_8 : decode cX5_largestAdmissible 8 = .ok (.astore_n 3, 1) := by decide +kernel
theorem dX5_largestAdmissible_9 : decode cX5_largestAdmissible 9 = .ok (.aload_n 0, 1) := by decide +kernel
theorem dX5_largestAdmissible_10 : decode cX5_largestAdmissible 10 = .ok (.getfield 10, 3) := by decide +kernel
theorem dX5_largestAdmissible_13 : decode cX5_largestAdmissible 13 = .ok (.iload_n 1, 1) := by decide +kernel
theorem dX5_largestAdmissible_14 : decode cX5_largestAdmissible 14 = .ok (.iload_n 2, 1) := by decide +kernel
theorem dX5_largestAdmissible_15 : decode cX5_largestAdmissible 15 = .ok (.invokevirtual 74, 3) := by decide +kernel
theorem dX5_largestAdmissible_18 : decode cX5_largestAdmissible 18 = .ok (.astore 4, 2) := by decide +kernel
theorem dX5_largestAdmissible_20 : decode cX5_largestAdmissible 20 = .ok (.aload_n 3, 1) := by decide +kernel
theorem dX5_largestAdmissible_21 : decode cX5_largestAdmissible 21 = .ok (.ifnull 8, 3) := by decide +kernel
theorem dX5_largestAdmissible_24 : decode cX5_largestAdmissible 24 = .ok (.aload 4, 2) := by decide +kernel
theorem dX5_largestAdmissible_26 : decode cX5_largestAdmissible 26 = .ok (.ifnonnull 5, 3) := by decide +kernel
theorem dX5_largestAdmissible_29 : decode cX5_largestAdmissible 29 = .ok (.iconst (-1), 1) := by decide +kernel
theorem dX5_largestAdmissible_30 : decode cX5_largestAdmissible 30 = .ok (.ireturn, 1) := by decide +kernel
theorem dX5_largestAdmissible_31 : decode cX5_largestAdmissible 31 = .ok (.bipush 12, 2) := by decide +kernel
theorem dX5_largestAdmissible_33 : decode cX5_largestAdmissible 33 = .ok (.istore 5, 2) := by decide +kernel
theorem dX5_largestAdmissible_35 : decode cX5_largestAdmissible 35 = .ok (.iload 5, 2) := by decide +kernel
theorem dX5_largestAdmissible_37 : decode cX5_largestAdmissible 37 = .ok (.iconst 1, 1) := by decide +kernel
theorem dX5_largestAdmissible_38 : decode cX5_largestAdmissible 38 = .ok (.if_icmp .lt 34, 3) := by decide +kernel
theorem dX5_largestAdmissible_41 : decode cX5_largestAdmissible 41 = .ok (.aload_n 0, 1) := by decide +kernel
theorem dX5_largestAdmissible_42 : decode cX5_largestAdmissible 42 = .ok (.getfield 10, 3) := by decide +kernel
theorem dX5_largestAdmissible_45 : decode cX5_largestAdmissible 45 = .ok (.aload_n 3, 1) := by decide +kernel
theorem dX5_largestAdmissible_46 : decode cX5_largestAdmissible 46 = .ok (.aload 4, 2) := by decide +kernel
theorem dX5_largestAdmissible_48 : decode cX5_largestAdmissible 48 = .ok (.iload 5, 2) := by decide +kernel
theorem dX5_largestAdmissible_50 : decode cX5_largestAdmissible 50 = .ok (.invokevirtual 241, 3) := by decide +kernel
theorem dX5_largestAdmissible_53 : decode cX5_largestAdmissible 53 = .ok (.aload_n 0, 1) := by decide +kernel
theorem dX5_largestAdmissible_54 : decode cX5_largestAdmissible 54 = .ok (.getfield 10, 3) := by decide +kernel
theorem dX5_largestAdmissible_57 : decode cX5_largestAdmissible 57 = .ok (.getfield 245, 3) := by decide +kernel
theorem dX5_largestAdmissible_60 : decode cX5_largestAdmissible 60 = .ok (.ifCond .eq 6, 3) := by decide +kernel
theorem dX5_largestAdmissible_63 : decode cX5_largestAdmissible 63 = .ok (.iload 5, 2) := by decide +kernel
theorem dX5_largestAdmissible_65 : decode cX5_largestAdmissible 65 = .ok (.ireturn, 1) := by decide +kernel
theorem dX5_largestAdmissible_66 : decode cX5_largestAdmissible 66 = .ok (.iinc 5 (-1), 3) := by decide +kernel
theorem dX5_largestAdmissible_69 : decode cX5_largestAdmissible 69 = .ok (.goto (-34), 3) := by decide +kernel
theorem dX5_largestAdmissible_72 : decode cX5_largestAdmissible 72 = .ok (.iconst 0, 1) := by decide +kernel
theorem dX5_largestAdmissible_73 : decode cX5_largestAdmissible 73 = .ok (.ireturn, 1) := by decide +kernel
theorem dX5_burstCapacity_0 : decode cX5_burstCapacity 0 = .ok (.aload_n 0, 1) := by decide +kernel
theorem dX5_burstCapacity_1 : decode cX5_burstCapacity 1 = .ok (.getfield 10, 3) := by decide +kernel
theorem dX5_burstCapacity_4 : decode cX5_burstCapacity 4 = .ok (.iload_n 1, 1) := by decide +kernel
theorem dX5_burstCapacity_5 : decode cX5_burstCapacity 5 = .ok (.iload_n 2, 1) := by decide +kernel
theorem dX5_burstCapacity_6 : decode cX5_burstCapacity 6 = .ok (.invokevirtual 74, 3) := by decide +kernel
theorem dX5_burstCapacity_9 : decode cX5_burstCapacity 9 = .ok (.ifnonnull 5, 3) := by decide +kernel
theorem dX5_burstCapacity_12 : decode cX5_burstCapacity 12 = .ok (.iconst (-1), 1) := by decide +kernel
theorem dX5_burstCapacity_13 : decode cX5_burstCapacity 13 = .ok (.ireturn, 1) := by decide +kernel
theorem dX5_burstCapacity_14 : decode cX5_burstCapacity 14 = .ok (.iload_n 3, 1) := by decide +kernel
theorem dX5_burstCapacity_15 : decode cX5_burstCapacity 15 = .ok (.iconst 1, 1) := by decide +kernel
theorem dX5_burstCapacity_16 : decode cX5_burstCapacity 16 = .ok (.bipush 12, 2) := by decide +kernel
theorem dX5_burstCapacity_18 : decode cX5_burstCapacity 18 = .ok (.invokestatic 38, 3) := by decide +kernel
theorem dX5_burstCapacity_21 : decode cX5_burstCapacity 21 = .ok (.ifCond .eq 6, 3) := by decide +kernel
theorem dX5_burstCapacity_24 : decode cX5_burstCapacity 24 = .ok (.bipush (-2), 2) := by decide +kernel
theorem dX5_burstCapacity_26 : decode cX5_burstCapacity 26 = .ok (.ireturn, 1) := by decide +kernel
theorem dX5_burstCapacity_27 : decode cX5_burstCapacity 27 = .ok (.aload_n 0, 1) := by decide +kernel
theorem dX5_burstCapacity_28 : decode cX5_burstCapacity 28 = .ok (.getfield 16, 3) := by decide +kernel
theorem dX5_burstCapacity_31 : decode cX5_burstCapacity 31 = .ok (.aload_n 0, 1) := by decide +kernel
theorem dX5_burstCapacity_32 : decode cX5_burstCapacity 32 = .ok (.getfield 10, 3) := by decide +kernel
theorem dX5_burstCapacity_35 : decode cX5_burstCapacity 35 = .ok (.invokevirtual 248, 3) := by decide +kernel
theorem dX5_burstCapacity_38 : decode cX5_burstCapacity 38 = .ok (.aload_n 0, 1) := by decide +kernel
theorem dX5_burstCapacity_39 : decode cX5_burstCapacity 39 = .ok (.getfield 16, 3) := by decide +kernel
theorem dX5_burstCapacity_42 : decode cX5_burstCapacity 42 = .ok (.iconst 0, 1) := by decide +kernel
theorem dX5_burstCapacity_43 : decode cX5_burstCapacity 43 = .ok (.putfield 115, 3) := by decide +kernel
theorem dX5_burstCapacity_46 : decode cX5_burstCapacity 46 = .ok (.aload_n 0, 1) := by decide +kernel
theorem dX5_burstCapacity_47 : decode cX5_burstCapacity 47 = .ok (.getfield 16, 3) := by decide +kernel
theorem dX5_burstCapacity_50 : decode cX5_burstCapacity 50 = .ok (.iload_n 1, 1) := by decide +kernel
theorem dX5_burstCapacity_51 : decode cX5_burstCapacity 51 = .ok (.invokevirtual 52, 3) := by decide +kernel
theorem dX5_burstCapacity_54 : decode cX5_burstCapacity 54 = .ok (.astore 4, 2) := by decide +kernel
theorem dX5_burstCapacity_56 : decode cX5_burstCapacity 56 = .ok (.aload_n 0, 1) := by decide +kernel
theorem dX5_burstCapacity_57 : decode cX5_burstCapacity 57 = .ok (.getfield 16, 3) := by decide +kernel
theorem dX5_burstCapacity_60 : decode cX5_burstCapacity 60 = .ok (.iload_n 1, 1) := by decide +kernel
theorem dX5_burstCapacity_61 : decode cX5_burstCapacity 61 = .ok (.iload_n 2, 1) := by decide +kernel
theorem dX5_burstCapacity_62 : decode cX5_burstCapacity 62 = .ok (.invokevirtual 74, 3) := by decide +kernel
theorem dX5_burstCapacity_65 : decode cX5_burstCapacity 65 = .ok (.astore 5, 2) := by decide +kernel
theorem dX5_burstCapacity_67 : decode cX5_burstCapacity 67 = .ok (.aload 4, 2) := by decide +kernel
theorem dX5_burstCapacity_69 : decode cX5_burstCapacity 69 = .ok (.ifnull 8, 3) := by decide +kernel
theorem dX5_burstCapacity_72 : decode cX5_burstCapacity 72 = .ok (.aload 5, 2) := by decide +kernel
theorem dX5_burstCapacity_74 : decode cX5_burstCapacity 74 = .ok (.ifnonnull 5, 3) := by decide +kernel
theorem dX5_burstCapacity_77 : decode cX5_burstCapacity 77 = .ok (.iconst (-1), 1) := by decide +kernel
theorem dX5_burstCapacity_78 : decode cX5_burstCapacity 78 = .ok (.ireturn, 1) := by decide +kernel
theorem dX5_burstCapacity_79 : decode cX5_burstCapacity 79 = .ok (.iconst 0, 1) := by decide +kernel
theorem dX5_burstCapacity_80 : decode cX5_burstCapacity 80 = .ok (.istore 6, 2) := by decide +kernel
theorem dX5_burstCapacity_82 : decode cX5_burstCapacity 82 = .ok (.iload 6, 2) := by decide +kernel
theorem dX5_burstCapacity_84 : decode cX5_burstCapacity 84 = .ok (.sipush 128, 3) := by decide +kernel
theorem dX5_burstCapacity_87 : decode cX5_burstCapacity 87 = .ok (.if_icmp .ge 29, 3) := by decide +kernel
theorem dX5_burstCapacity_90 : decode cX5_burstCapacity 90 = .ok (.aload_n 0, 1) := by decide +kernel
theorem dX5_burstCapacity_91 : decode cX5_burstCapacity 91 = .ok (.getfield 16, 3) := by decide +kernel
theorem dX5_burstCapacity_94 : decode cX5_burstCapacity 94 = .ok (.aload 4, 2) := by decide +kernel
theorem dX5_burstCapacity_96 : decode cX5_burstCapacity 96 = .ok (.aload 5, 2) := by decide +kernel
theorem dX5_burstCapacity_98 : decode cX5_burstCapacity 98 = .ok (.iload_n 3, 1) := by decide +kernel
theorem dX5_burstCapacity_99 : decode cX5_burstCapacity 99 = .ok (.invokevirtual 129, 3) := by decide +kernel
theorem dX5_burstCapacity_102 : decode cX5_burstCapacity 102 = .ok (.bipush (-6), 2) := by decide +kernel
theorem dX5_burstCapacity_104 : decode cX5_burstCapacity 104 = .ok (.if_icmp .ne 6, 3) := by decide +kernel
theorem dX5_burstCapacity_107 : decode cX5_burstCapacity 107 = .ok (.iload 6, 2) := by decide +kernel
theorem dX5_burstCapacity_109 : decode cX5_burstCapacity 109 = .ok (.ireturn, 1) := by decide +kernel
theorem dX5_burstCapacity_110 : decode cX5_burstCapacity 110 = .ok (.iinc 6 1, 3) := by decide +kernel
theorem dX5_burstCapacity_113 : decode cX5_burstCapacity 113 = .ok (.goto (-31), 3) := by decide +kernel
theorem dX5_burstCapacity_116 : decode cX5_burstCapacity 116 = .ok (.sipush 128, 3) := by decide +kernel
theorem dX5_burstCapacity_119 : decode cX5_burstCapacity 119 = .ok (.ireturn, 1) := by decide +kernel
theorem dX5_drainTicks_0 : decode cX5_drainTicks 0 = .ok (.aload_n 0, 1) := by decide +kernel
theorem dX5_drainTicks_1 : decode cX5_drainTicks 1 = .ok (.getfield 10, 3) := by decide +kernel
theorem dX5_drainTicks_4 : decode cX5_drainTicks 4 = .ok (.iload_n 1, 1) := by decide +kernel
theorem dX5_drainTicks_5 : decode cX5_drainTicks 5 = .ok (.invokevirtual 52, 3) := by decide +kernel
theorem dX5_drainTicks_8 : decode cX5_drainTicks 8 = .ok (.astore_n 2, 1) := by decide +kernel
theorem dX5_drainTicks_9 : decode cX5_drainTicks 9 = .ok (.aload_n 2, 1) := by decide +kernel
theorem dX5_drainTicks_10 : decode cX5_drainTicks 10 = .ok (.ifnonnull 5, 3) := by decide +kernel
theorem dX5_drainTicks_13 : decode cX5_drainTicks 13 = .ok (.iconst (-1), 1) := by decide +kernel
theorem dX5_drainTicks_14 : decode cX5_drainTicks 14 = .ok (.ireturn, 1) := by decide +kernel
theorem dX5_drainTicks_15 : decode cX5_drainTicks 15 = .ok (.aload_n 2, 1) := by decide +kernel
theorem dX5_drainTicks_16 : decode cX5_drainTicks 16 = .ok (.invokevirtual 252, 3) := by decide +kernel
theorem dX5_drainTicks_19 : decode cX5_drainTicks 19 = .ok (.ifCond .eq 5, 3) := by decide +kernel
theorem dX5_drainTicks_22 : decode cX5_drainTicks 22 = .ok (.iconst 0, 1) := by decide +kernel
theorem dX5_drainTicks_23 : decode cX5_drainTicks 23 = .ok (.ireturn, 1) := by decide +kernel
theorem dX5_drainTicks_24 : decode cX5_drainTicks 24 = .ok (.aload_n 0, 1) := by decide +kernel
theorem dX5_drainTicks_25 : decode cX5_drainTicks 25 = .ok (.getfield 16, 3) := by decide +kernel
theorem dX5_drainTicks_28 : decode cX5_drainTicks 28 = .ok (.aload_n 0, 1) := by decide +kernel
theorem dX5_drainTicks_29 : decode cX5_drainTicks 29 = .ok (.getfield 10, 3) := by decide +kernel
theorem dX5_drainTicks_32 : decode cX5_drainTicks 32 = .ok (.invokevirtual 248, 3) := by decide +kernel
theorem dX5_drainTicks_35 : decode cX5_drainTicks 35 = .ok (.aload_n 0, 1) := by decide +kernel
theorem dX5_drainTicks_36 : decode cX5_drainTicks 36 = .ok (.getfield 16, 3) := by decide +kernel
theorem dX5_drainTicks_39 : decode cX5_drainTicks 39 = .ok (.iload_n 1, 1) := by decide +kernel
theorem dX5_drainTicks_40 : decode cX5_drainTicks 40 = .ok (.invokevirtual 52, 3) := by decide +kernel
theorem dX5_drainTicks_43 : decode cX5_drainTicks 43 = .ok (.astore_n 3, 1) := by decide +kernel
theorem dX5_drainTicks_44 : decode cX5_drainTicks 44 = .ok (.aload_n 3, 1) := by decide +kernel
theorem dX5_drainTicks_45 : decode cX5_drainTicks 45 = .ok (.ifnonnull 5, 3) := by decide +kernel
theorem dX5_drainTicks_48 : decode cX5_drainTicks 48 = .ok (.iconst (-1), 1) := by decide +kernel
theorem dX5_drainTicks_49 : decode cX5_drainTicks 49 = .ok (.ireturn, 1) := by decide +kernel
theorem dX5_drainTicks_50 : decode cX5_drainTicks 50 = .ok (.aload_n 3, 1) := by decide +kernel
theorem dX5_drainTicks_51 : decode cX5_drainTicks 51 = .ok (.getfield 106, 3) := by decide +kernel
theorem dX5_drainTicks_54 : decode cX5_drainTicks 54 = .ok (.ifCond .ne 7, 3) := by decide +kernel
theorem dX5_drainTicks_57 : decode cX5_drainTicks 57 = .ok (.iconst 1, 1) := by decide +kernel
theorem dX5_drainTicks_58 : decode cX5_drainTicks 58 = .ok (.goto 6, 3) := by decide +kernel
theorem dX5_drainTicks_61 : decode cX5_drainTicks 61 = .ok (.sipush 1000, 3) := by decide +kernel
theorem dX5_drainTicks_64 : decode cX5_drainTicks 64 = .ok (.istore 4, 2) := by decide +kernel
theorem dX5_drainTicks_66 : decode cX5_drainTicks 66 = .ok (.iconst 1, 1) := by decide +kernel
theorem dX5_drainTicks_67 : decode cX5_drainTicks 67 = .ok (.istore 5, 2) := by decide +kernel
theorem dX5_drainTicks_69 : decode cX5_drainTicks 69 = .ok (.iload 5, 2) := by decide +kernel
theorem dX5_drainTicks_71 : decode cX5_drainTicks 71 = .ok (.iload 4, 2) := by decide +kernel
theorem dX5_drainTicks_73 : decode cX5_drainTicks 73 = .ok (.if_icmp .gt 28, 3) := by decide +kernel
theorem dX5_drainTicks_76 : decode cX5_drainTicks 76 = .ok (.aload_n 0, 1) := by decide +kernel
theorem dX5_drainTicks_77 : decode cX5_drainTicks 77 = .ok (.getfield 16, 3) := by decide +kernel
theorem dX5_drainTicks_80 : decode cX5_drainTicks 80 = .ok (.aload_n 3, 1) := by decide +kernel
theorem dX5_drainTicks_81 : decode cX5_drainTicks 81 = .ok (.invokevirtual 256, 3) := by decide +kernel
theorem dX5_drainTicks_84 : decode cX5_drainTicks 84 = .ok (.pop, 1) := by decide +kernel
theorem dX5_drainTicks_85 : decode cX5_drainTicks 85 = .ok (.aload_n 3, 1) := by decide +kernel
theorem dX5_drainTicks_86 : decode cX5_drainTicks 86 = .ok (.invokevirtual 252, 3) := by decide +kernel
theorem dX5_drainTicks_89 : decode cX5_drainTicks 89 = .ok (.ifCond .eq 6, 3) := by decide +kernel
theorem dX5_drainTicks_92 : decode cX5_drainTicks 92 = .ok (.iload 5, 2) := by decide +kernel
theorem dX5_drainTicks_94 : decode cX5_drainTicks 94 = .ok (.ireturn, 1) := by decide +kernel
theorem dX5_drainTicks_95 : decode cX5_drainTicks 95 = .ok (.iinc 5 1, 3) := by decide +kernel
theorem dX5_drainTicks_98 : decode cX5_drainTicks 98 = .ok (.goto (-29), 3) := by decide +kernel
theorem dX5_drainTicks_101 : decode cX5_drainTicks 101 = .ok (.bipush (-5), 2) := by decide +kernel
theorem dX5_drainTicks_103 : decode cX5_drainTicks 103 = .ok (.ireturn, 1) := by decide +kernel
theorem dX5_equilibrium_0 : decode cX5_equilibrium 0 = .ok (.iload_n 1, 1) := by decide +kernel
theorem dX5_equilibrium_1 : decode cX5_equilibrium 1 = .ok (.ifCond .lt 17, 3) := by decide +kernel
theorem dX5_equilibrium_4 : decode cX5_equilibrium 4 = .ok (.iload_n 1, 1) := by decide +kernel
theorem dX5_equilibrium_5 : decode cX5_equilibrium 5 = .ok (.iconst 3, 1) := by decide +kernel
theorem dX5_equilibrium_6 : decode cX5_equilibrium 6 = .ok (.aload_n 0, 1) := by decide +kernel
theorem dX5_equilibrium_7 : decode cX5_equilibrium 7 = .ok (.getfield 10, 3) := by decide +kernel
theorem dX5_equilibrium_10 : decode cX5_equilibrium 10 = .ok (.getfield 140, 3) := by decide +kernel
theorem dX5_equilibrium_13 : decode cX5_equilibrium 13 = .ok (.imul, 1) := by decide +kernel
theorem dX5_equilibrium_14 : decode cX5_equilibrium 14 = .ok (.ishr, 1) := by decide +kernel
theorem dX5_equilibrium_15 : decode cX5_equilibrium 15 = .ok (.ifCond .eq 6, 3) := by decide +kernel
theorem dX5_equilibrium_18 : decode cX5_equilibrium 18 = .ok (.bipush (-2), 2) := by decide +kernel
theorem dX5_equilibrium_20 : decode cX5_equilibrium 20 = .ok (.ireturn, 1) := by decide +kernel
theorem dX5_equilibrium_21 : decode cX5_equilibrium 21 = .ok (.bipush 8, 2) := by decide +kernel
theorem dX5_equilibrium_23 : decode cX5_equilibrium 23 = .ok (.aload_n 0, 1) := by decide +kernel
theorem dX5_equilibrium_24 : decode cX5_equilibrium 24 = .ok (.getfield 10, 3) := by decide +kernel
theorem dX5_equilibrium_27 : decode cX5_equilibrium 27 = .ok (.invokevirtual 161, 3) := by decide +kernel
theorem dX5_equilibrium_30 : decode cX5_equilibrium 30 = .ok (.imul, 1) := by decide +kernel
theorem dX5_equilibrium_31 : decode cX5_equilibrium 31 = .ok (.istore_n 3, 1) := by decide +kernel
theorem dX5_equilibrium_32 : decode cX5_equilibrium 32 = .ok (.bipush 8, 2) := by decide +kernel
theorem dX5_equilibrium_34 : decode cX5_equilibrium 34 = .ok (.istore 4, 2) := by decide +kernel
theorem dX5_equilibrium_36 : decode cX5_equilibrium 36 = .ok (.iconst 0, 1) := by decide +kernel
theorem dX5_equilibrium_37 : decode cX5_equilibrium 37 = .ok (.istore 5, 2) := by decide +kernel
theorem dX5_equilibrium_39 : decode cX5_equilibrium 39 = .ok (.iload 5, 2) := by decide +kernel
theorem dX5_equilibrium_41 : decode cX5_equilibrium 41 = .ok (.iconst 3, 1) := by decide +kernel
theorem dX5_equilibrium_42 : decode cX5_equilibrium 42 = .ok (.aload_n 0, 1) := by decide +kernel
theorem dX5_equilibrium_43 : decode cX5_equilibrium 43 = .ok (.getfield 10, 3) := by decide +kernel
theorem dX5_equilibrium_46 : decode cX5_equilibrium 46 = .ok (.getfield 140, 3) := by decide +kernel
theorem dX5_equilibrium_49 : decode cX5_equilibrium 49 = .ok (.imul, 1) := by decide +kernel
theorem dX5_equilibrium_50 : decode cX5_equilibrium 50 = .ok (.if_icmp .ge 51, 3) := by decide +kernel
theorem dX5_equilibrium_53 : decode cX5_equilibrium 53 = .ok (.aload_n 0, 1) := by decide +kernel
theorem dX5_equilibrium_54 : decode cX5_equilibrium 54 = .ok (.getfield 10, 3) := by decide +kernel
theorem dX5_equilibrium_57 : decode cX5_equilibrium 57 = .ok (.iload 5, 2) := by decide +kernel
theorem dX5_equilibrium_59 : decode cX5_equilibrium 59 = .ok (.iconst 3, 1) := by decide +kernel
theorem dX5_equilibrium_60 : decode cX5_equilibrium 60 = .ok (.idiv, 1) := by decide +kernel
theorem dX5_equilibrium_61 : decode cX5_equilibrium 61 = .ok (.iload 5, 2) := by decide +kernel
theorem dX5_equilibrium_63 : decode cX5_equilibrium 63 = .ok (.iconst 3, 1) := by decide +kernel
theorem dX5_equilibrium_64 : decode cX5_equilibrium 64 = .ok (.irem, 1) := by decide +kernel
theorem dX5_equilibrium_65 : decode cX5_equilibrium 65 = .ok (.invokevirtual 74, 3) := by decide +kernel
theorem dX5_equilibrium_68 : decode cX5_equilibrium 68 = .ok (.astore 6, 2) := by decide +kernel
theorem dX5_equilibrium_70 : decode cX5_equilibrium 70 = .ok (.aload 6, 2) := by decide +kernel
theorem dX5_equilibrium_72 : decode cX5_equilibrium 72 = .ok (.ifnull 23, 3) := by decide +kernel
theorem dX5_equilibrium_75 : decode cX5_equilibrium 75 = .ok (.iload_n 1, 1) := by decide +kernel
theorem dX5_equilibrium_76 : decode cX5_equilibrium 76 = .ok (.iload 5, 2) := by decide +kernel
theorem dX5_equilibrium_78 : decode cX5_equilibrium 78 = .ok (.ishr, 1) := by decide +kernel
theorem dX5_equilibrium_79 : decode cX5_equilibrium 79 = .ok (.iconst 1, 1) := by decide +kernel
theorem dX5_equilibrium_80 : decode cX5_equilibrium 80 = .ok (.iand, 1) := by decide +kernel
theorem dX5_equilibrium_81 : decode cX5_equilibrium 81 = .ok (.iconst 1, 1) := by decide +kernel
theorem dX5_equilibrium_82 : decode cX5_equilibrium 82 = .ok (.if_icmp .ne 13, 3) := by decide +kernel
theorem dX5_equilibrium_85 : decode cX5_equilibrium 85 = .ok (.iload 4, 2) := by decide +kernel
theorem dX5_equilibrium_87 : decode cX5_equilibrium 87 = .ok (.aload 6, 2) := by decide +kernel
theorem dX5_equilibrium_89 : decode cX5_equilibrium 89 = .ok (.getfield 78, 3) := by decide +kernel
theorem dX5_equilibrium_92 : decode cX5_equilibrium 92 = .ok (.iadd, 1) := by decide +kernel
theorem dX5_equilibrium_93 : decode cX5_equilibrium 93 = .ok (.istore 4, 2) := by decide +kernel
theorem dX5_equilibrium_95 : decode cX5_equilibrium 95 = .ok (.iinc 5 1, 3) := by decide +kernel
theorem dX5_equilibrium_98 : decode cX5_equilibrium 98 = .ok (.goto (-59), 3) := by decide +kernel
theorem dX5_equilibrium_101 : decode cX5_equilibrium 101 = .ok (.iconst 1, 1) := by decide +kernel
theorem dX5_equilibrium_102 : decode cX5_equilibrium 102 = .ok (.iload_n 3, 1) := by decide +kernel
theorem dX5_equilibrium_103 : decode cX5_equilibrium 103 = .ok (.iload 4, 2) := by decide +kernel
theorem dX5_equilibrium_105 : decode cX5_equilibrium 105 = .ok (.invokestatic 259, 3) := by decide +kernel
theorem dX5_equilibrium_108 : decode cX5_equilibrium 108 = .ok (.invokestatic 143, 3) := by decide +kernel
theorem dX5_equilibrium_111 : decode cX5_equilibrium 111 = .ok (.istore 5, 2) := by decide +kernel
theorem dX5_equilibrium_113 : decode cX5_equilibrium 113 = .ok (.iload_n 2, 1) := by decide +kernel
theorem dX5_equilibrium_114 : decode cX5_equilibrium 114 = .ok (.ifCond .eq 11, 3) := by decide +kernel
theorem dX5_equilibrium_117 : decode cX5_equilibrium 117 = .ok (.iload 4, 2) := by decide +kernel
theorem dX5_equilibrium_119 : decode cX5_equilibrium 119 = .ok (.iload 5, 2) := by decide +kernel
theorem dX5_equilibrium_121 : decode cX5_equilibrium 121 = .ok (.idiv, 1) := by decide +kernel
theorem dX5_equilibrium_122 : decode cX5_equilibrium 122 = .ok (.goto 7, 3) := by decide +kernel
theorem dX5_equilibrium_125 : decode cX5_equilibrium 125 = .ok (.iload_n 3, 1) := by decide +kernel
theorem dX5_equilibrium_126 : decode cX5_equilibrium 126 = .ok (.iload 5, 2) := by decide +kernel
theorem dX5_equilibrium_128 : decode cX5_equilibrium 128 = .ok (.idiv, 1) := by decide +kernel
theorem dX5_equilibrium_129 : decode cX5_equilibrium 129 = .ok (.ireturn, 1) := by decide +kernel
theorem dX5_append_0 : decode cX5_append 0 = .ok (.iload_n 1, 1) := by decide +kernel
theorem dX5_append_1 : decode cX5_append 1 = .ok (.iconst 0, 1) := by decide +kernel
theorem dX5_append_2 : decode cX5_append 2 = .ok (.bipush 127, 2) := by decide +kernel
theorem dX5_append_4 : decode cX5_append 4 = .ok (.invokestatic 38, 3) := by decide +kernel
theorem dX5_append_7 : decode cX5_append 7 = .ok (.ifCond .eq 6, 3) := by decide +kernel
theorem dX5_append_10 : decode cX5_append 10 = .ok (.bipush (-2), 2) := by decide +kernel
theorem dX5_append_12 : decode cX5_append 12 = .ok (.ireturn, 1) := by decide +kernel
theorem dX5_append_13 : decode cX5_append 13 = .ok (.aload_n 0, 1) := by decide +kernel
theorem dX5_append_14 : decode cX5_append 14 = .ok (.getfield 30, 3) := by decide +kernel
theorem dX5_append_17 : decode cX5_append 17 = .ok (.getfield 262, 3) := by decide +kernel
theorem dX5_append_20 : decode cX5_append 20 = .ok (.bipush 120, 2) := by decide +kernel
theorem dX5_append_22 : decode cX5_append 22 = .ok (.if_icmp .lt 6, 3) := by decide +kernel
theorem dX5_append_25 : decode cX5_append 25 = .ok (.bipush (-3), 2) := by decide +kernel
theorem dX5_append_27 : decode cX5_append 27 = .ok (.ireturn, 1) := by decide +kernel
theorem dX5_append_28 : decode cX5_append 28 = .ok (.aload_n 0, 1) := by decide +kernel
theorem dX5_append_29 : decode cX5_append 29 = .ok (.getfield 30, 3) := by decide +kernel
theorem dX5_append_32 : decode cX5_append 32 = .ok (.getfield 263, 3) := by decide +kernel
theorem dX5_append_35 : decode cX5_append 35 = .ok (.aload_n 0, 1) := by decide +kernel
theorem dX5_append_36 : decode cX5_append 36 = .ok (.getfield 30, 3) := by decide +kernel
theorem dX5_append_39 : decode cX5_append 39 = .ok (.getfield 262, 3) := by decide +kernel
theorem dX5_append_42 : decode cX5_append 42 = .ok (.iload_n 1, 1) := by decide +kernel
theorem dX5_append_43 : decode cX5_append 43 = .ok (.iastore, 1) := by decide +kernel
theorem dX5_append_44 : decode cX5_append 44 = .ok (.aload_n 0, 1) := by decide +kernel
theorem dX5_append_45 : decode cX5_append 45 = .ok (.getfield 30, 3) := by decide +kernel
theorem dX5_append_48 : decode cX5_append 48 = .ok (.dup, 1) := by decide +kernel
theorem dX5_append_49 : decode cX5_append 49 = .ok (.getfield 262, 3) := by decide +kernel
theorem dX5_append_52 : decode cX5_append 52 = .ok (.iconst 1, 1) := by decide +kernel
theorem dX5_append_53 : decode cX5_append 53 = .ok (.iadd, 1) := by decide +kernel
theorem dX5_append_54 : decode cX5_append 54 = .ok (.putfield 262, 3) := by decide +kernel
theorem dX5_append_57 : decode cX5_append 57 = .ok (.aload_n 0, 1) := by decide +kernel
theorem dX5_append_58 : decode cX5_append 58 = .ok (.getfield 30, 3) := by decide +kernel
theorem dX5_append_61 : decode cX5_append 61 = .ok (.getfield 262, 3) := by decide +kernel
theorem dX5_append_64 : decode cX5_append 64 = .ok (.ireturn, 1) := by decide +kernel
theorem dX5_clearText_0 : decode cX5_clearText 0 = .ok (.aload_n 0, 1) := by decide +kernel
theorem dX5_clearText_1 : decode cX5_clearText 1 = .ok (.getfield 30, 3) := by decide +kernel
theorem dX5_clearText_4 : decode cX5_clearText 4 = .ok (.getfield 262, 3) := by decide +kernel
theorem dX5_clearText_7 : decode cX5_clearText 7 = .ok (.istore_n 1, 1) := by decide +kernel
theorem dX5_clearText_8 : decode cX5_clearText 8 = .ok (.aload_n 0, 1) := by decide +kernel
theorem dX5_clearText_9 : decode cX5_clearText 9 = .ok (.getfield 30, 3) := by decide +kernel
theorem dX5_clearText_12 : decode cX5_clearText 12 = .ok (.iconst 0, 1) := by decide +kernel
theorem dX5_clearText_13 : decode cX5_clearText 13 = .ok (.putfield 262, 3) := by decide +kernel
theorem dX5_clearText_16 : decode cX5_clearText 16 = .ok (.iload_n 1, 1) := by decide +kernel
theorem dX5_clearText_17 : decode cX5_clearText 17 = .ok (.ireturn, 1) := by decide +kernel
theorem dX5_faultPosition_0 : decode cX5_faultPosition 0 = .ok (.aload_n 0, 1) := by decide +kernel
theorem dX5_faultPosition_1 : decode cX5_faultPosition 1 = .ok (.getfield 30, 3) := by decide +kernel
theorem dX5_faultPosition_4 : decode cX5_faultPosition 4 = .ok (.aload_n 0, 1) := by decide +kernel
theorem dX5_faultPosition_5 : decode cX5_faultPosition 5 = .ok (.getfield 10, 3) := by decide +kernel
theorem dX5_faultPosition_8 : decode cX5_faultPosition 8 = .ok (.getfield 140, 3) := by decide +kernel
theorem dX5_faultPosition_11 : decode cX5_faultPosition 11 = .ok (.invokevirtual 266, 3) := by decide +kernel
theorem dX5_faultPosition_14 : decode cX5_faultPosition 14 = .ok (.istore_n 1, 1) := by decide +kernel
theorem dX5_faultPosition_15 : decode cX5_faultPosition 15 = .ok (.iload_n 1, 1) := by decide +kernel
theorem dX5_faultPosition_16 : decode cX5_faultPosition 16 = .ok (.iconst (-1), 1) := by decide +kernel
theorem dX5_faultPosition_17 : decode cX5_faultPosition 17 = .ok (.if_icmp .ne 8, 3) := by decide +kernel
theorem dX5_faultPosition_20 : decode cX5_faultPosition 20 = .ok (.bipush (-5), 2) := by decide +kernel
theorem dX5_faultPosition_22 : decode cX5_faultPosition 22 = .ok (.goto 4, 3) := by decide +kernel
theorem dX5_faultPosition_25 : decode cX5_faultPosition 25 = .ok (.iload_n 1, 1) := by decide +kernel
theorem dX5_faultPosition_26 : decode cX5_faultPosition 26 = .ok (.ireturn, 1) := by decide +kernel
theorem dX5_run_0 : decode cX5_run 0 = .ok (.aload_n 0, 1) := by decide +kernel
theorem dX5_run_1 : decode cX5_run 1 = .ok (.getfield 30, 3) := by decide +kernel
theorem dX5_run_4 : decode cX5_run 4 = .ok (.aload_n 0, 1) := by decide +kernel
theorem dX5_run_5 : decode cX5_run 5 = .ok (.getfield 10, 3) := by decide +kernel
theorem dX5_run_8 : decode cX5_run 8 = .ok (.getfield 140, 3) := by decide +kernel
theorem dX5_run_11 : decode cX5_run 11 = .ok (.invokevirtual 266, 3) := by decide +kernel
theorem dX5_run_14 : decode cX5_run 14 = .ok (.istore_n 1, 1) := by decide +kernel
theorem dX5_run_15 : decode cX5_run 15 = .ok (.iload_n 1, 1) := by decide +kernel
theorem dX5_run_16 : decode cX5_run 16 = .ok (.iconst (-1), 1) := by decide +kernel
theorem dX5_run_17 : decode cX5_run 17 = .ok (.if_icmp .eq 9, 3) := by decide +kernel
theorem dX5_run_20 : decode cX5_run 20 = .ok (.sipush (-1000), 3) := by decide +kernel
theorem dX5_run_23 : decode cX5_run 23 = .ok (.iload_n 1, 1) := by decide +kernel
theorem dX5_run_24 : decode cX5_run 24 = .ok (.isub, 1) := by decide +kernel
theorem dX5_run_25 : decode cX5_run 25 = .ok (.ireturn, 1) := by decide +kernel
theorem dX5_run_26 : decode cX5_run 26 = .ok (.iconst 0, 1) := by decide +kernel
theorem dX5_run_27 : decode cX5_run 27 = .ok (.istore_n 2, 1) := by decide +kernel
theorem dX5_run_28 : decode cX5_run 28 = .ok (.aload_n 0, 1) := by decide +kernel
theorem dX5_run_29 : decode cX5_run 29 = .ok (.getfield 30, 3) := by decide +kernel
theorem dX5_run_32 : decode cX5_run 32 = .ok (.invokevirtual 269, 3) := by decide +kernel
theorem dX5_run_35 : decode cX5_run 35 = .ok (.iconst 0, 1) := by decide +kernel
theorem dX5_run_36 : decode cX5_run 36 = .ok (.istore_n 3, 1) := by decide +kernel
theorem dX5_run_37 : decode cX5_run 37 = .ok (.iload_n 3, 1) := by decide +kernel
theorem dX5_run_38 : decode cX5_run 38 = .ok (.bipush 120, 2) := by decide +kernel
theorem dX5_run_40 : decode cX5_run 40 = .ok (.if_icmp .ge 223, 3) := by decide +kernel
theorem dX5_run_43 : decode cX5_run 43 = .ok (.aload_n 0, 1) := by decide +kernel
theorem dX5_run_44 : decode cX5_run 44 = .ok (.getfield 30, 3) := by decide +kernel
theorem dX5_run_47 : decode cX5_run 47 = .ok (.invokevirtual 272, 3) := by decide +kernel
theorem dX5_run_50 : decode cX5_run 50 = .ok (.ifCond .eq 213, 3) := by decide +kernel
theorem dX5_run_53 : decode cX5_run 53 = .ok (.aload_n 0, 1) := by decide +kernel
theorem dX5_run_54 : decode cX5_run 54 = .ok (.getfield 30, 3) := by decide +kernel
theorem dX5_run_57 : decode cX5_run 57 = .ok (.aload_n 0, 1) := by decide +kernel
theorem dX5_run_58 : decode cX5_run 58 = .ok (.getfield 10, 3) := by decide +kernel
theorem dX5_run_61 : decode cX5_run 61 = .ok (.getfield 140, 3) := by decide +kernel
theorem dX5_run_64 : decode cX5_run 64 = .ok (.invokevirtual 275, 3) := by decide +kernel
theorem dX5_run_67 : decode cX5_run 67 = .ok (.aload_n 0, 1) := by decide +kernel
theorem dX5_run_68 : decode cX5_run 68 = .ok (.getfield 10, 3) := by decide +kernel
theorem dX5_run_71 : decode cX5_run 71 = .ok (.aload_n 0, 1) := by decide +kernel
theorem dX5_run_72 : decode cX5_run 72 = .ok (.getfield 30, 3) := by decide +kernel
theorem dX5_run_75 : decode cX5_run 75 = .ok (.getfield 279, 3) := by decide +kernel
theorem dX5_run_78 : decode cX5_run 78 = .ok (.invokevirtual 52, 3) := by decide +kernel
theorem dX5_run_81 : decode cX5_run 81 = .ok (.astore 4, 2) := by decide +kernel
theorem dX5_run_83 : decode cX5_run 83 = .ok (.aload_n 0, 1) := by decide +kernel
theorem dX5_run_84 : decode cX5_run 84 = .ok (.getfield 30, 3) := by decide +kernel
theorem dX5_run_87 : decode cX5_run 87 = .ok (.getfield 282, 3) := by decide +kernel
theorem dX5_run_90 : decode cX5_run 90 = .ok (.bipush 97, 2) := by decide +kernel
theorem dX5_run_92 : decode cX5_run 92 = .ok (.if_icmp .ne 50, 3) := by decide +kernel
theorem dX5_run_95 : decode cX5_run 95 = .ok (.iload_n 2, 1) := by decide +kernel
theorem dX5_run_96 : decode cX5_run 96 = .ok (.aload_n 0, 1) := by decide +kernel
theorem dX5_run_97 : decode cX5_run 97 = .ok (.aload 4, 2) := by decide +kernel
theorem dX5_run_99 : decode cX5_run 99 = .ok (.aload_n 0, 1) := by decide +kernel
theorem dX5_run_100 : decode cX5_run 100 = .ok (.getfield 10, 3) := by decide +kernel
theorem dX5_run_103 : decode cX5_run 103 = .ok (.aload_n 0, 1) := by decide +kernel
theorem dX5_run_104 : decode cX5_run 104 = .ok (.getfield 30, 3) := by decide +kernel
theorem dX5_run_107 : decode cX5_run 107 = .ok (.getfield 279, 3) := by decide +kernel
theorem dX5_run_110 : decode cX5_run 110 = .ok (.aload_n 0, 1) := by decide +kernel
theorem dX5_run_111 : decode cX5_run 111 = .ok (.getfield 30, 3) := by decide +kernel
theorem dX5_run_114 : decode cX5_run 114 = .ok (.getfield 285, 3) := by decide +kernel
theorem dX5_run_117 : decode cX5_run 117 = .ok (.invokevirtual 74, 3) := by decide +kernel
theorem dX5_run_120 : decode cX5_run 120 = .ok (.aload_n 0, 1) := by decide +kernel
theorem dX5_run_121 : decode cX5_run 121 = .ok (.getfield 30, 3) := by decide +kernel
theorem dX5_run_124 : decode cX5_run 124 = .ok (.getfield 288, 3) := by decide +kernel
theorem dX5_run_127 : decode cX5_run 127 = .ok (.aload_n 0, 1) := by decide +kernel
theorem dX5_run_128 : decode cX5_run 128 = .ok (.getfield 30, 3) := by decide +kernel
theorem dX5_run_131 : decode cX5_run 131 = .ok (.getfield 291, 3) := by decide +kernel
theorem dX5_run_134 : decode cX5_run 134 = .ok (.invokevirtual 157, 3) := by decide +kernel
theorem dX5_run_137 : decode cX5_run 137 = .ok (.iadd, 1) := by decide +kernel
theorem dX5_run_138 : decode cX5_run 138 = .ok (.istore_n 2, 1) := by decide +kernel
theorem dX5_run_139 : decode cX5_run 139 = .ok (.goto 118, 3) := by decide +kernel
theorem dX5_run_142 : decode cX5_run 142 = .ok (.aload_n 0, 1) := by decide +kernel
theorem dX5_run_143 : decode cX5_run 143 = .ok (.getfield 30, 3) := by decide +kernel
theorem dX5_run_146 : decode cX5_run 146 = .ok (.getfield 282, 3) := by decide +kernel
theorem dX5_run_149 : decode cX5_run 149 = .ok (.bipush 116, 2) := by decide +kernel
theorem dX5_run_151 : decode cX5_run 151 = .ok (.if_icmp .ne 35, 3) := by decide +kernel
theorem dX5_run_154 : decode cX5_run 154 = .ok (.iconst 0, 1) := by decide +kernel
theorem dX5_run_155 : decode cX5_run 155 = .ok (.istore 5, 2) := by decide +kernel
theorem dX5_run_157 : decode cX5_run 157 = .ok (.iload 5, 2) := by decide +kernel
theorem dX5_run_159 : decode cX5_run 159 = .ok (.aload_n 0, 1) := by decide +kernel
theorem dX5_run_160 : decode cX5_run 160 = .ok (.getfield 30, 3) := by decide +kernel
theorem dX5_run_163 : decode cX5_run 163 = .ok (.getfield 288, 3) := by decide +kernel
theorem dX5_run_166 : decode cX5_run 166 = .ok (.if_icmp .ge 17, 3) := by decide +kernel
theorem dX5_run_169 : decode cX5_run 169 = .ok (.aload_n 0, 1) := by decide +kernel
theorem dX5_run_170 : decode cX5_run 170 = .ok (.getfield 10, 3) := by decide +kernel
theorem dX5_run_173 : decode cX5_run 173 = .ok (.invokevirtual 133, 3) := by decide +kernel
theorem dX5_run_176 : decode cX5_run 176 = .ok (.pop, 1) := by decide +kernel
theorem dX5_run_177 : decode cX5_run 177 = .ok (.iinc 5 1, 3) := by decide +kernel
theorem dX5_run_180 : decode cX5_run 180 = .ok (.goto (-23), 3) := by decide +kernel
theorem dX5_run_183 : decode cX5_run 183 = .ok (.goto 74, 3) := by decide +kernel
theorem dX5_run_186 : decode cX5_run 186 = .ok (.aload_n 0, 1) := by decide +kernel
theorem dX5_run_187 : decode cX5_run 187 = .ok (.getfield 30, 3) := by decide +kernel
theorem dX5_run_190 : decode cX5_run 190 = .ok (.getfield 282, 3) := by decide +kernel
theorem dX5_run_193 : decode cX5_run 193 = .ok (.bipush 102, 2) := by decide +kernel
theorem dX5_run_195 : decode cX5_run 195 = .ok (.if_icmp .ne 21, 3) := by decide +kernel
theorem dX5_run_198 : decode cX5_run 198 = .ok (.aload 4, 2) := by decide +kernel
theorem dX5_run_200 : decode cX5_run 200 = .ok (.ifnull 16, 3) := by decide +kernel
theorem dX5_run_203 : decode cX5_run 203 = .ok (.aload_n 0, 1) := by decide +kernel
theorem dX5_run_204 : decode cX5_run 204 = .ok (.getfield 10, 3) := by decide +kernel
theorem dX5_run_207 : decode cX5_run 207 = .ok (.aload 4, 2) := by decide +kernel
theorem dX5_run_209 : decode cX5_run 209 = .ok (.invokevirtual 136, 3) := by decide +kernel
theorem dX5_run_212 : decode cX5_run 212 = .ok (.pop, 1) := by decide +kernel
theorem dX5_run_213 : decode cX5_run 213 = .ok (.goto 44, 3) := by decide +kernel
theorem dX5_run_216 : decode cX5_run 216 = .ok (.aload_n 0, 1) := by decide +kernel
theorem dX5_run_217 : decode cX5_run 217 = .ok (.getfield 30, 3) := by decide +kernel
theorem dX5_run_220 : decode cX5_run 220 = .ok (.getfield 282, 3) := by decide +kernel
theorem dX5_run_223 : decode cX5_run 223 = .ok (.bipush 103, 2) := by decide +kernel
theorem dX5_run_225 : decode cX5_run 225 = .ok (.if_icmp .ne 32, 3) := by decide +kernel
theorem dX5_run_228 : decode cX5_run 228 = .ok (.aload 4, 2) := by decide +kernel
theorem dX5_run_230 : decode cX5_run 230 = .ok (.ifnull 27, 3) := by decide +kernel
theorem dX5_run_233 : decode cX5_run 233 = .ok (.aload_n 0, 1) := by decide +kernel
theorem dX5_run_234 : decode cX5_run 234 = .ok (.getfield 10, 3) := by decide +kernel
theorem dX5_run_237 : decode cX5_run 237 = .ok (.aload 4, 2) := by decide +kernel
theorem dX5_run_239 : decode cX5_run 239 = .ok (.aload_n 0, 1) := by decide +kernel
theorem dX5_run_240 : decode cX5_run 240 = .ok (.getfield 30, 3) := by decide +kernel
theorem dX5_run_243 : decode cX5_run 243 = .ok (.getfield 279, 3) := by decide +kernel
theorem dX5_run_246 : decode cX5_run 246 = .ok (.aload_n 0, 1) := by decide +kernel
theorem dX5_run_247 : decode cX5_run 247 = .ok (.getfield 30, 3) := by decide +kernel
theorem dX5_run_250 : decode cX5_run 250 = .ok (.getfield 288, 3) := by decide +kernel
theorem dX5_run_253 : decode cX5_run 253 = .ok (.invokevirtual 118, 3) := by decide +kernel
theorem dX5_run_256 : decode cX5_run 256 = .ok (.pop, 1) := by decide +kernel
theorem dX5_run_257 : decode cX5_run 257 = .ok (.iinc 3 1, 3) := by decide +kernel
theorem dX5_run_260 : decode cX5_run 260 = .ok (.goto (-223), 3) := by decide +kernel
theorem dX5_run_263 : decode cX5_run 263 = .ok (.iload_n 2, 1) := by decide +kernel
theorem dX5_run_264 : decode cX5_run 264 = .ok (.ireturn, 1) := by decide +kernel
theorem dX5_save_0 : decode cX5_save 0 = .ok (.iload_n 1, 1) := by decide +kernel
theorem dX5_save_1 : decode cX5_save 1 = .ok (.iconst 0, 1) := by decide +kernel
theorem dX5_save_2 : decode cX5_save 2 = .ok (.iconst 1, 1) := by decide +kernel
theorem dX5_save_3 : decode cX5_save 3 = .ok (.invokestatic 38, 3) := by decide +kernel
theorem dX5_save_6 : decode cX5_save 6 = .ok (.ifCond .eq 5, 3) := by decide +kernel
theorem dX5_save_9 : decode cX5_save 9 = .ok (.iconst (-1), 1) := by decide +kernel
theorem dX5_save_10 : decode cX5_save 10 = .ok (.ireturn, 1) := by decide +kernel
theorem dX5_save_11 : decode cX5_save 11 = .ok (.aload_n 0, 1) := by decide +kernel
theorem dX5_save_12 : decode cX5_save 12 = .ok (.getfield 19, 3) := by decide +kernel
theorem dX5_save_15 : decode cX5_save 15 = .ok (.iload_n 1, 1) := by decide +kernel
theorem dX5_save_16 : decode cX5_save 16 = .ok (.aaload, 1) := by decide +kernel
theorem dX5_save_17 : decode cX5_save 17 = .ok (.aload_n 0, 1) := by decide +kernel
theorem dX5_save_18 : decode cX5_save 18 = .ok (.getfield 10, 3) := by decide +kernel
theorem dX5_save_21 : decode cX5_save 21 = .ok (.invokevirtual 248, 3) := by decide +kernel
theorem dX5_save_24 : decode cX5_save 24 = .ok (.aload_n 0, 1) := by decide +kernel
theorem dX5_save_25 : decode cX5_save 25 = .ok (.getfield 23, 3) := by decide +kernel
theorem dX5_save_28 : decode cX5_save 28 = .ok (.iload_n 1, 1) := by decide +kernel
theorem dX5_save_29 : decode cX5_save 29 = .ok (.iconst 1, 1) := by decide +kernel
theorem dX5_save_30 : decode cX5_save 30 = .ok (.bastore, 1) := by decide +kernel
theorem dX5_save_31 : decode cX5_save 31 = .ok (.aload_n 0, 1) := by decide +kernel
theorem dX5_save_32 : decode cX5_save 32 = .ok (.getfield 10, 3) := by decide +kernel
theorem dX5_save_35 : decode cX5_save 35 = .ok (.getfield 205, 3) := by decide +kernel
theorem dX5_save_38 : decode cX5_save 38 = .ok (.ireturn, 1) := by decide +kernel
theorem dX5_restore_0 : decode cX5_restore 0 = .ok (.iload_n 1, 1) := by decide +kernel
theorem dX5_restore_1 : decode cX5_restore 1 = .ok (.iconst 0, 1) := by decide +kernel
theorem dX5_restore_2 : decode cX5_restore 2 = .ok (.iconst 1, 1) := by decide +kernel
theorem dX5_restore_3 : decode cX5_restore 3 = .ok (.invokestatic 38, 3) := by decide +kernel
theorem dX5_restore_6 : decode cX5_restore 6 = .ok (.ifCond .eq 5, 3) := by decide +kernel
theorem dX5_restore_9 : decode cX5_restore 9 = .ok (.iconst (-1), 1) := by decide +kernel
theorem dX5_restore_10 : decode cX5_restore 10 = .ok (.ireturn, 1) := by decide +kernel
theorem dX5_restore_11 : decode cX5_restore 11 = .ok (.aload_n 0, 1) := by decide +kernel
theorem dX5_restore_12 : decode cX5_restore 12 = .ok (.getfield 23, 3) := by decide +kernel
theorem dX5_restore_15 : decode cX5_restore 15 = .ok (.iload_n 1, 1) := by decide +kernel
theorem dX5_restore_16 : decode cX5_restore 16 = .ok (.baload, 1) := by decide +kernel
theorem dX5_restore_17 : decode cX5_restore 17 = .ok (.ifCond .ne 6, 3) := by decide +kernel
theorem dX5_restore_20 : decode cX5_restore 20 = .ok (.bipush (-5), 2) := by decide +kernel
theorem dX5_restore_22 : decode cX5_restore 22 = .ok (.ireturn, 1) := by decide +kernel
theorem dX5_restore_23 : decode cX5_restore 23 = .ok (.aload_n 0, 1) := by decide +kernel
theorem dX5_restore_24 : decode cX5_restore 24 = .ok (.getfield 10, 3) := by decide +kernel
theorem dX5_restore_27 : decode cX5_restore 27 = .ok (.aload_n 0, 1) := by decide +kernel
theorem dX5_restore_28 : decode cX5_restore 28 = .ok (.getfield 19, 3) := by decide +kernel
theorem dX5_restore_31 : decode cX5_restore 31 = .ok (.iload_n 1, 1) := by decide +kernel
theorem dX5_restore_32 : decode cX5_restore 32 = .ok (.aaload, 1) := by decide +kernel
theorem dX5_restore_33 : decode cX5_restore 33 = .ok (.invokevirtual 248, 3) := by decide +kernel
theorem dX5_restore_36 : decode cX5_restore 36 = .ok (.aload_n 0, 1) := by decide +kernel
theorem dX5_restore_37 : decode cX5_restore 37 = .ok (.getfield 10, 3) := by decide +kernel
theorem dX5_restore_40 : decode cX5_restore 40 = .ok (.getfield 205, 3) := by decide +kernel
theorem dX5_restore_43 : decode cX5_restore 43 = .ok (.ireturn, 1) := by decide +kernel
theorem dX5_checksum_0 : decode cX5_checksum 0 = .ok (.ldc2_w 294, 3) := by decide +kernel
theorem dX5_checksum_3 : decode cX5_checksum 3 = .ok (.lstore_n 1, 1) := by decide +kernel
theorem dX5_checksum_4 : decode cX5_checksum 4 = .ok (.ldc2_w 296, 3) := by decide +kernel
theorem dX5_checksum_7 : decode cX5_checksum 7 = .ok (.lload_n 1, 1) := by decide +kernel
theorem dX5_checksum_8 : decode cX5_checksum 8 = .ok (.lmul, 1) := by decide +kernel
theorem dX5_checksum_9 : decode cX5_checksum 9 = .ok (.aload_n 0, 1) := by decide +kernel
theorem dX5_checksum_10 : decode cX5_checksum 10 = .ok (.getfield 10, 3) := by decide +kernel
theorem dX5_checksum_13 : decode cX5_checksum 13 = .ok (.getfield 205, 3) := by decide +kernel
theorem dX5_checksum_16 : decode cX5_checksum 16 = .ok (.i2l, 1) := by decide +kernel
theorem dX5_checksum_17 : decode cX5_checksum 17 = .ok (.ladd, 1) := by decide +kernel
theorem dX5_checksum_18 : decode cX5_checksum 18 = .ok (.lstore_n 1, 1) := by decide +kernel
theorem dX5_checksum_19 : decode cX5_checksum 19 = .ok (.ldc2_w 296, 3) := by decide +kernel
theorem dX5_checksum_22 : decode cX5_checksum 22 = .ok (.lload_n 1, 1) := by decide +kernel
theorem dX5_checksum_23 : decode cX5_checksum 23 = .ok (.lmul, 1) := by decide +kernel
theorem dX5_checksum_24 : decode cX5_checksum 24 = .ok (.aload_n 0, 1) := by decide +kernel
theorem dX5_checksum_25 : decode cX5_checksum 25 = .ok (.getfield 10, 3) := by decide +kernel
theorem dX5_checksum_28 : decode cX5_checksum 28 = .ok (.getfield 202, 3) := by decide +kernel
theorem dX5_checksum_31 : decode cX5_checksum 31 = .ok (.i2l, 1) := by decide +kernel
theorem dX5_checksum_32 : decode cX5_checksum 32 = .ok (.ladd, 1) := by decide +kernel
theorem dX5_checksum_33 : decode cX5_checksum 33 = .ok (.lstore_n 1, 1) := by decide +kernel
theorem dX5_checksum_34 : decode cX5_checksum 34 = .ok (.ldc2_w 296, 3) := by decide +kernel
theorem dX5_checksum_37 : decode cX5_checksum 37 = .ok (.lload_n 1, 1) := by decide +kernel
theorem dX5_checksum_38 : decode cX5_checksum 38 = .ok (.lmul, 1) := by decide +kernel
theorem dX5_checksum_39 : decode cX5_checksum 39 = .ok (.aload_n 0, 1) := by decide +kernel
theorem dX5_checksum_40 : decode cX5_checksum 40 = .ok (.getfield 10, 3) := by decide +kernel
theorem dX5_checksum_43 : decode cX5_checksum 43 = .ok (.invokevirtual 61, 3) := by decide +kernel
theorem dX5_checksum_46 : decode cX5_checksum 46 = .ok (.i2l, 1) := by decide +kernel
theorem dX5_checksum_47 : decode cX5_checksum 47 = .ok (.ladd, 1) := by decide +kernel
theorem dX5_checksum_48 : decode cX5_checksum 48 = .ok (.lstore_n 1, 1) := by decide +kernel
theorem dX5_checksum_49 : decode cX5_checksum 49 = .ok (.ldc2_w 296, 3) := by decide +kernel
theorem dX5_checksum_52 : decode cX5_checksum 52 = .ok (.lload_n 1, 1) := by decide +kernel
theorem dX5_checksum_53 : decode cX5_checksum 53 = .ok (.lmul, 1) := by decide +kernel
theorem dX5_checksum_54 : decode cX5_checksum 54 = .ok (.aload_n 0, 1) := by decide +kernel
theorem dX5_checksum_55 : decode cX5_checksum 55 = .ok (.getfield 10, 3) := by decide +kernel
theorem dX5_checksum_58 : decode cX5_checksum 58 = .ok (.invokevirtual 161, 3) := by decide +kernel
theorem dX5_checksum_61 : decode cX5_checksum 61 = .ok (.i2l, 1) := by decide +kernel
theorem dX5_checksum_62 : decode cX5_checksum 62 = .ok (.ladd, 1) := by decide +kernel
theorem dX5_checksum_63 : decode cX5_checksum 63 = .ok (.lstore_n 1, 1) := by decide +kernel
theorem dX5_checksum_64 : decode cX5_checksum 64 = .ok (.iconst 0, 1) := by decide +kernel
theorem dX5_checksum_65 : decode cX5_checksum 65 = .ok (.istore_n 3, 1) := by decide +kernel
theorem dX5_checksum_66 : decode cX5_checksum 66 = .ok (.iload_n 3, 1) := by decide +kernel
theorem dX5_checksum_67 : decode cX5_checksum 67 = .ok (.aload_n 0, 1) := by decide +kernel
theorem dX5_checksum_68 : decode cX5_checksum 68 = .ok (.getfield 10, 3) := by decide +kernel
theorem dX5_checksum_71 : decode cX5_checksum 71 = .ok (.getfield 140, 3) := by decide +kernel
theorem dX5_checksum_74 : decode cX5_checksum 74 = .ok (.if_icmp .ge 24, 3) := by decide +kernel
theorem dX5_checksum_77 : decode cX5_checksum 77 = .ok (.aload_n 0, 1) := by decide +kernel
theorem dX5_checksum_78 : decode cX5_checksum 78 = .ok (.lload_n 1, 1) := by decide +kernel
theorem dX5_checksum_79 : decode cX5_checksum 79 = .ok (.aload_n 0, 1) := by decide +kernel
theorem dX5_checksum_80 : decode cX5_checksum 80 = .ok (.getfield 10, 3) := by decide +kernel
theorem dX5_checksum_83 : decode cX5_checksum 83 = .ok (.getfield 298, 3) := by decide +kernel
theorem dX5_checksum_86 : decode cX5_checksum 86 = .ok (.iload_n 3, 1) := by decide +kernel
theorem dX5_checksum_87 : decode cX5_checksum 87 = .ok (.aaload, 1) := by decide +kernel
theorem dX5_checksum_88 : decode cX5_checksum 88 = .ok (.invokevirtual 302, 3) := by decide +kernel
theorem dX5_checksum_91 : decode cX5_checksum 91 = .ok (.lstore_n 1, 1) := by decide +kernel
theorem dX5_checksum_92 : decode cX5_checksum 92 = .ok (.iinc 3 1, 3) := by decide +kernel
theorem dX5_checksum_95 : decode cX5_checksum 95 = .ok (.goto (-29), 3) := by decide +kernel
theorem dX5_checksum_98 : decode cX5_checksum 98 = .ok (.aload_n 0, 1) := by decide +kernel
theorem dX5_checksum_99 : decode cX5_checksum 99 = .ok (.getfield 10, 3) := by decide +kernel
theorem dX5_checksum_102 : decode cX5_checksum 102 = .ok (.getfield 42, 3) := by decide +kernel
theorem dX5_checksum_105 : decode cX5_checksum 105 = .ok (.astore_n 3, 1) := by decide +kernel
theorem dX5_checksum_106 : decode cX5_checksum 106 = .ok (.iconst 0, 1) := by decide +kernel
theorem dX5_checksum_107 : decode cX5_checksum 107 = .ok (.istore 4, 2) := by decide +kernel
theorem dX5_checksum_109 : decode cX5_checksum 109 = .ok (.iload 4, 2) := by decide +kernel
theorem dX5_checksum_111 : decode cX5_checksum 111 = .ok (.aload_n 3, 1) := by decide +kernel
theorem dX5_checksum_112 : decode cX5_checksum 112 = .ok (.getfield 46, 3) := by decide +kernel
theorem dX5_checksum_115 : decode cX5_checksum 115 = .ok (.if_icmp .ge 42, 3) := by decide +kernel
theorem dX5_checksum_118 : decode cX5_checksum 118 = .ok (.aload_n 3, 1) := by decide +kernel
theorem dX5_checksum_119 : decode cX5_checksum 119 = .ok (.iload 4, 2) := by decide +kernel
theorem dX5_checksum_121 : decode cX5_checksum 121 = .ok (.invokevirtual 306, 3) := by decide +kernel
theorem dX5_checksum_124 : decode cX5_checksum 124 = .ok (.ifCond .eq 27, 3) := by decide +kernel
theorem dX5_checksum_127 : decode cX5_checksum 127 = .ok (.ldc2_w 296, 3) := by decide +kernel
theorem dX5_checksum_130 : decode cX5_checksum 130 = .ok (.lload_n 1, 1) := by decide +kernel
theorem dX5_checksum_131 : decode cX5_checksum 131 = .ok (.lmul, 1) := by decide +kernel
theorem dX5_checksum_132 : decode cX5_checksum 132 = .ok (.iload 4, 2) := by decide +kernel
theorem dX5_checksum_134 : decode cX5_checksum 134 = .ok (.i2l, 1) := by decide +kernel
theorem dX5_checksum_135 : decode cX5_checksum 135 = .ok (.ladd, 1) := by decide +kernel
theorem dX5_checksum_136 : decode cX5_checksum 136 = .ok (.lstore_n 1, 1) := by decide +kernel
theorem dX5_checksum_137 : decode cX5_checksum 137 = .ok (.ldc2_w 296, 3) := by decide +kernel
theorem dX5_checksum_140 : decode cX5_checksum 140 = .ok (.lload_n 1, 1) := by decide +kernel
theorem dX5_checksum_141 : decode cX5_checksum 141 = .ok (.lmul, 1) := by decide +kernel
theorem dX5_checksum_142 : decode cX5_checksum 142 = .ok (.aload_n 3, 1) := by decide +kernel
theorem dX5_checksum_143 : decode cX5_checksum 143 = .ok (.iload 4, 2) := by decide +kernel
theorem dX5_checksum_145 : decode cX5_checksum 145 = .ok (.invokevirtual 238, 3) := by decide +kernel
theorem dX5_checksum_148 : decode cX5_checksum 148 = .ok (.i2l, 1) := by decide +kernel
theorem dX5_checksum_149 : decode cX5_checksum 149 = .ok (.ladd, 1) := by decide +kernel
theorem dX5_checksum_150 : decode cX5_checksum 150 = .ok (.lstore_n 1, 1) := by decide +kernel
theorem dX5_checksum_151 : decode cX5_checksum 151 = .ok (.iinc 4 1, 3) := by decide +kernel
theorem dX5_checksum_154 : decode cX5_checksum 154 = .ok (.goto (-45), 3) := by decide +kernel
theorem dX5_checksum_157 : decode cX5_checksum 157 = .ok (.lload_n 1, 1) := by decide +kernel
theorem dX5_checksum_158 : decode cX5_checksum 158 = .ok (.lreturn, 1) := by decide +kernel
theorem dX5_mixPort_0 : decode cX5_mixPort 0 = .ok (.lload_n 1, 1) := by decide +kernel
theorem dX5_mixPort_1 : decode cX5_mixPort 1 = .ok (.lstore 4, 2) := by decide +kernel
theorem dX5_mixPort_3 : decode cX5_mixPort 3 = .ok (.ldc2_w 296, 3) := by decide +kernel
theorem dX5_mixPort_6 : decode cX5_mixPort 6 = .ok (.lload 4, 2) := by decide +kernel
theorem dX5_mixPort_8 : decode cX5_mixPort 8 = .ok (.lmul, 1) := by decide +kernel
theorem dX5_mixPort_9 : decode cX5_mixPort 9 = .ok (.aload_n 3, 1) := by decide +kernel
theorem dX5_mixPort_10 : decode cX5_mixPort 10 = .ok (.invokevirtual 164, 3) := by decide +kernel
theorem dX5_mixPort_13 : decode cX5_mixPort 13 = .ok (.i2l, 1) := by decide +kernel
theorem dX5_mixPort_14 : decode cX5_mixPort 14 = .ok (.ladd, 1) := by decide +kernel
theorem dX5_mixPort_15 : decode cX5_mixPort 15 = .ok (.lstore 4, 2) := by decide +kernel
theorem dX5_mixPort_17 : decode cX5_mixPort 17 = .ok (.ldc2_w 296, 3) := by decide +kernel
theorem dX5_mixPort_20 : decode cX5_mixPort 20 = .ok (.lload 4, 2) := by decide +kernel
theorem dX5_mixPort_22 : decode cX5_mixPort 22 = .ok (.lmul, 1) := by decide +kernel
theorem dX5_mixPort_23 : decode cX5_mixPort 23 = .ok (.aload_n 3, 1) := by decide +kernel
theorem dX5_mixPort_24 : decode cX5_mixPort 24 = .ok (.getfield 122, 3) := by decide +kernel
theorem dX5_mixPort_27 : decode cX5_mixPort 27 = .ok (.i2l, 1) := by decide +kernel
theorem dX5_mixPort_28 : decode cX5_mixPort 28 = .ok (.ladd, 1) := by decide +kernel
theorem dX5_mixPort_29 : decode cX5_mixPort 29 = .ok (.lstore 4, 2) := by decide +kernel
theorem dX5_mixPort_31 : decode cX5_mixPort 31 = .ok (.ldc2_w 296, 3) := by decide +kernel
theorem dX5_mixPort_34 : decode cX5_mixPort 34 = .ok (.lload 4, 2) := by decide +kernel
theorem dX5_mixPort_36 : decode cX5_mixPort 36 = .ok (.lmul, 1) := by decide +kernel
theorem dX5_mixPort_37 : decode cX5_mixPort 37 = .ok (.aload_n 3, 1) := by decide +kernel
theorem dX5_mixPort_38 : decode cX5_mixPort 38 = .ok (.getfield 180, 3) := by decide +kernel
theorem dX5_mixPort_41 : decode cX5_mixPort 41 = .ok (.i2l, 1) := by decide +kernel
theorem dX5_mixPort_42 : decode cX5_mixPort 42 = .ok (.ladd, 1) := by decide +kernel
theorem dX5_mixPort_43 : decode cX5_mixPort 43 = .ok (.lstore 4, 2) := by decide +kernel
theorem dX5_mixPort_45 : decode cX5_mixPort 45 = .ok (.ldc2_w 296, 3) := by decide +kernel
theorem dX5_mixPort_48 : decode cX5_mixPort 48 = .ok (.lload 4, 2) := by decide +kernel
theorem dX5_mixPort_50 : decode cX5_mixPort 50 = .ok (.lmul, 1) := by decide +kernel
theorem dX5_mixPort_51 : decode cX5_mixPort 51 = .ok (.aload_n 3, 1) := by decide +kernel
theorem dX5_mixPort_52 : decode cX5_mixPort 52 = .ok (.getfield 199, 3) := by decide +kernel
theorem dX5_mixPort_55 : decode cX5_mixPort 55 = .ok (.i2l, 1) := by decide +kernel
theorem dX5_mixPort_56 : decode cX5_mixPort 56 = .ok (.ladd, 1) := by decide +kernel
theorem dX5_mixPort_57 : decode cX5_mixPort 57 = .ok (.lstore 4, 2) := by decide +kernel
theorem dX5_mixPort_59 : decode cX5_mixPort 59 = .ok (.ldc2_w 296, 3) := by decide +kernel
theorem dX5_mixPort_62 : decode cX5_mixPort 62 = .ok (.lload 4, 2) := by decide +kernel
theorem dX5_mixPort_64 : decode cX5_mixPort 64 = .ok (.lmul, 1) := by decide +kernel
theorem dX5_mixPort_65 : decode cX5_mixPort 65 = .ok (.aload_n 3, 1) := by decide +kernel
theorem dX5_mixPort_66 : decode cX5_mixPort 66 = .ok (.getfield 190, 3) := by decide +kernel
theorem dX5_mixPort_69 : decode cX5_mixPort 69 = .ok (.i2l, 1) := by decide +kernel
theorem dX5_mixPort_70 : decode cX5_mixPort 70 = .ok (.ladd, 1) := by decide +kernel
theorem dX5_mixPort_71 : decode cX5_mixPort 71 = .ok (.lstore 4, 2) := by decide +kernel
theorem dX5_mixPort_73 : decode cX5_mixPort 73 = .ok (.aload_n 3, 1) := by decide +kernel
theorem dX5_mixPort_74 : decode cX5_mixPort 74 = .ok (.getfield 310, 3) := by decide +kernel
theorem dX5_mixPort_77 : decode cX5_mixPort 77 = .ok (.astore 6, 2) := by decide +kernel
theorem dX5_mixPort_79 : decode cX5_mixPort 79 = .ok (.aload 6, 2) := by decide +kernel
theorem dX5_mixPort_81 : decode cX5_mixPort 81 = .ok (.arraylength, 1) := by decide +kernel
theorem dX5_mixPort_82 : decode cX5_mixPort 82 = .ok (.istore 7, 2) := by decide +kernel
theorem dX5_mixPort_84 : decode cX5_mixPort 84 = .ok (.iconst 0, 1) := by decide +kernel
theorem dX5_mixPort_85 : decode cX5_mixPort 85 = .ok (.istore 8, 2) := by decide +kernel
theorem dX5_mixPort_87 : decode cX5_mixPort 87 = .ok (.iload 8, 2) := by decide +kernel
theorem dX5_mixPort_89 : decode cX5_mixPort 89 = .ok (.iload 7, 2) := by decide +kernel
theorem dX5_mixPort_91 : decode cX5_mixPort 91 = .ok (.if_icmp .ge 134, 3) := by decide +kernel
theorem dX5_mixPort_94 : decode cX5_mixPort 94 = .ok (.aload 6, 2) := by decide +kernel
theorem dX5_mixPort_96 : decode cX5_mixPort 96 = .ok (.iload 8, 2) := by decide +kernel
theorem dX5_mixPort_98 : decode cX5_mixPort 98 = .ok (.aaload, 1) := by decide +kernel
theorem dX5_mixPort_99 : decode cX5_mixPort 99 = .ok (.astore 9, 2) := by decide +kernel
theorem dX5_mixPort_101 : decode cX5_mixPort 101 = .ok (.ldc2_w 296, 3) := by decide +kernel
theorem dX5_mixPort_104 : decode cX5_mixPort 104 = .ok (.lload 4, 2) := by decide +kernel
theorem dX5_mixPort_106 : decode cX5_mixPort 106 = .ok (.lmul, 1) := by decide +kernel
theorem dX5_mixPort_107 : decode cX5_mixPort 107 = .ok (.aload 9, 2) := by decide +kernel
theorem dX5_mixPort_109 : decode cX5_mixPort 109 = .ok (.getfield 171, 3) := by decide +kernel
theorem dX5_mixPort_112 : decode cX5_mixPort 112 = .ok (.i2l, 1) := by decide +kernel
theorem dX5_mixPort_113 : decode cX5_mixPort 113 = .ok (.ladd, 1) := by decide +kernel
theorem dX5_mixPort_114 : decode cX5_mixPort 114 = .ok (.lstore 4, 2) := by decide +kernel
theorem dX5_mixPort_116 : decode cX5_mixPort 116 = .ok (.ldc2_w 296, 3) := by decide +kernel
theorem dX5_mixPort_119 : decode cX5_mixPort 119 = .ok (.lload 4, 2) := by decide +kernel
theorem dX5_mixPort_121 : decode cX5_mixPort 121 = .ok (.lmul, 1) := by decide +kernel
theorem dX5_mixPort_122 : decode cX5_mixPort 122 = .ok (.aload 9, 2) := by decide +kernel
theorem dX5_mixPort_124 : decode cX5_mixPort 124 = .ok (.getfield 174, 3) := by decide +kernel
theorem dX5_mixPort_127 : decode cX5_mixPort 127 = .ok (.i2l, 1) := by decide +kernel
theorem dX5_mixPort_128 : decode cX5_mixPort 128 = .ok (.ladd, 1) := by decide +kernel
theorem dX5_mixPort_129 : decode cX5_mixPort 129 = .ok (.lstore 4, 2) := by decide +kernel
theorem dX5_mixPort_131 : decode cX5_mixPort 131 = .ok (.ldc2_w 296, 3) := by decide +kernel
theorem dX5_mixPort_134 : decode cX5_mixPort 134 = .ok (.lload 4, 2) := by decide +kernel
theorem dX5_mixPort_136 : decode cX5_mixPort 136 = .ok (.lmul, 1) := by decide +kernel
theorem dX5_mixPort_137 : decode cX5_mixPort 137 = .ok (.aload 9, 2) := by decide +kernel
theorem dX5_mixPort_139 : decode cX5_mixPort 139 = .ok (.getfield 92, 3) := by decide +kernel
theorem dX5_mixPort_142 : decode cX5_mixPort 142 = .ok (.i2l, 1) := by decide +kernel
theorem dX5_mixPort_143 : decode cX5_mixPort 143 = .ok (.ladd, 1) := by decide +kernel
theorem dX5_mixPort_144 : decode cX5_mixPort 144 = .ok (.lstore 4, 2) := by decide +kernel
theorem dX5_mixPort_146 : decode cX5_mixPort 146 = .ok (.ldc2_w 296, 3) := by decide +kernel
theorem dX5_mixPort_149 : decode cX5_mixPort 149 = .ok (.lload 4, 2) := by decide +kernel
theorem dX5_mixPort_151 : decode cX5_mixPort 151 = .ok (.lmul, 1) := by decide +kernel
theorem dX5_mixPort_152 : decode cX5_mixPort 152 = .ok (.aload 9, 2) := by decide +kernel
theorem dX5_mixPort_154 : decode cX5_mixPort 154 = .ok (.getfield 83, 3) := by decide +kernel
theorem dX5_mixPort_157 : decode cX5_mixPort 157 = .ok (.i2l, 1) := by decide +kernel
theorem dX5_mixPort_158 : decode cX5_mixPort 158 = .ok (.ladd, 1) := by decide +kernel
theorem dX5_mixPort_159 : decode cX5_mixPort 159 = .ok (.lstore 4, 2) := by decide +kernel
theorem dX5_mixPort_161 : decode cX5_mixPort 161 = .ok (.ldc2_w 296, 3) := by decide +kernel
theorem dX5_mixPort_164 : decode cX5_mixPort 164 = .ok (.lload 4, 2) := by decide +kernel
theorem dX5_mixPort_166 : decode cX5_mixPort 166 = .ok (.lmul, 1) := by decide +kernel
theorem dX5_mixPort_167 : decode cX5_mixPort 167 = .ok (.aload 9, 2) := by decide +kernel
theorem dX5_mixPort_169 : decode cX5_mixPort 169 = .ok (.getfield 103, 3) := by decide +kernel
theorem dX5_mixPort_172 : decode cX5_mixPort 172 = .ok (.invokestatic 99, 3) := by decide +kernel
theorem dX5_mixPort_175 : decode cX5_mixPort 175 = .ok (.i2l, 1) := by decide +kernel
theorem dX5_mixPort_176 : decode cX5_mixPort 176 = .ok (.ladd, 1) := by decide +kernel
theorem dX5_mixPort_177 : decode cX5_mixPort 177 = .ok (.lstore 4, 2) := by decide +kernel
theorem dX5_mixPort_179 : decode cX5_mixPort 179 = .ok (.ldc2_w 296, 3) := by decide +kernel
theorem dX5_mixPort_182 : decode cX5_mixPort 182 = .ok (.lload 4, 2) := by decide +kernel
theorem dX5_mixPort_184 : decode cX5_mixPort 184 = .ok (.lmul, 1) := by decide +kernel
theorem dX5_mixPort_185 : decode cX5_mixPort 185 = .ok (.aload 9, 2) := by decide +kernel
theorem dX5_mixPort_187 : decode cX5_mixPort 187 = .ok (.getfield 183, 3) := by decide +kernel
theorem dX5_mixPort_190 : decode cX5_mixPort 190 = .ok (.i2l, 1) := by decide +kernel
theorem dX5_mixPort_191 : decode cX5_mixPort 191 = .ok (.ladd, 1) := by decide +kernel
theorem dX5_mixPort_192 : decode cX5_mixPort 192 = .ok (.lstore 4, 2) := by decide +kernel
theorem dX5_mixPort_194 : decode cX5_mixPort 194 = .ok (.ldc2_w 296, 3) := by decide +kernel
theorem dX5_mixPort_197 : decode cX5_mixPort 197 = .ok (.lload 4, 2) := by decide +kernel
theorem dX5_mixPort_199 : decode cX5_mixPort 199 = .ok (.lmul, 1) := by decide +kernel
theorem dX5_mixPort_200 : decode cX5_mixPort 200 = .ok (.aload 9, 2) := by decide +kernel
theorem dX5_mixPort_202 : decode cX5_mixPort 202 = .ok (.getfield 208, 3) := by decide +kernel
theorem dX5_mixPort_205 : decode cX5_mixPort 205 = .ok (.i2l, 1) := by decide +kernel
theorem dX5_mixPort_206 : decode cX5_mixPort 206 = .ok (.ladd, 1) := by decide +kernel
theorem dX5_mixPort_207 : decode cX5_mixPort 207 = .ok (.lstore 4, 2) := by decide +kernel
theorem dX5_mixPort_209 : decode cX5_mixPort 209 = .ok (.aload_n 0, 1) := by decide +kernel
theorem dX5_mixPort_210 : decode cX5_mixPort 210 = .ok (.lload 4, 2) := by decide +kernel
theorem dX5_mixPort_212 : decode cX5_mixPort 212 = .ok (.aload 9, 2) := by decide +kernel
theorem dX5_mixPort_214 : decode cX5_mixPort 214 = .ok (.invokevirtual 314, 3) := by decide +kernel
theorem dX5_mixPort_217 : decode cX5_mixPort 217 = .ok (.lstore 4, 2) := by decide +kernel
theorem dX5_mixPort_219 : decode cX5_mixPort 219 = .ok (.iinc 8 1, 3) := by decide +kernel
theorem dX5_mixPort_222 : decode cX5_mixPort 222 = .ok (.goto (-135), 3) := by decide +kernel
theorem dX5_mixPort_225 : decode cX5_mixPort 225 = .ok (.lload 4, 2) := by decide +kernel
theorem dX5_mixPort_227 : decode cX5_mixPort 227 = .ok (.lreturn, 1) := by decide +kernel
theorem dX5_mixPackets_0 : decode cX5_mixPackets 0 = .ok (.aload_n 0, 1) := by decide +kernel
theorem dX5_mixPackets_1 : decode cX5_mixPackets 1 = .ok (.getfield 10, 3) := by decide +kernel
theorem dX5_mixPackets_4 : decode cX5_mixPackets 4 = .ok (.getfield 42, 3) := by decide +kernel
theorem dX5_mixPackets_7 : decode cX5_mixPackets 7 = .ok (.astore 4, 2) := by decide +kernel
theorem dX5_mixPackets_9 : decode cX5_mixPackets 9 = .ok (.lload_n 1, 1) := by decide +kernel
theorem dX5_mixPackets_10 : decode cX5_mixPackets 10 = .ok (.lstore 5, 2) := by decide +kernel
theorem dX5_mixPackets_12 : decode cX5_mixPackets 12 = .ok (.aload_n 3, 1) := by decide +kernel
theorem dX5_mixPackets_13 : decode cX5_mixPackets 13 = .ok (.getfield 211, 3) := by decide +kernel
theorem dX5_mixPackets_16 : decode cX5_mixPackets 16 = .ok (.istore 7, 2) := by decide +kernel
theorem dX5_mixPackets_18 : decode cX5_mixPackets 18 = .ok (.iconst 0, 1) := by decide +kernel
theorem dX5_mixPackets_19 : decode cX5_mixPackets 19 = .ok (.istore 8, 2) := by decide +kernel
theorem dX5_mixPackets_21 : decode cX5_mixPackets 21 = .ok (.iload 8, 2) := by decide +kernel
theorem dX5_mixPackets_23 : decode cX5_mixPackets 23 = .ok (.aload_n 3, 1) := by decide +kernel
theorem dX5_mixPackets_24 : decode cX5_mixPackets 24 = .ok (.getfield 208, 3) := by decide +kernel
theorem dX5_mixPackets_27 : decode cX5_mixPackets 27 = .ok (.if_icmp .ge 81, 3) := by decide +kernel
theorem dX5_mixPackets_30 : decode cX5_mixPackets 30 = .ok (.ldc2_w 296, 3) := by decide +kernel
theorem dX5_mixPackets_33 : decode cX5_mixPackets 33 = .ok (.lload 5, 2) := by decide +kernel
theorem dX5_mixPackets_35 : decode cX5_mixPackets 35 = .ok (.lmul, 1) := by decide +kernel
theorem dX5_mixPackets_36 : decode cX5_mixPackets 36 = .ok (.aload 4, 2) := by decide +kernel
theorem dX5_mixPackets_38 : decode cX5_mixPackets 38 = .ok (.iload 7, 2) := by decide +kernel
theorem dX5_mixPackets_40 : decode cX5_mixPackets 40 = .ok (.invokevirtual 217, 3) := by decide +kernel
theorem dX5_mixPackets_43 : decode cX5_mixPackets 43 = .ok (.i2l, 1) := by decide +kernel
theorem dX5_mixPackets_44 : decode cX5_mixPackets 44 = .ok (.ladd, 1) := by decide +kernel
theorem dX5_mixPackets_45 : decode cX5_mixPackets 45 = .ok (.lstore 5, 2) := by decide +kernel
theorem dX5_mixPackets_47 : decode cX5_mixPackets 47 = .ok (.iload 7, 2) := by decide +kernel
theorem dX5_mixPackets_49 : decode cX5_mixPackets 49 = .ok (.istore 9, 2) := by decide +kernel
theorem dX5_mixPackets_51 : decode cX5_mixPackets 51 = .ok (.iconst 0, 1) := by decide +kernel
theorem dX5_mixPackets_52 : decode cX5_mixPackets 52 = .ok (.istore 10, 2) := by decide +kernel
theorem dX5_mixPackets_54 : decode cX5_mixPackets 54 = .ok (.iload 10, 2) := by decide +kernel
theorem dX5_mixPackets_56 : decode cX5_mixPackets 56 = .ok (.aload 4, 2) := by decide +kernel
theorem dX5_mixPackets_58 : decode cX5_mixPackets 58 = .ok (.iload 7, 2) := by decide +kernel
theorem dX5_mixPackets_60 : decode cX5_mixPackets 60 = .ok (.invokevirtual 223, 3) := by decide +kernel
theorem dX5_mixPackets_63 : decode cX5_mixPackets 63 = .ok (.if_icmp .ge 30, 3) := by decide +kernel
theorem dX5_mixPackets_66 : decode cX5_mixPackets 66 = .ok (.ldc2_w 296, 3) := by decide +kernel
theorem dX5_mixPackets_69 : decode cX5_mixPackets 69 = .ok (.lload 5, 2) := by decide +kernel
theorem dX5_mixPackets_71 : decode cX5_mixPackets 71 = .ok (.lmul, 1) := by decide +kernel
theorem dX5_mixPackets_72 : decode cX5_mixPackets 72 = .ok (.iload 9, 2) := by decide +kernel
theorem dX5_mixPackets_74 : decode cX5_mixPackets 74 = .ok (.i2l, 1) := by decide +kernel
theorem dX5_mixPackets_75 : decode cX5_mixPackets 75 = .ok (.ladd, 1) := by decide +kernel
theorem dX5_mixPackets_76 : decode cX5_mixPackets 76 = .ok (.lstore 5, 2) := by decide +kernel
theorem dX5_mixPackets_78 : decode cX5_mixPackets 78 = .ok (.aload 4, 2) := by decide +kernel
theorem dX5_mixPackets_80 : decode cX5_mixPackets 80 = .ok (.iload 9, 2) := by decide +kernel
theorem dX5_mixPackets_82 : decode cX5_mixPackets 82 = .ok (.invokevirtual 318, 3) := by decide +kernel
theorem dX5_mixPackets_85 : decode cX5_mixPackets 85 = .ok (.istore 9, 2) := by decide +kernel
theorem dX5_mixPackets_87 : decode cX5_mixPackets 87 = .ok (.iinc 10 1, 3) := by decide +kernel
theorem dX5_mixPackets_90 : decode cX5_mixPackets 90 = .ok (.goto (-36), 3) := by decide +kernel
theorem dX5_mixPackets_93 : decode cX5_mixPackets 93 = .ok (.aload 4, 2) := by decide +kernel
theorem dX5_mixPackets_95 : decode cX5_mixPackets 95 = .ok (.iload 7, 2) := by decide +kernel
theorem dX5_mixPackets_97 : decode cX5_mixPackets 97 = .ok (.invokevirtual 214, 3) := by decide +kernel
theorem dX5_mixPackets_100 : decode cX5_mixPackets 100 = .ok (.istore 7, 2) := by decide +kernel
theorem dX5_mixPackets_102 : decode cX5_mixPackets 102 = .ok (.iinc 8 1, 3) := by decide +kernel
theorem dX5_mixPackets_105 : decode cX5_mixPackets 105 = .ok (.goto (-84), 3) := by decide +kernel
theorem dX5_mixPackets_108 : decode cX5_mixPackets 108 = .ok (.lload 5, 2) := by decide +kernel
theorem dX5_mixPackets_110 : decode cX5_mixPackets 110 = .ok (.lreturn, 1) := by decide +kernel
theorem dX5_lossOfArrivals_0 : decode cX5_lossOfArrivals 0 = .ok (.aload_n 1, 1) := by decide +kernel
theorem dX5_lossOfArrivals_1 : decode cX5_lossOfArrivals 1 = .ok (.ifnull 7, 3) := by decide +kernel
theorem dX5_lossOfArrivals_4 : decode cX5_lossOfArrivals 4 = .ok (.aload_n 2, 1) := by decide +kernel
theorem dX5_lossOfArrivals_5 : decode cX5_lossOfArrivals 5 = .ok (.ifnonnull 5, 3) := by decide +kernel
theorem dX5_lossOfArrivals_8 : decode cX5_lossOfArrivals 8 = .ok (.iconst 0, 1) := by decide +kernel
theorem dX5_lossOfArrivals_9 : decode cX5_lossOfArrivals 9 = .ok (.ireturn, 1) := by decide +kernel
theorem dX5_lossOfArrivals_10 : decode cX5_lossOfArrivals 10 = .ok (.iconst 0, 1) := by decide +kernel
theorem dX5_lossOfArrivals_11 : decode cX5_lossOfArrivals 11 = .ok (.istore 5, 2) := by decide +kernel
theorem dX5_lossOfArrivals_13 : decode cX5_lossOfArrivals 13 = .ok (.iconst 0, 1) := by decide +kernel
theorem dX5_lossOfArrivals_14 : decode cX5_lossOfArrivals 14 = .ok (.istore 6, 2) := by decide +kernel
theorem dX5_lossOfArrivals_16 : decode cX5_lossOfArrivals 16 = .ok (.iload 6, 2) := by decide +kernel
theorem dX5_lossOfArrivals_18 : decode cX5_lossOfArrivals 18 = .ok (.iload 4, 2) := by decide +kernel
theorem dX5_lossOfArrivals_20 : decode cX5_lossOfArrivals 20 = .ok (.if_icmp .ge 27, 3) := by decide +kernel
theorem dX5_lossOfArrivals_23 : decode cX5_lossOfArrivals 23 = .ok (.aload_n 0, 1) := by decide +kernel
theorem dX5_lossOfArrivals_24 : decode cX5_lossOfArrivals 24 = .ok (.getfield 10, 3) := by decide +kernel
theorem dX5_lossOfArrivals_27 : decode cX5_lossOfArrivals 27 = .ok (.aload_n 1, 1) := by decide +kernel
theorem dX5_lossOfArrivals_28 : decode cX5_lossOfArrivals 28 = .ok (.aload_n 2, 1) := by decide +kernel
theorem dX5_lossOfArrivals_29 : decode cX5_lossOfArrivals 29 = .ok (.iload_n 3, 1) := by decide +kernel
theorem dX5_lossOfArrivals_30 : decode cX5_lossOfArrivals 30 = .ok (.invokevirtual 129, 3) := by decide +kernel
theorem dX5_lossOfArrivals_33 : decode cX5_lossOfArrivals 33 = .ok (.bipush (-6), 2) := by decide +kernel
theorem dX5_lossOfArrivals_35 : decode cX5_lossOfArrivals 35 = .ok (.if_icmp .ne 6, 3) := by decide +kernel
theorem dX5_lossOfArrivals_38 : decode cX5_lossOfArrivals 38 = .ok (.iinc 5 1, 3) := by decide +kernel
theorem dX5_lossOfArrivals_41 : decode cX5_lossOfArrivals 41 = .ok (.iinc 6 1, 3) := by decide +kernel
theorem dX5_lossOfArrivals_44 : decode cX5_lossOfArrivals 44 = .ok (.goto (-28), 3) := by decide +kernel
theorem dX5_lossOfArrivals_47 : decode cX5_lossOfArrivals 47 = .ok (.iload 5, 2) := by decide +kernel
theorem dX5_lossOfArrivals_49 : decode cX5_lossOfArrivals 49 = .ok (.ireturn, 1) := by decide +kernel
theorem dX5_isOutside_0 : decode cX5_isOutside 0 = .ok (.iload_n 0, 1) := by decide +kernel
theorem dX5_isOutside_1 : decode cX5_isOutside 1 = .ok (.iload_n 1, 1) := by decide +kernel
theorem dX5_isOutside_2 : decode cX5_isOutside 2 = .ok (.if_icmp .lt 8, 3) := by decide +kernel
theorem dX5_isOutside_5 : decode cX5_isOutside 5 = .ok (.iload_n 0, 1) := by decide +kernel
theorem dX5_isOutside_6 : decode cX5_isOutside 6 = .ok (.iload_n 2, 1) := by decide +kernel
theorem dX5_isOutside_7 : decode cX5_isOutside 7 = .ok (.if_icmp .le 7, 3) := by decide +kernel
theorem dX5_isOutside_10 : decode cX5_isOutside 10 = .ok (.iconst 1, 1) := by decide +kernel
theorem dX5_isOutside_11 : decode cX5_isOutside 11 = .ok (.goto 4, 3) := by decide +kernel
theorem dX5_isOutside_14 : decode cX5_isOutside 14 = .ok (.iconst 0, 1) := by decide +kernel
theorem dX5_isOutside_15 : decode cX5_isOutside 15 = .ok (.ireturn, 1) := by decide +kernel
theorem dX5_asNumber_0 : decode cX5_asNumber 0 = .ok (.iload_n 0, 1) := by decide +kernel
theorem dX5_asNumber_1 : decode cX5_asNumber 1 = .ok (.ifCond .eq 7, 3) := by decide +kernel
theorem dX5_asNumber_4 : decode cX5_asNumber 4 = .ok (.iconst 1, 1) := by decide +kernel
theorem dX5_asNumber_5 : decode cX5_asNumber 5 = .ok (.goto 4, 3) := by decide +kernel
theorem dX5_asNumber_8 : decode cX5_asNumber 8 = .ok (.iconst 0, 1) := by decide +kernel
theorem dX5_asNumber_9 : decode cX5_asNumber 9 = .ok (.ireturn, 1) := by decide +kernel
theorem dX5_greatestCommonDivisor_0 : decode cX5_greatestCommonDivisor 0 = .ok (.iload_n 0, 1) := by decide +kernel
theorem dX5_greatestCommonDivisor_1 : decode cX5_greatestCommonDivisor 1 = .ok (.istore_n 2, 1) := by decide +kernel
theorem dX5_greatestCommonDivisor_2 : decode cX5_greatestCommonDivisor 2 = .ok (.iload_n 1, 1) := by decide +kernel
theorem dX5_greatestCommonDivisor_3 : decode cX5_greatestCommonDivisor 3 = .ok (.istore_n 3, 1) := by decide +kernel
theorem dX5_greatestCommonDivisor_4 : decode cX5_greatestCommonDivisor 4 = .ok (.iconst 0, 1) := by decide +kernel
theorem dX5_greatestCommonDivisor_5 : decode cX5_greatestCommonDivisor 5 = .ok (.istore 4, 2) := by decide +kernel
theorem dX5_greatestCommonDivisor_7 : decode cX5_greatestCommonDivisor 7 = .ok (.iload 4, 2) := by decide +kernel
theorem dX5_greatestCommonDivisor_9 : decode cX5_greatestCommonDivisor 9 = .ok (.bipush 64, 2) := by decide +kernel
theorem dX5_greatestCommonDivisor_11 : decode cX5_greatestCommonDivisor 11 = .ok (.if_icmp .ge 23, 3) := by decide +kernel
theorem dX5_greatestCommonDivisor_14 : decode cX5_greatestCommonDivisor 14 = .ok (.iload_n 3, 1) := by decide +kernel
theorem dX5_greatestCommonDivisor_15 : decode cX5_greatestCommonDivisor 15 = .ok (.ifCond .eq 19, 3) := by decide +kernel
theorem dX5_greatestCommonDivisor_18 : decode cX5_greatestCommonDivisor 18 = .ok (.iload_n 2, 1) := by decide +kernel
theorem dX5_greatestCommonDivisor_19 : decode cX5_greatestCommonDivisor 19 = .ok (.iload_n 3, 1) := by decide +kernel
theorem dX5_greatestCommonDivisor_20 : decode cX5_greatestCommonDivisor 20 = .ok (.irem, 1) := by decide +kernel
theorem dX5_greatestCommonDivisor_21 : decode cX5_greatestCommonDivisor 21 = .ok (.istore 5, 2) := by decide +kernel
theorem dX5_greatestCommonDivisor_23 : decode cX5_greatestCommonDivisor 23 = .ok (.iload_n 3, 1) := by decide +kernel
theorem dX5_greatestCommonDivisor_24 : decode cX5_greatestCommonDivisor 24 = .ok (.istore_n 2, 1) := by decide +kernel
theorem dX5_greatestCommonDivisor_25 : decode cX5_greatestCommonDivisor 25 = .ok (.iload 5, 2) := by decide +kernel
theorem dX5_greatestCommonDivisor_27 : decode cX5_greatestCommonDivisor 27 = .ok (.istore_n 3, 1) := by decide +kernel
theorem dX5_greatestCommonDivisor_28 : decode cX5_greatestCommonDivisor 28 = .ok (.iinc 4 1, 3) := by decide +kernel
theorem dX5_greatestCommonDivisor_31 : decode cX5_greatestCommonDivisor 31 = .ok (.goto (-24), 3) := by decide +kernel
theorem dX5_greatestCommonDivisor_34 : decode cX5_greatestCommonDivisor 34 = .ok (.iload_n 2, 1) := by decide +kernel
theorem dX5_greatestCommonDivisor_35 : decode cX5_greatestCommonDivisor 35 = .ok (.ireturn, 1) := by decide +kernel
