theorem dX6_init_0 : decode cX6_init 0 = .ok (.aload_n 0, 1) := by decide +kernel
theorem dX6_init_1 : decode cX6_init 1 = .ok (.invokespecial 1, 3) := by decide +kernel
theorem dX6_init_4 : decode cX6_init 4 = .ok (.aload_n 0, 1) := by decide +kernel
theorem dX6_init_5 : decode cX6_init 5 = .ok (.sipush 6464, 3) := by decide +kernel
theorem dX6_init_8 : decode cX6_init 8 = .ok (.newarray .int, 2) := by decide +kernel
theorem dX6_init_10 : decode cX6_init 10 = .ok (.putfield 7, 3) := by decide +kernel
theorem dX6_init_13 : decode cX6_init 13 = .ok (.aload_n 0, 1) := by decide +kernel
theorem dX6_init_14 : decode cX6_init 14 = .ok (.sipush 6464, 3) := by decide +kernel
theorem dX6_init_17 : decode cX6_init 17 = .ok (.newarray .int, 2) := by decide +kernel
theorem dX6_init_19 : decode cX6_init 19 = .ok (.putfield 13, 3) := by decide +kernel
theorem dX6_init_22 : decode cX6_init 22 = .ok (.aload_n 0, 1) := by decide +kernel
theorem dX6_init_23 : decode cX6_init 23 = .ok (.sipush 12928, 3) := by decide +kernel
theorem dX6_init_26 : decode cX6_init 26 = .ok (.newarray .int, 2) := by decide +kernel
theorem dX6_init_28 : decode cX6_init 28 = .ok (.putfield 16, 3) := by decide +kernel
theorem dX6_init_31 : decode cX6_init 31 = .ok (.aload_n 0, 1) := by decide +kernel
theorem dX6_init_32 : decode cX6_init 32 = .ok (.iconst 2, 1) := by decide +kernel
theorem dX6_init_33 : decode cX6_init 33 = .ok (.newarray .boolean, 2) := by decide +kernel
theorem dX6_init_35 : decode cX6_init 35 = .ok (.putfield 19, 3) := by decide +kernel
theorem dX6_init_38 : decode cX6_init 38 = .ok (.aload_n 0, 1) := by decide +kernel
theorem dX6_init_39 : decode cX6_init 39 = .ok (.bipush 120, 2) := by decide +kernel
theorem dX6_init_41 : decode cX6_init 41 = .ok (.newarray .int, 2) := by decide +kernel
theorem dX6_init_43 : decode cX6_init 43 = .ok (.putfield 23, 3) := by decide +kernel
theorem dX6_init_46 : decode cX6_init 46 = .ok (.aload_n 0, 1) := by decide +kernel
theorem dX6_init_47 : decode cX6_init 47 = .ok (.iconst 5, 1) := by decide +kernel
theorem dX6_init_48 : decode cX6_init 48 = .ok (.newarray .int, 2) := by decide +kernel
theorem dX6_init_50 : decode cX6_init 50 = .ok (.putfield 26, 3) := by decide +kernel
theorem dX6_init_53 : decode cX6_init 53 = .ok (.aload_n 0, 1) := by decide +kernel
theorem dX6_init_54 : decode cX6_init 54 = .ok (.bipush 9, 2) := by decide +kernel
theorem dX6_init_56 : decode cX6_init 56 = .ok (.newarray .int, 2) := by decide +kernel
theorem dX6_init_58 : decode cX6_init 58 = .ok (.putfield 29, 3) := by decide +kernel
theorem dX6_init_61 : decode cX6_init 61 = .ok (.aload_n 0, 1) := by decide +kernel
theorem dX6_init_62 : decode cX6_init 62 = .ok (.bipush 64, 2) := by decide +kernel
theorem dX6_init_64 : decode cX6_init 64 = .ok (.iconst 4, 1) := by decide +kernel
theorem dX6_init_65 : decode cX6_init 65 = .ok (.invokevirtual 32, 3) := by decide +kernel
theorem dX6_init_68 : decode cX6_init 68 = .ok (.return_, 1) := by decide +kernel
theorem dX6_in_0 : decode cX6_in 0 = .ok (.iload_n 0, 1) := by decide +kernel
theorem dX6_in_1 : decode cX6_in 1 = .ok (.iload_n 1, 1) := by decide +kernel
theorem dX6_in_2 : decode cX6_in 2 = .ok (.if_icmp .lt 12, 3) := by decide +kernel
theorem dX6_in_5 : decode cX6_in 5 = .ok (.iload_n 0, 1) := by decide +kernel
theorem dX6_in_6 : decode cX6_in 6 = .ok (.iload_n 2, 1) := by decide +kernel
theorem dX6_in_7 : decode cX6_in 7 = .ok (.if_icmp .gt 7, 3) := by decide +kernel
theorem dX6_in_10 : decode cX6_in 10 = .ok (.iconst 1, 1) := by decide +kernel
theorem dX6_in_11 : decode cX6_in 11 = .ok (.goto 4, 3) := by decide +kernel
theorem dX6_in_14 : decode cX6_in 14 = .ok (.iconst 0, 1) := by decide +kernel
theorem dX6_in_15 : decode cX6_in 15 = .ok (.ireturn, 1) := by decide +kernel
theorem dX6_least_0 : decode cX6_least 0 = .ok (.iload_n 0, 1) := by decide +kernel
theorem dX6_least_1 : decode cX6_least 1 = .ok (.iload_n 1, 1) := by decide +kernel
theorem dX6_least_2 : decode cX6_least 2 = .ok (.if_icmp .ge 7, 3) := by decide +kernel
theorem dX6_least_5 : decode cX6_least 5 = .ok (.iload_n 0, 1) := by decide +kernel
theorem dX6_least_6 : decode cX6_least 6 = .ok (.goto 4, 3) := by decide +kernel
theorem dX6_least_9 : decode cX6_least 9 = .ok (.iload_n 1, 1) := by decide +kernel
theorem dX6_least_10 : decode cX6_least 10 = .ok (.ireturn, 1) := by decide +kernel
theorem dX6_most_0 : decode cX6_most 0 = .ok (.iload_n 0, 1) := by decide +kernel
theorem dX6_most_1 : decode cX6_most 1 = .ok (.iload_n 1, 1) := by decide +kernel
theorem dX6_most_2 : decode cX6_most 2 = .ok (.if_icmp .le 7, 3) := by decide +kernel
theorem dX6_most_5 : decode cX6_most 5 = .ok (.iload_n 0, 1) := by decide +kernel
theorem dX6_most_6 : decode cX6_most 6 = .ok (.goto 4, 3) := by decide +kernel
theorem dX6_most_9 : decode cX6_most 9 = .ok (.iload_n 1, 1) := by decide +kernel
theorem dX6_most_10 : decode cX6_most 10 = .ok (.ireturn, 1) := by decide +kernel
theorem dX6_port_0 : decode cX6_port 0 = .ok (.bipush 16, 2) := by decide +kernel
theorem dX6_port_2 : decode cX6_port 2 = .ok (.bipush 24, 2) := by decide +kernel
theorem dX6_port_4 : decode cX6_port 4 = .ok (.iload_n 0, 1) := by decide +kernel
theorem dX6_port_5 : decode cX6_port 5 = .ok (.imul, 1) := by decide +kernel
theorem dX6_port_6 : decode cX6_port 6 = .ok (.iadd, 1) := by decide +kernel
theorem dX6_port_7 : decode cX6_port 7 = .ok (.iload_n 1, 1) := by decide +kernel
theorem dX6_port_8 : decode cX6_port 8 = .ok (.iadd, 1) := by decide +kernel
theorem dX6_port_9 : decode cX6_port 9 = .ok (.ireturn, 1) := by decide +kernel
theorem dX6_queue_0 : decode cX6_queue 0 = .ok (.sipush 160, 3) := by decide +kernel
theorem dX6_queue_3 : decode cX6_queue 3 = .ok (.bipush 16, 2) := by decide +kernel
theorem dX6_queue_5 : decode cX6_queue 5 = .ok (.iload_n 0, 1) := by decide +kernel
theorem dX6_queue_6 : decode cX6_queue 6 = .ok (.imul, 1) := by decide +kernel
theorem dX6_queue_7 : decode cX6_queue 7 = .ok (.iadd, 1) := by decide +kernel
theorem dX6_queue_8 : decode cX6_queue 8 = .ok (.iload_n 1, 1) := by decide +kernel
theorem dX6_queue_9 : decode cX6_queue 9 = .ok (.iadd, 1) := by decide +kernel
theorem dX6_queue_10 : decode cX6_queue 10 = .ok (.ireturn, 1) := by decide +kernel
theorem dX6_entry_0 : decode cX6_entry 0 = .ok (.sipush 448, 3) := by decide +kernel
theorem dX6_entry_3 : decode cX6_entry 3 = .ok (.sipush 128, 3) := by decide +kernel
theorem dX6_entry_6 : decode cX6_entry 6 = .ok (.iload_n 0, 1) := by decide +kernel
theorem dX6_entry_7 : decode cX6_entry 7 = .ok (.imul, 1) := by decide +kernel
theorem dX6_entry_8 : decode cX6_entry 8 = .ok (.iadd, 1) := by decide +kernel
theorem dX6_entry_9 : decode cX6_entry 9 = .ok (.iload_n 1, 1) := by decide +kernel
theorem dX6_entry_10 : decode cX6_entry 10 = .ok (.iadd, 1) := by decide +kernel
theorem dX6_entry_11 : decode cX6_entry 11 = .ok (.ireturn, 1) := by decide +kernel
theorem dX6_packet_0 : decode cX6_packet 0 = .ok (.sipush 2752, 3) := by decide +kernel
theorem dX6_packet_3 : decode cX6_packet 3 = .ok (.bipush 28, 2) := by decide +kernel
theorem dX6_packet_5 : decode cX6_packet 5 = .ok (.iload_n 0, 1) := by decide +kernel
theorem dX6_packet_6 : decode cX6_packet 6 = .ok (.imul, 1) := by decide +kernel
theorem dX6_packet_7 : decode cX6_packet 7 = .ok (.iadd, 1) := by decide +kernel
theorem dX6_packet_8 : decode cX6_packet 8 = .ok (.iload_n 1, 1) := by decide +kernel
theorem dX6_packet_9 : decode cX6_packet 9 = .ok (.iadd, 1) := by decide +kernel
theorem dX6_packet_10 : decode cX6_packet 10 = .ok (.ireturn, 1) := by decide +kernel
theorem dX6_isPort_0 : decode cX6_isPort 0 = .ok (.iload_n 1, 1) := by decide +kernel
theorem dX6_isPort_1 : decode cX6_isPort 1 = .ok (.iconst 0, 1) := by decide +kernel
theorem dX6_isPort_2 : decode cX6_isPort 2 = .ok (.aload_n 0, 1) := by decide +kernel
theorem dX6_isPort_3 : decode cX6_isPort 3 = .ok (.getfield 7, 3) := by decide +kernel
theorem dX6_isPort_6 : decode cX6_isPort 6 = .ok (.iconst 1, 1) := by decide +kernel
theorem dX6_isPort_7 : decode cX6_isPort 7 = .ok (.iaload, 1) := by decide +kernel
theorem dX6_isPort_8 : decode cX6_isPort 8 = .ok (.iconst 1, 1) := by decide +kernel
theorem dX6_isPort_9 : decode cX6_isPort 9 = .ok (.isub, 1) := by decide +kernel
theorem dX6_isPort_10 : decode cX6_isPort 10 = .ok (.invokestatic 36, 3) := by decide +kernel
theorem dX6_isPort_13 : decode cX6_isPort 13 = .ok (.ireturn, 1) := by decide +kernel
theorem dX6_isQueue_0 : decode cX6_isQueue 0 = .ok (.aload_n 0, 1) := by decide +kernel
theorem dX6_isQueue_1 : decode cX6_isQueue 1 = .ok (.iload_n 1, 1) := by decide +kernel
theorem dX6_isQueue_2 : decode cX6_isQueue 2 = .ok (.invokevirtual 40, 3) := by decide +kernel
theorem dX6_isQueue_5 : decode cX6_isQueue 5 = .ok (.ifCond .eq 16, 3) := by decide +kernel
theorem dX6_isQueue_8 : decode cX6_isQueue 8 = .ok (.iload_n 2, 1) := by decide +kernel
theorem dX6_isQueue_9 : decode cX6_isQueue 9 = .ok (.iconst 0, 1) := by decide +kernel
theorem dX6_isQueue_10 : decode cX6_isQueue 10 = .ok (.iconst 2, 1) := by decide +kernel
theorem dX6_isQueue_11 : decode cX6_isQueue 11 = .ok (.invokestatic 36, 3) := by decide +kernel
theorem dX6_isQueue_14 : decode cX6_isQueue 14 = .ok (.ifCond .eq 7, 3) := by decide +kernel
theorem dX6_isQueue_17 : decode cX6_isQueue 17 = .ok (.iconst 1, 1) := by decide +kernel
theorem dX6_isQueue_18 : decode cX6_isQueue 18 = .ok (.goto 4, 3) := by decide +kernel
theorem dX6_isQueue_21 : decode cX6_isQueue 21 = .ok (.iconst 0, 1) := by decide +kernel
theorem dX6_isQueue_22 : decode cX6_isQueue 22 = .ok (.ireturn, 1) := by decide +kernel
theorem dX6_starts_0 : decode cX6_starts 0 = .ok (.iconst 0, 1) := by decide +kernel
theorem dX6_starts_1 : decode cX6_starts 1 = .ok (.istore_n 3, 1) := by decide +kernel
theorem dX6_starts_2 : decode cX6_starts 2 = .ok (.iload_n 3, 1) := by decide +kernel
theorem dX6_starts_3 : decode cX6_starts 3 = .ok (.sipush 6464, 3) := by decide +kernel
theorem dX6_starts_6 : decode cX6_starts 6 = .ok (.if_icmp .ge 16, 3) := by decide +kernel
theorem dX6_starts_9 : decode cX6_starts 9 = .ok (.aload_n 0, 1) := by decide +kernel
theorem dX6_starts_10 : decode cX6_starts 10 = .ok (.getfield 7, 3) := by decide +kernel
theorem dX6_starts_13 : decode cX6_starts 13 = .ok (.iload_n 3, 1) := by decide +kernel
theorem dX6_starts_14 : decode cX6_starts 14 = .ok (.iconst 0, 1) := by decide +kernel
theorem dX6_starts_15 : decode cX6_starts 15 = .ok (.iastore, 1) := by decide +kernel
theorem dX6_starts_16 : decode cX6_starts 16 = .ok (.iinc 3 1, 3) := by decide +kernel
theorem dX6_starts_19 : decode cX6_starts 19 = .ok (.goto (-17), 3) := by decide +kernel
theorem dX6_starts_22 : decode cX6_starts 22 = .ok (.aload_n 0, 1) := by decide +kernel
theorem dX6_starts_23 : decode cX6_starts 23 = .ok (.getfield 7, 3) := by decide +kernel
theorem dX6_starts_26 : decode cX6_starts 26 = .ok (.iconst 0, 1) := by decide +kernel
theorem dX6_starts_27 : decode cX6_starts 27 = .ok (.iload_n 1, 1) := by decide +kernel
theorem dX6_starts_28 : decode cX6_starts 28 = .ok (.iastore, 1) := by decide +kernel
theorem dX6_starts_29 : decode cX6_starts 29 = .ok (.aload_n 0, 1) := by decide +kernel
theorem dX6_starts_30 : decode cX6_starts 30 = .ok (.getfield 7, 3) := by decide +kernel
theorem dX6_starts_33 : decode cX6_starts 33 = .ok (.iconst 1, 1) := by decide +kernel
theorem dX6_starts_34 : decode cX6_starts 34 = .ok (.iload_n 2, 1) := by decide +kernel
theorem dX6_starts_35 : decode cX6_starts 35 = .ok (.iastore, 1) := by decide +kernel
theorem dX6_starts_36 : decode cX6_starts 36 = .ok (.iconst 0, 1) := by decide +kernel
theorem dX6_starts_37 : decode cX6_starts 37 = .ok (.istore_n 3, 1) := by decide +kernel
theorem dX6_starts_38 : decode cX6_starts 38 = .ok (.iload_n 3, 1) := by decide +kernel
theorem dX6_starts_39 : decode cX6_starts 39 = .ok (.bipush 6, 2) := by decide +kernel
theorem dX6_starts_41 : decode cX6_starts 41 = .ok (.if_icmp .ge 32, 3) := by decide +kernel
theorem dX6_starts_44 : decode cX6_starts 44 = .ok (.aload_n 0, 1) := by decide +kernel
theorem dX6_starts_45 : decode cX6_starts 45 = .ok (.getfield 7, 3) := by decide +kernel
theorem dX6_starts_48 : decode cX6_starts 48 = .ok (.iload_n 3, 1) := by decide +kernel
theorem dX6_starts_49 : decode cX6_starts 49 = .ok (.iconst 5, 1) := by decide +kernel
theorem dX6_starts_50 : decode cX6_starts 50 = .ok (.invokestatic 44, 3) := by decide +kernel
theorem dX6_starts_53 : decode cX6_starts 53 = .ok (.iconst 4, 1) := by decide +kernel
theorem dX6_starts_54 : decode cX6_starts 54 = .ok (.iastore, 1) := by decide +kernel
theorem dX6_starts_55 : decode cX6_starts 55 = .ok (.aload_n 0, 1) := by decide +kernel
theorem dX6_starts_56 : decode cX6_starts 56 = .ok (.getfield 7, 3) := by decide +kernel
theorem dX6_starts_59 : decode cX6_starts 59 = .ok (.iload_n 3, 1) := by decide +kernel
theorem dX6_starts_60 : decode cX6_starts 60 = .ok (.bipush 7, 2) := by decide +kernel
theorem dX6_starts_62 : decode cX6_starts 62 = .ok (.invokestatic 44, 3) := by decide +kernel
theorem dX6_starts_65 : decode cX6_starts 65 = .ok (.iconst 1, 1) := by decide +kernel
theorem dX6_starts_66 : decode cX6_starts 66 = .ok (.iastore, 1) := by decide +kernel
theorem dX6_starts_67 : decode cX6_starts 67 = .ok (.iinc 3 1, 3) := by decide +kernel
theorem dX6_starts_70 : decode cX6_starts 70 = .ok (.goto (-32), 3) := by decide +kernel
theorem dX6_starts_73 : decode cX6_starts 73 = .ok (.iconst 0, 1) := by decide +kernel
theorem dX6_starts_74 : decode cX6_starts 74 = .ok (.istore_n 3, 1) := by decide +kernel
theorem dX6_starts_75 : decode cX6_starts 75 = .ok (.iload_n 3, 1) := by decide +kernel
theorem dX6_starts_76 : decode cX6_starts 76 = .ok (.bipush 18, 2) := by decide +kernel
theorem dX6_starts_78 : decode cX6_starts 78 = .ok (.if_icmp .ge 32, 3) := by decide +kernel
theorem dX6_starts_81 : decode cX6_starts 81 = .ok (.aload_n 0, 1) := by decide +kernel
theorem dX6_starts_82 : decode cX6_starts 82 = .ok (.getfield 7, 3) := by decide +kernel
theorem dX6_starts_85 : decode cX6_starts 85 = .ok (.iload_n 3, 1) := by decide +kernel
theorem dX6_starts_86 : decode cX6_starts 86 = .ok (.iconst 0, 1) := by decide +kernel
theorem dX6_starts_87 : decode cX6_starts 87 = .ok (.invokestatic 48, 3) := by decide +kernel
theorem dX6_starts_90 : decode cX6_starts 90 = .ok (.bipush 8, 2) := by decide +kernel
theorem dX6_starts_92 : decode cX6_starts 92 = .ok (.iastore, 1) := by decide +kernel
theorem dX6_starts_93 : decode cX6_starts 93 = .ok (.aload_n 0, 1) := by decide +kernel
theorem dX6_starts_94 : decode cX6_starts 94 = .ok (.getfield 7, 3) := by decide +kernel
theorem dX6_starts_97 : decode cX6_starts 97 = .ok (.iload_n 3, 1) := by decide +kernel
theorem dX6_starts_98 : decode cX6_starts 98 = .ok (.iconst 4, 1) := by decide +kernel
theorem dX6_starts_99 : decode cX6_starts 99 = .ok (.invokestatic 48, 3) := by decide +kernel
theorem dX6_starts_102 : decode cX6_starts 102 = .ok (.iconst 4, 1) := by decide +kernel
theorem dX6_starts_103 : decode cX6_starts 103 = .ok (.iastore, 1) := by decide +kernel
theorem dX6_starts_104 : decode cX6_starts 104 = .ok (.iinc 3 1, 3) := by decide +kernel
theorem dX6_starts_107 : decode cX6_starts 107 = .ok (.goto (-32), 3) := by decide +kernel
theorem dX6_starts_110 : decode cX6_starts 110 = .ok (.return_, 1) := by decide +kernel
theorem dX6_sum_0 : decode cX6_sum 0 = .ok (.aload_n 0, 1) := by decide +kernel
theorem dX6_sum_1 : decode cX6_sum 1 = .ok (.getfield 7, 3) := by decide +kernel
theorem dX6_sum_4 : decode cX6_sum 4 = .ok (.iconst 3, 1) := by decide +kernel
theorem dX6_sum_5 : decode cX6_sum 5 = .ok (.iload_n 1, 1) := by decide +kernel
theorem dX6_sum_6 : decode cX6_sum 6 = .ok (.imul, 1) := by decide +kernel
theorem dX6_sum_7 : decode cX6_sum 7 = .ok (.iload_n 2, 1) := by decide +kernel
theorem dX6_sum_8 : decode cX6_sum 8 = .ok (.invokestatic 48, 3) := by decide +kernel
theorem dX6_sum_11 : decode cX6_sum 11 = .ok (.iaload, 1) := by decide +kernel
theorem dX6_sum_12 : decode cX6_sum 12 = .ok (.aload_n 0, 1) := by decide +kernel
theorem dX6_sum_13 : decode cX6_sum 13 = .ok (.getfield 7, 3) := by decide +kernel
theorem dX6_sum_16 : decode cX6_sum 16 = .ok (.iconst 3, 1) := by decide +kernel
theorem dX6_sum_17 : decode cX6_sum 17 = .ok (.iload_n 1, 1) := by decide +kernel
theorem dX6_sum_18 : decode cX6_sum 18 = .ok (.imul, 1) := by decide +kernel
theorem dX6_sum_19 : decode cX6_sum 19 = .ok (.iconst 1, 1) := by decide +kernel
theorem dX6_sum_20 : decode cX6_sum 20 = .ok (.iadd, 1) := by decide +kernel
theorem dX6_sum_21 : decode cX6_sum 21 = .ok (.iload_n 2, 1) := by decide +kernel
theorem dX6_sum_22 : decode cX6_sum 22 = .ok (.invokestatic 48, 3) := by decide +kernel
theorem dX6_sum_25 : decode cX6_sum 25 = .ok (.iaload, 1) := by decide +kernel
theorem dX6_sum_26 : decode cX6_sum 26 = .ok (.iadd, 1) := by decide +kernel
theorem dX6_sum_27 : decode cX6_sum 27 = .ok (.aload_n 0, 1) := by decide +kernel
theorem dX6_sum_28 : decode cX6_sum 28 = .ok (.getfield 7, 3) := by decide +kernel
theorem dX6_sum_31 : decode cX6_sum 31 = .ok (.iconst 3, 1) := by decide +kernel
theorem dX6_sum_32 : decode cX6_sum 32 = .ok (.iload_n 1, 1) := by decide +kernel
theorem dX6_sum_33 : decode cX6_sum 33 = .ok (.imul, 1) := by decide +kernel
theorem dX6_sum_34 : decode cX6_sum 34 = .ok (.iconst 2, 1) := by decide +kernel
theorem dX6_sum_35 : decode cX6_sum 35 = .ok (.iadd, 1) := by decide +kernel
theorem dX6_sum_36 : decode cX6_sum 36 = .ok (.iload_n 2, 1) := by decide +kernel
theorem dX6_sum_37 : decode cX6_sum 37 = .ok (.invokestatic 48, 3) := by decide +kernel
theorem dX6_sum_40 : decode cX6_sum 40 = .ok (.iaload, 1) := by decide +kernel
theorem dX6_sum_41 : decode cX6_sum 41 = .ok (.iadd, 1) := by decide +kernel
theorem dX6_sum_42 : decode cX6_sum 42 = .ok (.ireturn, 1) := by decide +kernel
theorem dX6_guarantee_0 : decode cX6_guarantee 0 = .ok (.aload_n 0, 1) := by decide +kernel
theorem dX6_guarantee_1 : decode cX6_guarantee 1 = .ok (.getfield 7, 3) := by decide +kernel
theorem dX6_guarantee_4 : decode cX6_guarantee 4 = .ok (.iload_n 1, 1) := by decide +kernel
theorem dX6_guarantee_5 : decode cX6_guarantee 5 = .ok (.iconst 0, 1) := by decide +kernel
theorem dX6_guarantee_6 : decode cX6_guarantee 6 = .ok (.invokestatic 44, 3) := by decide +kernel
theorem dX6_guarantee_9 : decode cX6_guarantee 9 = .ok (.iaload, 1) := by decide +kernel
theorem dX6_guarantee_10 : decode cX6_guarantee 10 = .ok (.aload_n 0, 1) := by decide +kernel
theorem dX6_guarantee_11 : decode cX6_guarantee 11 = .ok (.getfield 7, 3) := by decide +kernel
theorem dX6_guarantee_14 : decode cX6_guarantee 14 = .ok (.iload_n 1, 1) := by decide +kernel
theorem dX6_guarantee_15 : decode cX6_guarantee 15 = .ok (.iconst 2, 1) := by decide +kernel
theorem dX6_guarantee_16 : decode cX6_guarantee 16 = .ok (.invokestatic 44, 3) := by decide +kernel
theorem dX6_guarantee_19 : decode cX6_guarantee 19 = .ok (.iaload, 1) := by decide +kernel
theorem dX6_guarantee_20 : decode cX6_guarantee 20 = .ok (.iadd, 1) := by decide +kernel
theorem dX6_guarantee_21 : decode cX6_guarantee 21 = .ok (.ireturn, 1) := by decide +kernel
theorem dX6_pool_0 : decode cX6_pool 0 = .ok (.aload_n 0, 1) := by decide +kernel
theorem dX6_pool_1 : decode cX6_pool 1 = .ok (.getfield 7, 3) := by decide +kernel
theorem dX6_pool_4 : decode cX6_pool 4 = .ok (.iconst 0, 1) := by decide +kernel
theorem dX6_pool_5 : decode cX6_pool 5 = .ok (.iaload, 1) := by decide +kernel
theorem dX6_pool_6 : decode cX6_pool 6 = .ok (.istore_n 1, 1) := by decide +kernel
theorem dX6_pool_7 : decode cX6_pool 7 = .ok (.iconst 0, 1) := by decide +kernel
theorem dX6_pool_8 : decode cX6_pool 8 = .ok (.istore_n 2, 1) := by decide +kernel
theorem dX6_pool_9 : decode cX6_pool 9 = .ok (.iload_n 2, 1) := by decide +kernel
theorem dX6_pool_10 : decode cX6_pool 10 = .ok (.aload_n 0, 1) := by decide +kernel
theorem dX6_pool_11 : decode cX6_pool 11 = .ok (.getfield 7, 3) := by decide +kernel
theorem dX6_pool_14 : decode cX6_pool 14 = .ok (.iconst 1, 1) := by decide +kernel
theorem dX6_pool_15 : decode cX6_pool 15 = .ok (.iaload, 1) := by decide +kernel
theorem dX6_pool_16 : decode cX6_pool 16 = .ok (.if_icmp .ge 28, 3) := by decide +kernel
theorem dX6_pool_19 : decode cX6_pool 19 = .ok (.iload_n 1, 1) := by decide +kernel
theorem dX6_pool_20 : decode cX6_pool 20 = .ok (.aload_n 0, 1) := by decide +kernel
theorem dX6_pool_21 : decode cX6_pool 21 = .ok (.iload_n 2, 1) := by decide +kernel
theorem dX6_pool_22 : decode cX6_pool 22 = .ok (.invokevirtual 51, 3) := by decide +kernel
theorem dX6_pool_25 : decode cX6_pool 25 = .ok (.aload_n 0, 1) := by decide +kernel
theorem dX6_pool_26 : decode cX6_pool 26 = .ok (.getfield 7, 3) := by decide +kernel
theorem dX6_pool_29 : decode cX6_pool 29 = .ok (.iload_n 2, 1) := by decide +kernel
theorem dX6_pool_30 : decode cX6_pool 30 = .ok (.iconst 1, 1) := by decide +kernel
theorem dX6_pool_31 : decode cX6_pool 31 = .ok (.invokestatic 44, 3) := by decide +kernel
theorem dX6_pool_34 : decode cX6_pool 34 = .ok (.iaload, 1) := by decide +kernel
theorem dX6_pool_35 : decode cX6_pool 35 = .ok (.iadd, 1) := by decide +kernel
theorem dX6_pool_36 : decode cX6_pool 36 = .ok (.isub, 1) := by decide +kernel
theorem dX6_pool_37 : decode cX6_pool 37 = .ok (.istore_n 1, 1) := by decide +kernel
theorem dX6_pool_38 : decode cX6_pool 38 = .ok (.iinc 2 1, 3) := by decide +kernel
theorem dX6_pool_41 : decode cX6_pool 41 = .ok (.goto (-32), 3) := by decide +kernel
theorem dX6_pool_44 : decode cX6_pool 44 = .ok (.iload_n 1, 1) := by decide +kernel
theorem dX6_pool_45 : decode cX6_pool 45 = .ok (.ireturn, 1) := by decide +kernel
theorem dX6_free_0 : decode cX6_free 0 = .ok (.aload_n 0, 1) := by decide +kernel
theorem dX6_free_1 : decode cX6_free 1 = .ok (.invokevirtual 55, 3) := by decide +kernel
theorem dX6_free_4 : decode cX6_free 4 = .ok (.istore_n 1, 1) := by decide +kernel
theorem dX6_free_5 : decode cX6_free 5 = .ok (.iconst 0, 1) := by decide +kernel
theorem dX6_free_6 : decode cX6_free 6 = .ok (.istore_n 2, 1) := by decide +kernel
theorem dX6_free_7 : decode cX6_free 7 = .ok (.iload_n 2, 1) := by decide +kernel
theorem dX6_free_8 : decode cX6_free 8 = .ok (.iconst 3, 1) := by decide +kernel
theorem dX6_free_9 : decode cX6_free 9 = .ok (.aload_n 0, 1) := by decide +kernel
theorem dX6_free_10 : decode cX6_free 10 = .ok (.getfield 7, 3) := by decide +kernel
theorem dX6_free_13 : decode cX6_free 13 = .ok (.iconst 1, 1) := by decide +kernel
theorem dX6_free_14 : decode cX6_free 14 = .ok (.iaload, 1) := by decide +kernel
theorem dX6_free_15 : decode cX6_free 15 = .ok (.imul, 1) := by decide +kernel
theorem dX6_free_16 : decode cX6_free 16 = .ok (.if_icmp .ge 23, 3) := by decide +kernel
theorem dX6_free_19 : decode cX6_free 19 = .ok (.iload_n 1, 1) := by decide +kernel
theorem dX6_free_20 : decode cX6_free 20 = .ok (.aload_n 0, 1) := by decide +kernel
theorem dX6_free_21 : decode cX6_free 21 = .ok (.getfield 7, 3) := by decide +kernel
theorem dX6_free_24 : decode cX6_free 24 = .ok (.iload_n 2, 1) := by decide +kernel
theorem dX6_free_25 : decode cX6_free 25 = .ok (.bipush 7, 2) := by decide +kernel
theorem dX6_free_27 : decode cX6_free 27 = .ok (.invokestatic 48, 3) := by decide +kernel
theorem dX6_free_30 : decode cX6_free 30 = .ok (.iaload, 1) := by decide +kernel
theorem dX6_free_31 : decode cX6_free 31 = .ok (.isub, 1) := by decide +kernel
theorem dX6_free_32 : decode cX6_free 32 = .ok (.istore_n 1, 1) := by decide +kernel
theorem dX6_free_33 : decode cX6_free 33 = .ok (.iinc 2 1, 3) := by decide +kernel
theorem dX6_free_36 : decode cX6_free 36 = .ok (.goto (-29), 3) := by decide +kernel
theorem dX6_free_39 : decode cX6_free 39 = .ok (.iload_n 1, 1) := by decide +kernel
theorem dX6_free_40 : decode cX6_free 40 = .ok (.ireturn, 1) := by decide +kernel
theorem dX6_freeOf_0 : decode cX6_freeOf 0 = .ok (.aload_n 0, 1) := by decide +kernel
theorem dX6_freeOf_1 : decode cX6_freeOf 1 = .ok (.iload_n 1, 1) := by decide +kernel
theorem dX6_freeOf_2 : decode cX6_freeOf 2 = .ok (.invokevirtual 51, 3) := by decide +kernel
theorem dX6_freeOf_5 : decode cX6_freeOf 5 = .ok (.aload_n 0, 1) := by decide +kernel
theorem dX6_freeOf_6 : decode cX6_freeOf 6 = .ok (.iload_n 1, 1) := by decide +kernel
theorem dX6_freeOf_7 : decode cX6_freeOf 7 = .ok (.bipush 6, 2) := by decide +kernel
theorem dX6_freeOf_9 : decode cX6_freeOf 9 = .ok (.invokevirtual 59, 3) := by decide +kernel
theorem dX6_freeOf_12 : decode cX6_freeOf 12 = .ok (.isub, 1) := by decide +kernel
theorem dX6_freeOf_13 : decode cX6_freeOf 13 = .ok (.ireturn, 1) := by decide +kernel
theorem dX6_limit_0 : decode cX6_limit 0 = .ok (.aload_n 0, 1) := by decide +kernel
theorem dX6_limit_1 : decode cX6_limit 1 = .ok (.getfield 7, 3) := by decide +kernel
theorem dX6_limit_4 : decode cX6_limit 4 = .ok (.iload_n 1, 1) := by decide +kernel
theorem dX6_limit_5 : decode cX6_limit 5 = .ok (.iconst 0, 1) := by decide +kernel
theorem dX6_limit_6 : decode cX6_limit 6 = .ok (.invokestatic 48, 3) := by decide +kernel
theorem dX6_limit_9 : decode cX6_limit 9 = .ok (.iaload, 1) := by decide +kernel
theorem dX6_limit_10 : decode cX6_limit 10 = .ok (.aload_n 0, 1) := by decide +kernel
theorem dX6_limit_11 : decode cX6_limit 11 = .ok (.invokevirtual 62, 3) := by decide +kernel
theorem dX6_limit_14 : decode cX6_limit 14 = .ok (.imul, 1) := by decide +kernel
theorem dX6_limit_15 : decode cX6_limit 15 = .ok (.bipush 8, 2) := by decide +kernel
theorem dX6_limit_17 : decode cX6_limit 17 = .ok (.idiv, 1) := by decide +kernel
theorem dX6_limit_18 : decode cX6_limit 18 = .ok (.ireturn, 1) := by decide +kernel
theorem dX6_converts_0 : decode cX6_converts 0 = .ok (.iconst 2, 1) := by decide +kernel
theorem dX6_converts_1 : decode cX6_converts 1 = .ok (.istore_n 2, 1) := by decide +kernel
theorem dX6_converts_2 : decode cX6_converts 2 = .ok (.iload_n 2, 1) := by decide +kernel
theorem dX6_converts_3 : decode cX6_converts 3 = .ok (.ifCond .lt 80, 3) := by decide +kernel
theorem dX6_converts_6 : decode cX6_converts 6 = .ok (.aload_n 0, 1) := by decide +kernel
theorem dX6_converts_7 : decode cX6_converts 7 = .ok (.iload_n 1, 1) := by decide +kernel
theorem dX6_converts_8 : decode cX6_converts 8 = .ok (.invokevirtual 65, 3) := by decide +kernel
theorem dX6_converts_11 : decode cX6_converts 11 = .ok (.ineg, 1) := by decide +kernel
theorem dX6_converts_12 : decode cX6_converts 12 = .ok (.istore_n 3, 1) := by decide +kernel
theorem dX6_converts_13 : decode cX6_converts 13 = .ok (.iconst 3, 1) := by decide +kernel
theorem dX6_converts_14 : decode cX6_converts 14 = .ok (.iload_n 1, 1) := by decide +kernel
theorem dX6_converts_15 : decode cX6_converts 15 = .ok (.imul, 1) := by decide +kernel
theorem dX6_converts_16 : decode cX6_converts 16 = .ok (.iload_n 2, 1) := by decide +kernel
theorem dX6_converts_17 : decode cX6_converts 17 = .ok (.iadd, 1) := by decide +kernel
theorem dX6_converts_18 : decode cX6_converts 18 = .ok (.istore 4, 2) := by decide +kernel
theorem dX6_converts_20 : decode cX6_converts 20 = .ok (.iload_n 3, 1) := by decide +kernel
theorem dX6_converts_21 : decode cX6_converts 21 = .ok (.aload_n 0, 1) := by decide +kernel
theorem dX6_converts_22 : decode cX6_converts 22 = .ok (.getfield 7, 3) := by decide +kernel
theorem dX6_converts_25 : decode cX6_converts 25 = .ok (.iload 4, 2) := by decide +kernel
theorem dX6_converts_27 : decode cX6_converts 27 = .ok (.bipush 6, 2) := by decide +kernel
theorem dX6_converts_29 : decode cX6_converts 29 = .ok (.invokestatic 48, 3) := by decide +kernel
theorem dX6_converts_32 : decode cX6_converts 32 = .ok (.iaload, 1) := by decide +kernel
theorem dX6_converts_33 : decode cX6_converts 33 = .ok (.invokestatic 68, 3) := by decide +kernel
theorem dX6_converts_36 : decode cX6_converts 36 = .ok (.istore 5, 2) := by decide +kernel
theorem dX6_converts_38 : decode cX6_converts 38 = .ok (.iload 5, 2) := by decide +kernel
theorem dX6_converts_40 : decode cX6_converts 40 = .ok (.ifCond .le 37, 3) := by decide +kernel
theorem dX6_converts_43 : decode cX6_converts 43 = .ok (.aload_n 0, 1) := by decide +kernel
theorem dX6_converts_44 : decode cX6_converts 44 = .ok (.getfield 7, 3) := by decide +kernel
theorem dX6_converts_47 : decode cX6_converts 47 = .ok (.iload 4, 2) := by decide +kernel
theorem dX6_converts_49 : decode cX6_converts 49 = .ok (.bipush 6, 2) := by decide +kernel
theorem dX6_converts_51 : decode cX6_converts 51 = .ok (.invokestatic 48, 3) := by decide +kernel
theorem dX6_converts_54 : decode cX6_converts 54 = .ok (.dup2, 1) := by decide +kernel
theorem dX6_converts_55 : decode cX6_converts 55 = .ok (.iaload, 1) := by decide +kernel
theorem dX6_converts_56 : decode cX6_converts 56 = .ok (.iload 5, 2) := by decide +kernel
theorem dX6_converts_58 : decode cX6_converts 58 = .ok (.isub, 1) := by decide +kernel
theorem dX6_converts_59 : decode cX6_converts 59 = .ok (.iastore, 1) := by decide +kernel
theorem dX6_converts_60 : decode cX6_converts 60 = .ok (.aload_n 0, 1) := by decide +kernel
theorem dX6_converts_61 : decode cX6_converts 61 = .ok (.getfield 7, 3) := by decide +kernel
theorem dX6_converts_64 : decode cX6_converts 64 = .ok (.iload 4, 2) := by decide +kernel
theorem dX6_converts_66 : decode cX6_converts 66 = .ok (.bipush 7, 2) := by decide +kernel
theorem dX6_converts_68 : decode cX6_converts 68 = .ok (.invokestatic 48, 3) := by decide +kernel
theorem dX6_converts_71 : decode cX6_converts 71 = .ok (.dup2, 1) := by decide +kernel
theorem dX6_converts_72 : decode cX6_converts 72 = .ok (.iaload, 1) := by decide +kernel
theorem dX6_converts_73 : decode cX6_converts 73 = .ok (.iload 5, 2) := by decide +kernel
theorem dX6_converts_75 : decode cX6_converts 75 = .ok (.iadd, 1) := by decide +kernel
theorem dX6_converts_76 : decode cX6_converts 76 = .ok (.iastore, 1) := by decide +kernel
theorem dX6_converts_77 : decode cX6_converts 77 = .ok (.iinc 2 (-1), 3) := by decide +kernel
theorem dX6_converts_80 : decode cX6_converts 80 = .ok (.goto (-78), 3) := by decide +kernel
theorem dX6_converts_83 : decode cX6_converts 83 = .ok (.return_, 1) := by decide +kernel
theorem dX6_reset_0 : decode cX6_reset 0 = .ok (.iload_n 1, 1) := by decide +kernel
theorem dX6_reset_1 : decode cX6_reset 1 = .ok (.bipush 16, 2) := by decide +kernel
theorem dX6_reset_3 : decode cX6_reset 3 = .ok (.sipush 128, 3) := by decide +kernel
theorem dX6_reset_6 : decode cX6_reset 6 = .ok (.invokestatic 36, 3) := by decide +kernel
theorem dX6_reset_9 : decode cX6_reset 9 = .ok (.ifCond .eq 13, 3) := by decide +kernel
theorem dX6_reset_12 : decode cX6_reset 12 = .ok (.iload_n 2, 1) := by decide +kernel
theorem dX6_reset_13 : decode cX6_reset 13 = .ok (.iconst 1, 1) := by decide +kernel
theorem dX6_reset_14 : decode cX6_reset 14 = .ok (.bipush 6, 2) := by decide +kernel
theorem dX6_reset_16 : decode cX6_reset 16 = .ok (.invokestatic 36, 3) := by decide +kernel
theorem dX6_reset_19 : decode cX6_reset 19 = .ok (.ifCond .ne 6, 3) := by decide +kernel
theorem dX6_reset_22 : decode cX6_reset 22 = .ok (.bipush (-2), 2) := by decide +kernel
theorem dX6_reset_24 : decode cX6_reset 24 = .ok (.ireturn, 1) := by decide +kernel
theorem dX6_reset_25 : decode cX6_reset 25 = .ok (.aload_n 0, 1) := by decide +kernel
theorem dX6_reset_26 : decode cX6_reset 26 = .ok (.getfield 7, 3) := by decide +kernel
theorem dX6_reset_29 : decode cX6_reset 29 = .ok (.iconst 0, 1) := by decide +kernel
theorem dX6_reset_30 : decode cX6_reset 30 = .ok (.iaload, 1) := by decide +kernel
theorem dX6_reset_31 : decode cX6_reset 31 = .ok (.istore_n 3, 1) := by decide +kernel
theorem dX6_reset_32 : decode cX6_reset 32 = .ok (.aload_n 0, 1) := by decide +kernel
theorem dX6_reset_33 : decode cX6_reset 33 = .ok (.iload_n 1, 1) := by decide +kernel
theorem dX6_reset_34 : decode cX6_reset 34 = .ok (.iload_n 2, 1) := by decide +kernel
theorem dX6_reset_35 : decode cX6_reset 35 = .ok (.invokevirtual 32, 3) := by decide +kernel
theorem dX6_reset_38 : decode cX6_reset 38 = .ok (.iload_n 3, 1) := by decide +kernel
theorem dX6_reset_39 : decode cX6_reset 39 = .ok (.ireturn, 1) := by decide +kernel
theorem dX6_setReserve_0 : decode cX6_setReserve 0 = .ok (.aload_n 0, 1) := by decide +kernel
theorem dX6_setReserve_1 : decode cX6_setReserve 1 = .ok (.iload_n 1, 1) := by decide +kernel
theorem dX6_setReserve_2 : decode cX6_setReserve 2 = .ok (.invokevirtual 40, 3) := by decide +kernel
theorem dX6_setReserve_5 : decode cX6_setReserve 5 = .ok (.ifCond .ne 5, 3) := by decide +kernel
theorem dX6_setReserve_8 : decode cX6_setReserve 8 = .ok (.iconst (-1), 1) := by decide +kernel
theorem dX6_setReserve_9 : decode cX6_setReserve 9 = .ok (.ireturn, 1) := by decide +kernel
theorem dX6_setReserve_10 : decode cX6_setReserve 10 = .ok (.iload_n 2, 1) := by decide +kernel
theorem dX6_setReserve_11 : decode cX6_setReserve 11 = .ok (.iconst 0, 1) := by decide +kernel
theorem dX6_setReserve_12 : decode cX6_setReserve 12 = .ok (.bipush 64, 2) := by decide +kernel
theorem dX6_setReserve_14 : decode cX6_setReserve 14 = .ok (.invokestatic 36, 3) := by decide +kernel
theorem dX6_setReserve_17 : decode cX6_setReserve 17 = .ok (.ifCond .ne 6, 3) := by decide +kernel
theorem dX6_setReserve_20 : decode cX6_setReserve 20 = .ok (.bipush (-2), 2) := by decide +kernel
theorem dX6_setReserve_22 : decode cX6_setReserve 22 = .ok (.ireturn, 1) := by decide +kernel
theorem dX6_setReserve_23 : decode cX6_setReserve 23 = .ok (.aload_n 0, 1) := by decide +kernel
theorem dX6_setReserve_24 : decode cX6_setReserve 24 = .ok (.getfield 7, 3) := by decide +kernel
theorem dX6_setReserve_27 : decode cX6_setReserve 27 = .ok (.iload_n 1, 1) := by decide +kernel
theorem dX6_setReserve_28 : decode cX6_setReserve 28 = .ok (.iconst 0, 1) := by decide +kernel
theorem dX6_setReserve_29 : decode cX6_setReserve 29 = .ok (.invokestatic 44, 3) := by decide +kernel
theorem dX6_setReserve_32 : decode cX6_setReserve 32 = .ok (.iaload, 1) := by decide +kernel
theorem dX6_setReserve_33 : decode cX6_setReserve 33 = .ok (.istore_n 3, 1) := by decide +kernel
theorem dX6_setReserve_34 : decode cX6_setReserve 34 = .ok (.iload_n 2, 1) := by decide +kernel
theorem dX6_setReserve_35 : decode cX6_setReserve 35 = .ok (.iload_n 3, 1) := by decide +kernel
theorem dX6_setReserve_36 : decode cX6_setReserve 36 = .ok (.isub, 1) := by decide +kernel
theorem dX6_setReserve_37 : decode cX6_setReserve 37 = .ok (.aload_n 0, 1) := by decide +kernel
theorem dX6_setReserve_38 : decode cX6_setReserve 38 = .ok (.invokevirtual 62, 3) := by decide +kernel
theorem dX6_setReserve_41 : decode cX6_setReserve 41 = .ok (.if_icmp .le 11, 3) := by decide +kernel
theorem dX6_setReserve_44 : decode cX6_setReserve 44 = .ok (.iload_n 2, 1) := by decide +kernel
theorem dX6_setReserve_45 : decode cX6_setReserve 45 = .ok (.iload_n 3, 1) := by decide +kernel
theorem dX6_setReserve_46 : decode cX6_setReserve 46 = .ok (.if_icmp .le 6, 3) := by decide +kernel
theorem dX6_setReserve_49 : decode cX6_setReserve 49 = .ok (.bipush (-3), 2) := by decide +kernel
theorem dX6_setReserve_51 : decode cX6_setReserve 51 = .ok (.ireturn, 1) := by decide +kernel
theorem dX6_setReserve_52 : decode cX6_setReserve 52 = .ok (.aload_n 0, 1) := by decide +kernel
theorem dX6_setReserve_53 : decode cX6_setReserve 53 = .ok (.getfield 7, 3) := by decide +kernel
theorem dX6_setReserve_56 : decode cX6_setReserve 56 = .ok (.iload_n 1, 1) := by decide +kernel
theorem dX6_setReserve_57 : decode cX6_setReserve 57 = .ok (.iconst 0, 1) := by decide +kernel
theorem dX6_setReserve_58 : decode cX6_setReserve 58 = .ok (.invokestatic 44, 3) := by decide +kernel
theorem dX6_setReserve_61 : decode cX6_setReserve 61 = .ok (.iload_n 2, 1) := by decide +kernel
theorem dX6_setReserve_62 : decode cX6_setReserve 62 = .ok (.iastore, 1) := by decide +kernel
theorem dX6_setReserve_63 : decode cX6_setReserve 63 = .ok (.aload_n 0, 1) := by decide +kernel
theorem dX6_setReserve_64 : decode cX6_setReserve 64 = .ok (.iload_n 1, 1) := by decide +kernel
theorem dX6_setReserve_65 : decode cX6_setReserve 65 = .ok (.invokevirtual 71, 3) := by decide +kernel
theorem dX6_setReserve_68 : decode cX6_setReserve 68 = .ok (.iload_n 3, 1) := by decide +kernel
theorem dX6_setReserve_69 : decode cX6_setReserve 69 = .ok (.ireturn, 1) := by decide +kernel
theorem dX6_setHeadroom_0 : decode cX6_setHeadroom 0 = .ok (.aload_n 0, 1) := by decide +kernel
theorem dX6_setHeadroom_1 : decode cX6_setHeadroom 1 = .ok (.iload_n 1, 1) := by decide +kernel
theorem dX6_setHeadroom_2 : decode cX6_setHeadroom 2 = .ok (.invokevirtual 40, 3) := by decide +kernel
theorem dX6_setHeadroom_5 : decode cX6_setHeadroom 5 = .ok (.ifCond .ne 5, 3) := by decide +kernel
theorem dX6_setHeadroom_8 : decode cX6_setHeadroom 8 = .ok (.iconst (-1), 1) := by decide +kernel
theorem dX6_setHeadroom_9 : decode cX6_setHeadroom 9 = .ok (.ireturn, 1) := by decide +kernel
theorem dX6_setHeadroom_10 : decode cX6_setHeadroom 10 = .ok (.iload_n 2, 1) := by decide +kernel
theorem dX6_setHeadroom_11 : decode cX6_setHeadroom 11 = .ok (.iconst 0, 1) := by decide +kernel
theorem dX6_setHeadroom_12 : decode cX6_setHeadroom 12 = .ok (.bipush 64, 2) := by decide +kernel
theorem dX6_setHeadroom_14 : decode cX6_setHeadroom 14 = .ok (.invokestatic 36, 3) := by decide +kernel
theorem dX6_setHeadroom_17 : decode cX6_setHeadroom 17 = .ok (.ifCond .ne 6, 3) := by decide +kernel
theorem dX6_setHeadroom_20 : decode cX6_setHeadroom 20 = .ok (.bipush (-2), 2) := by decide +kernel
theorem dX6_setHeadroom_22 : decode cX6_setHeadroom 22 = .ok (.ireturn, 1) := by decide +kernel
theorem dX6_setHeadroom_23 : decode cX6_setHeadroom 23 = .ok (.aload_n 0, 1) := by decide +kernel
theorem dX6_setHeadroom_24 : decode cX6_setHeadroom 24 = .ok (.getfield 7, 3) := by decide +kernel
theorem dX6_setHeadroom_27 : decode cX6_setHeadroom 27 = .ok (.iload_n 1, 1) := by decide +kernel
theorem dX6_setHeadroom_28 : decode cX6_setHeadroom 28 = .ok (.iconst 1, 1) := by decide +kernel
theorem dX6_setHeadroom_29 : decode cX6_setHeadroom 29 = .ok (.invokestatic 44, 3) := by decide +kernel
theorem dX6_setHeadroom_32 : decode cX6_setHeadroom 32 = .ok (.iaload, 1) := by decide +kernel
theorem dX6_setHeadroom_33 : decode cX6_setHeadroom 33 = .ok (.istore_n 3, 1) := by decide +kernel
theorem dX6_setHeadroom_34 : decode cX6_setHeadroom 34 = .ok (.aload_n 0, 1) := by decide +kernel
theorem dX6_setHeadroom_35 : decode cX6_setHeadroom 35 = .ok (.iload_n 1, 1) := by decide +kernel
theorem dX6_setHeadroom_36 : decode cX6_setHeadroom 36 = .ok (.bipush 8, 2) := by decide +kernel
theorem dX6_setHeadroom_38 : decode cX6_setHeadroom 38 = .ok (.invokevirtual 59, 3) := by decide +kernel
theorem dX6_setHeadroom_41 : decode cX6_setHeadroom 41 = .ok (.iload_n 2, 1) := by decide +kernel
theorem dX6_setHeadroom_42 : decode cX6_setHeadroom 42 = .ok (.if_icmp .le 6, 3) := by decide +kernel
theorem dX6_setHeadroom_45 : decode cX6_setHeadroom 45 = .ok (.bipush (-4), 2) := by decide +kernel
theorem dX6_setHeadroom_47 : decode cX6_setHeadroom 47 = .ok (.ireturn, 1) := by decide +kernel
theorem dX6_setHeadroom_48 : decode cX6_setHeadroom 48 = .ok (.iload_n 2, 1) := by decide +kernel
theorem dX6_setHeadroom_49 : decode cX6_setHeadroom 49 = .ok (.iload_n 3, 1) := by decide +kernel
theorem dX6_setHeadroom_50 : decode cX6_setHeadroom 50 = .ok (.if_icmp .le 16, 3) := by decide +kernel
theorem dX6_setHeadroom_53 : decode cX6_setHeadroom 53 = .ok (.iload_n 2, 1) := by decide +kernel
theorem dX6_setHeadroom_54 : decode cX6_setHeadroom 54 = .ok (.iload_n 3, 1) := by decide +kernel
theorem dX6_setHeadroom_55 : decode cX6_setHeadroom 55 = .ok (.isub, 1) := by decide +kernel
theorem dX6_setHeadroom_56 : decode cX6_setHeadroom 56 = .ok (.aload_n 0, 1) := by decide +kernel
theorem dX6_setHeadroom_57 : decode cX6_setHeadroom 57 = .ok (.invokevirtual 62, 3) := by decide +kernel
theorem dX6_setHeadroom_60 : decode cX6_setHeadroom 60 = .ok (.if_icmp .le 6, 3) := by decide +kernel
theorem dX6_setHeadroom_63 : decode cX6_setHeadroom 63 = .ok (.bipush (-3), 2) := by decide +kernel
theorem dX6_setHeadroom_65 : decode cX6_setHeadroom 65 = .ok (.ireturn, 1) := by decide +kernel
theorem dX6_setHeadroom_66 : decode cX6_setHeadroom 66 = .ok (.aload_n 0, 1) := by decide +kernel
theorem dX6_setHeadroom_67 : decode cX6_setHeadroom 67 = .ok (.getfield 7, 3) := by decide +kernel
theorem dX6_setHeadroom_70 : decode cX6_setHeadroom 70 = .ok (.iload_n 1, 1) := by decide +kernel
theorem dX6_setHeadroom_71 : decode cX6_setHeadroom 71 = .ok (.iconst 1, 1) := by decide +kernel
theorem dX6_setHeadroom_72 : decode cX6_setHeadroom 72 = .ok (.invokestatic 44, 3) := by decide +kernel
theorem dX6_setHeadroom_75 : decode cX6_setHeadroom 75 = .ok (.iload_n 2, 1) := by decide +kernel
theorem dX6_setHeadroom_76 : decode cX6_setHeadroom 76 = .ok (.iastore, 1) := by decide +kernel
theorem dX6_setHeadroom_77 : decode cX6_setHeadroom 77 = .ok (.iload_n 3, 1) := by decide +kernel
theorem dX6_setHeadroom_78 : decode cX6_setHeadroom 78 = .ok (.ireturn, 1) := by decide +kernel
theorem dX6_set_0 : decode cX6_set 0 = .ok (.aload_n 0, 1) := by decide +kernel
theorem dX6_set_1 : decode cX6_set 1 = .ok (.iload_n 1, 1) := by decide +kernel
theorem dX6_set_2 : decode cX6_set 2 = .ok (.iload_n 2, 1) := by decide +kernel
theorem dX6_set_3 : decode cX6_set 3 = .ok (.invokevirtual 75, 3) := by decide +kernel
theorem dX6_set_6 : decode cX6_set 6 = .ok (.ifCond .ne 5, 3) := by decide +kernel
theorem dX6_set_9 : decode cX6_set 9 = .ok (.iconst (-1), 1) := by decide +kernel
theorem dX6_set_10 : decode cX6_set 10 = .ok (.ireturn, 1) := by decide +kernel
theorem dX6_set_11 : decode cX6_set 11 = .ok (.iload 4, 2) := by decide +kernel
theorem dX6_set_13 : decode cX6_set 13 = .ok (.iload 5, 2) := by decide +kernel
theorem dX6_set_15 : decode cX6_set 15 = .ok (.iload 6, 2) := by decide +kernel
theorem dX6_set_17 : decode cX6_set 17 = .ok (.invokestatic 36, 3) := by decide +kernel
theorem dX6_set_20 : decode cX6_set 20 = .ok (.ifCond .ne 6, 3) := by decide +kernel
theorem dX6_set_23 : decode cX6_set 23 = .ok (.bipush (-2), 2) := by decide +kernel
theorem dX6_set_25 : decode cX6_set 25 = .ok (.ireturn, 1) := by decide +kernel
theorem dX6_set_26 : decode cX6_set 26 = .ok (.iconst 3, 1) := by decide +kernel
theorem dX6_set_27 : decode cX6_set 27 = .ok (.iload_n 1, 1) := by decide +kernel
theorem dX6_set_28 : decode cX6_set 28 = .ok (.imul, 1) := by decide +kernel
theorem dX6_set_29 : decode cX6_set 29 = .ok (.iload_n 2, 1) := by decide +kernel
theorem dX6_set_30 : decode cX6_set 30 = .ok (.iadd, 1) := by decide +kernel
theorem dX6_set_31 : decode cX6_set 31 = .ok (.iload_n 3, 1) := by decide +kernel
theorem dX6_set_32 : decode cX6_set 32 = .ok (.invokestatic 48, 3) := by decide +kernel
theorem dX6_set_35 : decode cX6_set 35 = .ok (.istore 7, 2) := by decide +kernel
theorem dX6_set_37 : decode cX6_set 37 = .ok (.aload_n 0, 1) := by decide +kernel
theorem dX6_set_38 : decode cX6_set 38 = .ok (.getfield 7, 3) := by decide +kernel
theorem dX6_set_41 : decode cX6_set 41 = .ok (.iload 7, 2) := by decide +kernel
theorem dX6_set_43 : decode cX6_set 43 = .ok (.iaload, 1) := by decide +kernel
theorem dX6_set_44 : decode cX6_set 44 = .ok (.istore 8, 2) := by decide +kernel
theorem dX6_set_46 : decode cX6_set 46 = .ok (.aload_n 0, 1) := by decide +kernel
theorem dX6_set_47 : decode cX6_set 47 = .ok (.getfield 7, 3) := by decide +kernel
theorem dX6_set_50 : decode cX6_set 50 = .ok (.iload 7, 2) := by decide +kernel
theorem dX6_set_52 : decode cX6_set 52 = .ok (.iload 4, 2) := by decide +kernel
theorem dX6_set_54 : decode cX6_set 54 = .ok (.iastore, 1) := by decide +kernel
theorem dX6_set_55 : decode cX6_set 55 = .ok (.iload 8, 2) := by decide +kernel
theorem dX6_set_57 : decode cX6_set 57 = .ok (.ireturn, 1) := by decide +kernel
theorem dX6_setAlpha_0 : decode cX6_setAlpha 0 = .ok (.aload_n 0, 1) := by decide +kernel
theorem dX6_setAlpha_1 : decode cX6_setAlpha 1 = .ok (.iload_n 1, 1) := by decide +kernel
theorem dX6_setAlpha_2 : decode cX6_setAlpha 2 = .ok (.iload_n 2, 1) := by decide +kernel
theorem dX6_setAlpha_3 : decode cX6_setAlpha 3 = .ok (.iconst 0, 1) := by decide +kernel
theorem dX6_setAlpha_4 : decode cX6_setAlpha 4 = .ok (.iload_n 3, 1) := by decide +kernel
theorem dX6_setAlpha_5 : decode cX6_setAlpha 5 = .ok (.iconst 0, 1) := by decide +kernel
theorem dX6_setAlpha_6 : decode cX6_setAlpha 6 = .ok (.bipush 64, 2) := by decide +kernel
theorem dX6_setAlpha_8 : decode cX6_setAlpha 8 = .ok (.invokevirtual 79, 3) := by decide +kernel
theorem dX6_setAlpha_11 : decode cX6_setAlpha 11 = .ok (.ireturn, 1) := by decide +kernel
theorem dX6_setBurst_0 : decode cX6_setBurst 0 = .ok (.aload_n 0, 1) := by decide +kernel
theorem dX6_setBurst_1 : decode cX6_setBurst 1 = .ok (.iload_n 1, 1) := by decide +kernel
theorem dX6_setBurst_2 : decode cX6_setBurst 2 = .ok (.iload_n 2, 1) := by decide +kernel
theorem dX6_setBurst_3 : decode cX6_setBurst 3 = .ok (.invokevirtual 75, 3) := by decide +kernel
theorem dX6_setBurst_6 : decode cX6_setBurst 6 = .ok (.ifCond .ne 5, 3) := by decide +kernel
theorem dX6_setBurst_9 : decode cX6_setBurst 9 = .ok (.iconst (-1), 1) := by decide +kernel
theorem dX6_setBurst_10 : decode cX6_setBurst 10 = .ok (.ireturn, 1) := by decide +kernel
theorem dX6_setBurst_11 : decode cX6_setBurst 11 = .ok (.iload_n 3, 1) := by decide +kernel
theorem dX6_setBurst_12 : decode cX6_setBurst 12 = .ok (.iconst 0, 1) := by decide +kernel
theorem dX6_setBurst_13 : decode cX6_setBurst 13 = .ok (.bipush 32, 2) := by decide +kernel
theorem dX6_setBurst_15 : decode cX6_setBurst 15 = .ok (.invokestatic 36, 3) := by decide +kernel
theorem dX6_setBurst_18 : decode cX6_setBurst 18 = .ok (.ifCond .eq 14, 3) := by decide +kernel
theorem dX6_setBurst_21 : decode cX6_setBurst 21 = .ok (.iload 4, 2) := by decide +kernel
theorem dX6_setBurst_23 : decode cX6_setBurst 23 = .ok (.iconst 0, 1) := by decide +kernel
theorem dX6_setBurst_24 : decode cX6_setBurst 24 = .ok (.bipush 8, 2) := by decide +kernel
theorem dX6_setBurst_26 : decode cX6_setBurst 26 = .ok (.invokestatic 36, 3) := by decide +kernel
theorem dX6_setBurst_29 : decode cX6_setBurst 29 = .ok (.ifCond .ne 6, 3) := by decide +kernel
theorem dX6_setBurst_32 : decode cX6_setBurst 32 = .ok (.bipush (-2), 2) := by decide +kernel
theorem dX6_setBurst_34 : decode cX6_setBurst 34 = .ok (.ireturn, 1) := by decide +kernel
theorem dX6_setBurst_35 : decode cX6_setBurst 35 = .ok (.iconst 3, 1) := by decide +kernel
theorem dX6_setBurst_36 : decode cX6_setBurst 36 = .ok (.iload_n 1, 1) := by decide +kernel
theorem dX6_setBurst_37 : decode cX6_setBurst 37 = .ok (.imul, 1) := by decide +kernel
theorem dX6_setBurst_38 : decode cX6_setBurst 38 = .ok (.iload_n 2, 1) := by decide +kernel
theorem dX6_setBurst_39 : decode cX6_setBurst 39 = .ok (.iadd, 1) := by decide +kernel
theorem dX6_setBurst_40 : decode cX6_setBurst 40 = .ok (.istore 5, 2) := by decide +kernel
theorem dX6_setBurst_42 : decode cX6_setBurst 42 = .ok (.aload_n 0, 1) := by decide +kernel
theorem dX6_setBurst_43 : decode cX6_setBurst 43 = .ok (.getfield 7, 3) := by decide +kernel
theorem dX6_setBurst_46 : decode cX6_setBurst 46 = .ok (.iload 5, 2) := by decide +kernel
theorem dX6_setBurst_48 : decode cX6_setBurst 48 = .ok (.iconst 3, 1) := by decide +kernel
theorem dX6_setBurst_49 : decode cX6_setBurst 49 = .ok (.invokestatic 48, 3) := by decide +kernel
theorem dX6_setBurst_52 : decode cX6_setBurst 52 = .ok (.iaload, 1) := by decide +kernel
theorem dX6_setBurst_53 : decode cX6_setBurst 53 = .ok (.istore 6, 2) := by decide +kernel
theorem dX6_setBurst_55 : decode cX6_setBurst 55 = .ok (.aload_n 0, 1) := by decide +kernel
theorem dX6_setBurst_56 : decode cX6_setBurst 56 = .ok (.getfield 7, 3) := by decide +kernel
theorem dX6_setBurst_59 : decode cX6_setBurst 59 = .ok (.iload 5, 2) := by decide +kernel
theorem dX6_setBurst_61 : decode cX6_setBurst 61 = .ok (.iconst 1, 1) := by decide +kernel
theorem dX6_setBurst_62 : decode cX6_setBurst 62 = .ok (.invokestatic 48, 3) := by decide +kernel
theorem dX6_setBurst_65 : decode cX6_setBurst 65 = .ok (.iload_n 3, 1) := by decide +kernel
theorem dX6_setBurst_66 : decode cX6_setBurst 66 = .ok (.iastore, 1) := by decide +kernel
theorem dX6_setBurst_67 : decode cX6_setBurst 67 = .ok (.aload_n 0, 1) := by decide +kernel
theorem dX6_setBurst_68 : decode cX6_setBurst 68 = .ok (.getfield 7, 3) := by decide +kernel
theorem dX6_setBurst_71 : decode cX6_setBurst 71 = .ok (.iload 5, 2) := by decide +kernel
theorem dX6_setBurst_73 : decode cX6_setBurst 73 = .ok (.iconst 2, 1) := by decide +kernel
theorem dX6_setBurst_74 : decode cX6_setBurst 74 = .ok (.invokestatic 48, 3) := by decide +kernel
theorem dX6_setBurst_77 : decode cX6_setBurst 77 = .ok (.iload 4, 2) := by decide +kernel
theorem dX6_setBurst_79 : decode cX6_setBurst 79 = .ok (.iastore, 1) := by decide +kernel
theorem dX6_setBurst_80 : decode cX6_setBurst 80 = .ok (.aload_n 0, 1) := by decide +kernel
theorem dX6_setBurst_81 : decode cX6_setBurst 81 = .ok (.getfield 7, 3) := by decide +kernel
theorem dX6_setBurst_84 : decode cX6_setBurst 84 = .ok (.iload 5, 2) := by decide +kernel
theorem dX6_setBurst_86 : decode cX6_setBurst 86 = .ok (.iconst 3, 1) := by decide +kernel
theorem dX6_setBurst_87 : decode cX6_setBurst 87 = .ok (.invokestatic 48, 3) := by decide +kernel
theorem dX6_setBurst_90 : decode cX6_setBurst 90 = .ok (.iload_n 3, 1) := by decide +kernel
theorem dX6_setBurst_91 : decode cX6_setBurst 91 = .ok (.iastore, 1) := by decide +kernel
theorem dX6_setBurst_92 : decode cX6_setBurst 92 = .ok (.iload 6, 2) := by decide +kernel
theorem dX6_setBurst_94 : decode cX6_setBurst 94 = .ok (.ireturn, 1) := by decide +kernel
theorem dX6_setLossless_0 : decode cX6_setLossless 0 = .ok (.aload_n 0, 1) := by decide +kernel
theorem dX6_setLossless_1 : decode cX6_setLossless 1 = .ok (.iload_n 1, 1) := by decide +kernel
theorem dX6_setLossless_2 : decode cX6_setLossless 2 = .ok (.iload_n 2, 1) := by decide +kernel
theorem dX6_setLossless_3 : decode cX6_setLossless 3 = .ok (.invokevirtual 75, 3) := by decide +kernel
theorem dX6_setLossless_6 : decode cX6_setLossless 6 = .ok (.ifCond .ne 5, 3) := by decide +kernel
theorem dX6_setLossless_9 : decode cX6_setLossless 9 = .ok (.iconst (-1), 1) := by decide +kernel
theorem dX6_setLossless_10 : decode cX6_setLossless 10 = .ok (.ireturn, 1) := by decide +kernel
theorem dX6_setLossless_11 : decode cX6_setLossless 11 = .ok (.iconst 3, 1) := by decide +kernel
theorem dX6_setLossless_12 : decode cX6_setLossless 12 = .ok (.iload_n 1, 1) := by decide +kernel
theorem dX6_setLossless_13 : decode cX6_setLossless 13 = .ok (.imul, 1) := by decide +kernel
theorem dX6_setLossless_14 : decode cX6_setLossless 14 = .ok (.iload_n 2, 1) := by decide +kernel
theorem dX6_setLossless_15 : decode cX6_setLossless 15 = .ok (.iadd, 1) := by decide +kernel
theorem dX6_setLossless_16 : decode cX6_setLossless 16 = .ok (.istore 4, 2) := by decide +kernel
theorem dX6_setLossless_18 : decode cX6_setLossless 18 = .ok (.iload_n 3, 1) := by decide +kernel
theorem dX6_setLossless_19 : decode cX6_setLossless 19 = .ok (.ifCond .ne 21, 3) := by decide +kernel
theorem dX6_setLossless_22 : decode cX6_setLossless 22 = .ok (.aload_n 0, 1) := by decide +kernel
theorem dX6_setLossless_23 : decode cX6_setLossless 23 = .ok (.getfield 7, 3) := by decide +kernel
theorem dX6_setLossless_26 : decode cX6_setLossless 26 = .ok (.iload 4, 2) := by decide +kernel
theorem dX6_setLossless_28 : decode cX6_setLossless 28 = .ok (.bipush 8, 2) := by decide +kernel
theorem dX6_setLossless_30 : decode cX6_setLossless 30 = .ok (.invokestatic 48, 3) := by decide +kernel
theorem dX6_setLossless_33 : decode cX6_setLossless 33 = .ok (.iaload, 1) := by decide +kernel
theorem dX6_setLossless_34 : decode cX6_setLossless 34 = .ok (.ifCond .le 6, 3) := by decide +kernel
theorem dX6_setLossless_37 : decode cX6_setLossless 37 = .ok (.bipush (-4), 2) := by decide +kernel
theorem dX6_setLossless_39 : decode cX6_setLossless 39 = .ok (.ireturn, 1) := by decide +kernel
theorem dX6_setLossless_40 : decode cX6_setLossless 40 = .ok (.aload_n 0, 1) := by decide +kernel
theorem dX6_setLossless_41 : decode cX6_setLossless 41 = .ok (.getfield 7, 3) := by decide +kernel
theorem dX6_setLossless_44 : decode cX6_setLossless 44 = .ok (.iload 4, 2) := by decide +kernel
theorem dX6_setLossless_46 : decode cX6_setLossless 46 = .ok (.bipush 9, 2) := by decide +kernel
theorem dX6_setLossless_48 : decode cX6_setLossless 48 = .ok (.invokestatic 48, 3) := by decide +kernel
theorem dX6_setLossless_51 : decode cX6_setLossless 51 = .ok (.iaload, 1) := by decide +kernel
theorem dX6_setLossless_52 : decode cX6_setLossless 52 = .ok (.istore 5, 2) := by decide +kernel
theorem dX6_setLossless_54 : decode cX6_setLossless 54 = .ok (.aload_n 0, 1) := by decide +kernel
theorem dX6_setLossless_55 : decode cX6_setLossless 55 = .ok (.getfield 7, 3) := by decide +kernel
theorem dX6_setLossless_58 : decode cX6_setLossless 58 = .ok (.iload 4, 2) := by decide +kernel
theorem dX6_setLossless_60 : decode cX6_setLossless 60 = .ok (.bipush 9, 2) := by decide +kernel
theorem dX6_setLossless_62 : decode cX6_setLossless 62 = .ok (.invokestatic 48, 3) := by decide +kernel
theorem dX6_setLossless_65 : decode cX6_setLossless 65 = .ok (.iload_n 3, 1) := by decide +kernel
theorem dX6_setLossless_66 : decode cX6_setLossless 66 = .ok (.ifCond .eq 7, 3) := by decide +kernel
theorem dX6_setLossless_69 : decode cX6_setLossless 69 = .ok (.iconst 1, 1) := by decide +kernel
theorem dX6_setLossless_70 : decode cX6_setLossless 70 = .ok (.goto 4, 3) := by decide +kernel
theorem dX6_setLossless_73 : decode cX6_setLossless 73 = .ok (.iconst 0, 1) := by decide +kernel
theorem dX6_setLossless_74 : decode cX6_setLossless 74 = .ok (.iastore, 1) := by decide +kernel
theorem dX6_setLossless_75 : decode cX6_setLossless 75 = .ok (.iload_n 3, 1) := by decide +kernel
theorem dX6_setLossless_76 : decode cX6_setLossless 76 = .ok (.ifCond .ne 16, 3) := by decide +kernel
theorem dX6_setLossless_79 : decode cX6_setLossless 79 = .ok (.aload_n 0, 1) := by decide +kernel
theorem dX6_setLossless_80 : decode cX6_setLossless 80 = .ok (.getfield 7, 3) := by decide +kernel
theorem dX6_setLossless_83 : decode cX6_setLossless 83 = .ok (.iload 4, 2) := by decide +kernel
theorem dX6_setLossless_85 : decode cX6_setLossless 85 = .ok (.bipush 10, 2) := by decide +kernel
theorem dX6_setLossless_87 : decode cX6_setLossless 87 = .ok (.invokestatic 48, 3) := by decide +kernel
theorem dX6_setLossless_90 : decode cX6_setLossless 90 = .ok (.iconst 0, 1) := by decide +kernel
theorem dX6_setLossless_91 : decode cX6_setLossless 91 = .ok (.iastore, 1) := by decide +kernel
theorem dX6_setLossless_92 : decode cX6_setLossless 92 = .ok (.iload 5, 2) := by decide +kernel
theorem dX6_setLossless_94 : decode cX6_setLossless 94 = .ok (.ireturn, 1) := by decide +kernel
theorem dX6_setScheduler_0 : decode cX6_setScheduler 0 = .ok (.aload_n 0, 1) := by decide +kernel
theorem dX6_setScheduler_1 : decode cX6_setScheduler 1 = .ok (.iload_n 1, 1) := by decide +kernel
theorem dX6_setScheduler_2 : decode cX6_setScheduler 2 = .ok (.invokevirtual 40, 3) := by decide +kernel
theorem dX6_setScheduler_5 : decode cX6_setScheduler 5 = .ok (.ifCond .ne 5, 3) := by decide +kernel
theorem dX6_setScheduler_8 : decode cX6_setScheduler 8 = .ok (.iconst (-1), 1) := by decide +kernel
theorem dX6_setScheduler_9 : decode cX6_setScheduler 9 = .ok (.ireturn, 1) := by decide +kernel
theorem dX6_setScheduler_10 : decode cX6_setScheduler 10 = .ok (.iload_n 3, 1) := by decide +kernel
theorem dX6_setScheduler_11 : decode cX6_setScheduler 11 = .ok (.iconst 0, 1) := by decide +kernel
theorem dX6_setScheduler_12 : decode cX6_setScheduler 12 = .ok (.bipush 16, 2) := by decide +kernel
theorem dX6_setScheduler_14 : decode cX6_setScheduler 14 = .ok (.invokestatic 36, 3) := by decide +kernel
theorem dX6_setScheduler_17 : decode cX6_setScheduler 17 = .ok (.ifCond .ne 6, 3) := by decide +kernel
theorem dX6_setScheduler_20 : decode cX6_setScheduler 20 = .ok (.bipush (-2), 2) := by decide +kernel
theorem dX6_setScheduler_22 : decode cX6_setScheduler 22 = .ok (.ireturn, 1) := by decide +kernel
theorem dX6_setScheduler_23 : decode cX6_setScheduler 23 = .ok (.aload_n 0, 1) := by decide +kernel
theorem dX6_setScheduler_24 : decode cX6_setScheduler 24 = .ok (.getfield 7, 3) := by decide +kernel
theorem dX6_setScheduler_27 : decode cX6_setScheduler 27 = .ok (.iload_n 1, 1) := by decide +kernel
theorem dX6_setScheduler_28 : decode cX6_setScheduler 28 = .ok (.iconst 5, 1) := by decide +kernel
theorem dX6_setScheduler_29 : decode cX6_setScheduler 29 = .ok (.invokestatic 44, 3) := by decide +kernel
theorem dX6_setScheduler_32 : decode cX6_setScheduler 32 = .ok (.iaload, 1) := by decide +kernel
theorem dX6_setScheduler_33 : decode cX6_setScheduler 33 = .ok (.istore 4, 2) := by decide +kernel
theorem dX6_setScheduler_35 : decode cX6_setScheduler 35 = .ok (.aload_n 0, 1) := by decide +kernel
theorem dX6_setScheduler_36 : decode cX6_setScheduler 36 = .ok (.getfield 7, 3) := by decide +kernel
theorem dX6_setScheduler_39 : decode cX6_setScheduler 39 = .ok (.iload_n 1, 1) := by decide +kernel
theorem dX6_setScheduler_40 : decode cX6_setScheduler 40 = .ok (.iconst 5, 1) := by decide +kernel
theorem dX6_setScheduler_41 : decode cX6_setScheduler 41 = .ok (.invokestatic 44, 3) := by decide +kernel
theorem dX6_setScheduler_44 : decode cX6_setScheduler 44 = .ok (.iload_n 3, 1) := by decide +kernel
theorem dX6_setScheduler_45 : decode cX6_setScheduler 45 = .ok (.iastore, 1) := by decide +kernel
theorem dX6_setScheduler_46 : decode cX6_setScheduler 46 = .ok (.aload_n 0, 1) := by decide +kernel
theorem dX6_setScheduler_47 : decode cX6_setScheduler 47 = .ok (.getfield 7, 3) := by decide +kernel
theorem dX6_setScheduler_50 : decode cX6_setScheduler 50 = .ok (.iload_n 1, 1) := by decide +kernel
theorem dX6_setScheduler_51 : decode cX6_setScheduler 51 = .ok (.bipush 8, 2) := by decide +kernel
theorem dX6_setScheduler_53 : decode cX6_setScheduler 53 = .ok (.invokestatic 44, 3) := by decide +kernel
theorem dX6_setScheduler_56 : decode cX6_setScheduler 56 = .ok (.iload_n 2, 1) := by decide +kernel
theorem dX6_setScheduler_57 : decode cX6_setScheduler 57 = .ok (.ifCond .eq 7, 3) := by decide +kernel
theorem dX6_setScheduler_60 : decode cX6_setScheduler 60 = .ok (.iconst 1, 1) := by decide +kernel
theorem dX6_setScheduler_61 : decode cX6_setScheduler 61 = .ok (.goto 4, 3) := by decide +kernel
theorem dX6_setScheduler_64 : decode cX6_setScheduler 64 = .ok (.iconst 0, 1) := by decide +kernel
theorem dX6_setScheduler_65 : decode cX6_setScheduler 65 = .ok (.iastore, 1) := by decide +kernel
theorem dX6_setScheduler_66 : decode cX6_setScheduler 66 = .ok (.iload 4, 2) := by decide +kernel
theorem dX6_setScheduler_68 : decode cX6_setScheduler 68 = .ok (.ireturn, 1) := by decide +kernel
theorem dX6_setQuantum_0 : decode cX6_setQuantum 0 = .ok (.aload_n 0, 1) := by decide +kernel
theorem dX6_setQuantum_1 : decode cX6_setQuantum 1 = .ok (.iload_n 1, 1) := by decide +kernel
theorem dX6_setQuantum_2 : decode cX6_setQuantum 2 = .ok (.iload_n 2, 1) := by decide +kernel
theorem dX6_setQuantum_3 : decode cX6_setQuantum 3 = .ok (.iconst 4, 1) := by decide +kernel
theorem dX6_setQuantum_4 : decode cX6_setQuantum 4 = .ok (.iload_n 3, 1) := by decide +kernel
theorem dX6_setQuantum_5 : decode cX6_setQuantum 5 = .ok (.iconst 1, 1) := by decide +kernel
theorem dX6_setQuantum_6 : decode cX6_setQuantum 6 = .ok (.bipush 16, 2) := by decide +kernel
theorem dX6_setQuantum_8 : decode cX6_setQuantum 8 = .ok (.invokevirtual 79, 3) := by decide +kernel
theorem dX6_setQuantum_11 : decode cX6_setQuantum 11 = .ok (.ireturn, 1) := by decide +kernel
theorem dX6_setPushOut_0 : decode cX6_setPushOut 0 = .ok (.aload_n 0, 1) := by decide +kernel
theorem dX6_setPushOut_1 : decode cX6_setPushOut 1 = .ok (.getfield 7, 3) := by decide +kernel
theorem dX6_setPushOut_4 : decode cX6_setPushOut 4 = .ok (.iconst 2, 1) := by decide +kernel
theorem dX6_setPushOut_5 : decode cX6_setPushOut 5 = .ok (.iaload, 1) := by decide +kernel
theorem dX6_setPushOut_6 : decode cX6_setPushOut 6 = .ok (.istore_n 2, 1) := by decide +kernel
theorem dX6_setPushOut_7 : decode cX6_setPushOut 7 = .ok (.aload_n 0, 1) := by decide +kernel
theorem dX6_setPushOut_8 : decode cX6_setPushOut 8 = .ok (.getfield 7, 3) := by decide +kernel
theorem dX6_setPushOut_11 : decode cX6_setPushOut 11 = .ok (.iconst 2, 1) := by decide +kernel
theorem dX6_setPushOut_12 : decode cX6_setPushOut 12 = .ok (.iload_n 1, 1) := by decide +kernel
theorem dX6_setPushOut_13 : decode cX6_setPushOut 13 = .ok (.ifCond .eq 7, 3) := by decide +kernel
theorem dX6_setPushOut_16 : decode cX6_setPushOut 16 = .ok (.iconst 1, 1) := by decide +kernel
theorem dX6_setPushOut_17 : decode cX6_setPushOut 17 = .ok (.goto 4, 3) := by decide +kernel
theorem dX6_setPushOut_20 : decode cX6_setPushOut 20 = .ok (.iconst 0, 1) := by decide +kernel
theorem dX6_setPushOut_21 : decode cX6_setPushOut 21 = .ok (.iastore, 1) := by decide +kernel
theorem dX6_setPushOut_22 : decode cX6_setPushOut 22 = .ok (.iload_n 2, 1) := by decide +kernel
theorem dX6_setPushOut_23 : decode cX6_setPushOut 23 = .ok (.ireturn, 1) := by decide +kernel
theorem dX6_drops_0 : decode cX6_drops 0 = .ok (.aload_n 0, 1) := by decide +kernel
theorem dX6_drops_1 : decode cX6_drops 1 = .ok (.getfield 7, 3) := by decide +kernel
theorem dX6_drops_4 : decode cX6_drops 4 = .ok (.iload_n 1, 1) := by decide +kernel
theorem dX6_drops_5 : decode cX6_drops 5 = .ok (.iconst 2, 1) := by decide +kernel
theorem dX6_drops_6 : decode cX6_drops 6 = .ok (.invokestatic 44, 3) := by decide +kernel
theorem dX6_drops_9 : decode cX6_drops 9 = .ok (.iconst 0, 1) := by decide +kernel
theorem dX6_drops_10 : decode cX6_drops 10 = .ok (.iastore, 1) := by decide +kernel
theorem dX6_drops_11 : decode cX6_drops 11 = .ok (.aload_n 0, 1) := by decide +kernel
theorem dX6_drops_12 : decode cX6_drops 12 = .ok (.getfield 7, 3) := by decide +kernel
theorem dX6_drops_15 : decode cX6_drops 15 = .ok (.iload_n 1, 1) := by decide +kernel
theorem dX6_drops_16 : decode cX6_drops 16 = .ok (.iconst 3, 1) := by decide +kernel
theorem dX6_drops_17 : decode cX6_drops 17 = .ok (.invokestatic 44, 3) := by decide +kernel
theorem dX6_drops_20 : decode cX6_drops 20 = .ok (.iconst 0, 1) := by decide +kernel
theorem dX6_drops_21 : decode cX6_drops 21 = .ok (.iastore, 1) := by decide +kernel
theorem dX6_drops_22 : decode cX6_drops 22 = .ok (.aload_n 0, 1) := by decide +kernel
theorem dX6_drops_23 : decode cX6_drops 23 = .ok (.iload_n 1, 1) := by decide +kernel
theorem dX6_drops_24 : decode cX6_drops 24 = .ok (.invokevirtual 71, 3) := by decide +kernel
theorem dX6_drops_27 : decode cX6_drops 27 = .ok (.return_, 1) := by decide +kernel
theorem dX6_grant_0 : decode cX6_grant 0 = .ok (.aload_n 0, 1) := by decide +kernel
theorem dX6_grant_1 : decode cX6_grant 1 = .ok (.iload_n 1, 1) := by decide +kernel
theorem dX6_grant_2 : decode cX6_grant 2 = .ok (.invokevirtual 40, 3) := by decide +kernel
theorem dX6_grant_5 : decode cX6_grant 5 = .ok (.ifCond .ne 5, 3) := by decide +kernel
theorem dX6_grant_8 : decode cX6_grant 8 = .ok (.iconst (-1), 1) := by decide +kernel
theorem dX6_grant_9 : decode cX6_grant 9 = .ok (.ireturn, 1) := by decide +kernel
theorem dX6_grant_10 : decode cX6_grant 10 = .ok (.iload_n 2, 1) := by decide +kernel
theorem dX6_grant_11 : decode cX6_grant 11 = .ok (.iconst 1, 1) := by decide +kernel
theorem dX6_grant_12 : decode cX6_grant 12 = .ok (.bipush 32, 2) := by decide +kernel
theorem dX6_grant_14 : decode cX6_grant 14 = .ok (.invokestatic 36, 3) := by decide +kernel
theorem dX6_grant_17 : decode cX6_grant 17 = .ok (.ifCond .ne 6, 3) := by decide +kernel
theorem dX6_grant_20 : decode cX6_grant 20 = .ok (.bipush (-2), 2) := by decide +kernel
theorem dX6_grant_22 : decode cX6_grant 22 = .ok (.ireturn, 1) := by decide +kernel
theorem dX6_grant_23 : decode cX6_grant 23 = .ok (.bipush (-5), 2) := by decide +kernel
theorem dX6_grant_25 : decode cX6_grant 25 = .ok (.istore_n 3, 1) := by decide +kernel
theorem dX6_grant_26 : decode cX6_grant 26 = .ok (.aload_n 0, 1) := by decide +kernel
theorem dX6_grant_27 : decode cX6_grant 27 = .ok (.getfield 7, 3) := by decide +kernel
theorem dX6_grant_30 : decode cX6_grant 30 = .ok (.iload_n 1, 1) := by decide +kernel
theorem dX6_grant_31 : decode cX6_grant 31 = .ok (.iconst 3, 1) := by decide +kernel
theorem dX6_grant_32 : decode cX6_grant 32 = .ok (.invokestatic 44, 3) := by decide +kernel
theorem dX6_grant_35 : decode cX6_grant 35 = .ok (.iaload, 1) := by decide +kernel
theorem dX6_grant_36 : decode cX6_grant 36 = .ok (.ifCond .ne 93, 3) := by decide +kernel
theorem dX6_grant_39 : decode cX6_grant 39 = .ok (.iconst 0, 1) := by decide +kernel
theorem dX6_grant_40 : decode cX6_grant 40 = .ok (.istore 4, 2) := by decide +kernel
theorem dX6_grant_42 : decode cX6_grant 42 = .ok (.iconst 0, 1) := by decide +kernel
theorem dX6_grant_43 : decode cX6_grant 43 = .ok (.istore 5, 2) := by decide +kernel
theorem dX6_grant_45 : decode cX6_grant 45 = .ok (.iload 5, 2) := by decide +kernel
theorem dX6_grant_47 : decode cX6_grant 47 = .ok (.aload_n 0, 1) := by decide +kernel
theorem dX6_grant_48 : decode cX6_grant 48 = .ok (.getfield 7, 3) := by decide +kernel
theorem dX6_grant_51 : decode cX6_grant 51 = .ok (.iconst 1, 1) := by decide +kernel
theorem dX6_grant_52 : decode cX6_grant 52 = .ok (.iaload, 1) := by decide +kernel
theorem dX6_grant_53 : decode cX6_grant 53 = .ok (.if_icmp .ge 63, 3) := by decide +kernel
theorem dX6_grant_56 : decode cX6_grant 56 = .ok (.aload_n 0, 1) := by decide +kernel
theorem dX6_grant_57 : decode cX6_grant 57 = .ok (.getfield 7, 3) := by decide +kernel
theorem dX6_grant_60 : decode cX6_grant 60 = .ok (.iload 5, 2) := by decide +kernel
theorem dX6_grant_62 : decode cX6_grant 62 = .ok (.iconst 3, 1) := by decide +kernel
theorem dX6_grant_63 : decode cX6_grant 63 = .ok (.invokestatic 44, 3) := by decide +kernel
theorem dX6_grant_66 : decode cX6_grant 66 = .ok (.iaload, 1) := by decide +kernel
theorem dX6_grant_67 : decode cX6_grant 67 = .ok (.ifCond .le 43, 3) := by decide +kernel
theorem dX6_grant_70 : decode cX6_grant 70 = .ok (.iinc 4 1, 3) := by decide +kernel
theorem dX6_grant_73 : decode cX6_grant 73 = .ok (.iload_n 3, 1) := by decide +kernel
theorem dX6_grant_74 : decode cX6_grant 74 = .ok (.bipush (-5), 2) := by decide +kernel
theorem dX6_grant_76 : decode cX6_grant 76 = .ok (.if_icmp .eq 27, 3) := by decide +kernel
theorem dX6_grant_79 : decode cX6_grant 79 = .ok (.aload_n 0, 1) := by decide +kernel
theorem dX6_grant_80 : decode cX6_grant 80 = .ok (.getfield 7, 3) := by decide +kernel
theorem dX6_grant_83 : decode cX6_grant 83 = .ok (.iload 5, 2) := by decide +kernel
theorem dX6_grant_85 : decode cX6_grant 85 = .ok (.iconst 3, 1) := by decide +kernel
theorem dX6_grant_86 : decode cX6_grant 86 = .ok (.invokestatic 44, 3) := by decide +kernel
theorem dX6_grant_89 : decode cX6_grant 89 = .ok (.iaload, 1) := by decide +kernel
theorem dX6_grant_90 : decode cX6_grant 90 = .ok (.aload_n 0, 1) := by decide +kernel
theorem dX6_grant_91 : decode cX6_grant 91 = .ok (.getfield 7, 3) := by decide +kernel
theorem dX6_grant_94 : decode cX6_grant 94 = .ok (.iload_n 3, 1) := by decide +kernel
theorem dX6_grant_95 : decode cX6_grant 95 = .ok (.iconst 3, 1) := by decide +kernel
theorem dX6_grant_96 : decode cX6_grant 96 = .ok (.invokestatic 44, 3) := by decide +kernel
theorem dX6_grant_99 : decode cX6_grant 99 = .ok (.iaload, 1) := by decide +kernel
theorem dX6_grant_100 : decode cX6_grant 100 = .ok (.if_icmp .ge 8, 3) := by decide +kernel
theorem dX6_grant_103 : decode cX6_grant 103 = .ok (.iload 5, 2) := by decide +kernel
theorem dX6_grant_105 : decode cX6_grant 105 = .ok (.goto 4, 3) := by decide +kernel
theorem dX6_grant_108 : decode cX6_grant 108 = .ok (.iload_n 3, 1) := by decide +kernel
theorem dX6_grant_109 : decode cX6_grant 109 = .ok (.istore_n 3, 1) := by decide +kernel
theorem dX6_grant_110 : decode cX6_grant 110 = .ok (.iinc 5 1, 3) := by decide +kernel
theorem dX6_grant_113 : decode cX6_grant 113 = .ok (.goto (-68), 3) := by decide +kernel
theorem dX6_grant_116 : decode cX6_grant 116 = .ok (.iload 4, 2) := by decide +kernel
theorem dX6_grant_118 : decode cX6_grant 118 = .ok (.iconst 2, 1) := by decide +kernel
theorem dX6_grant_119 : decode cX6_grant 119 = .ok (.if_icmp .ge 8, 3) := by decide +kernel
theorem dX6_grant_122 : decode cX6_grant 122 = .ok (.bipush (-5), 2) := by decide +kernel
theorem dX6_grant_124 : decode cX6_grant 124 = .ok (.goto 4, 3) := by decide +kernel
theorem dX6_grant_127 : decode cX6_grant 127 = .ok (.iload_n 3, 1) := by decide +kernel
theorem dX6_grant_128 : decode cX6_grant 128 = .ok (.istore_n 3, 1) := by decide +kernel
theorem dX6_grant_129 : decode cX6_grant 129 = .ok (.aload_n 0, 1) := by decide +kernel
theorem dX6_grant_130 : decode cX6_grant 130 = .ok (.invokevirtual 83, 3) := by decide +kernel
theorem dX6_grant_133 : decode cX6_grant 133 = .ok (.iload_n 3, 1) := by decide +kernel
theorem dX6_grant_134 : decode cX6_grant 134 = .ok (.bipush (-5), 2) := by decide +kernel
theorem dX6_grant_136 : decode cX6_grant 136 = .ok (.if_icmp .eq 8, 3) := by decide +kernel
theorem dX6_grant_139 : decode cX6_grant 139 = .ok (.aload_n 0, 1) := by decide +kernel
theorem dX6_grant_140 : decode cX6_grant 140 = .ok (.iload_n 3, 1) := by decide +kernel
theorem dX6_grant_141 : decode cX6_grant 141 = .ok (.invokevirtual 86, 3) := by decide +kernel
theorem dX6_grant_144 : decode cX6_grant 144 = .ok (.iload_n 2, 1) := by decide +kernel
theorem dX6_grant_145 : decode cX6_grant 145 = .ok (.aload_n 0, 1) := by decide +kernel
theorem dX6_grant_146 : decode cX6_grant 146 = .ok (.getfield 7, 3) := by decide +kernel
theorem dX6_grant_149 : decode cX6_grant 149 = .ok (.iload_n 1, 1) := by decide +kernel
theorem dX6_grant_150 : decode cX6_grant 150 = .ok (.iconst 2, 1) := by decide +kernel
theorem dX6_grant_151 : decode cX6_grant 151 = .ok (.invokestatic 44, 3) := by decide +kernel
theorem dX6_grant_154 : decode cX6_grant 154 = .ok (.iaload, 1) := by decide +kernel
theorem dX6_grant_155 : decode cX6_grant 155 = .ok (.isub, 1) := by decide +kernel
theorem dX6_grant_156 : decode cX6_grant 156 = .ok (.istore 4, 2) := by decide +kernel
theorem dX6_grant_158 : decode cX6_grant 158 = .ok (.iload 4, 2) := by decide +kernel
theorem dX6_grant_160 : decode cX6_grant 160 = .ok (.ifCond .le 19, 3) := by decide +kernel
theorem dX6_grant_163 : decode cX6_grant 163 = .ok (.iload 4, 2) := by decide +kernel
theorem dX6_grant_165 : decode cX6_grant 165 = .ok (.aload_n 0, 1) := by decide +kernel
theorem dX6_grant_166 : decode cX6_grant 166 = .ok (.invokevirtual 62, 3) := by decide +kernel
theorem dX6_grant_169 : decode cX6_grant 169 = .ok (.if_icmp .le 10, 3) := by decide +kernel
theorem dX6_grant_172 : decode cX6_grant 172 = .ok (.aload_n 0, 1) := by decide +kernel
theorem dX6_grant_173 : decode cX6_grant 173 = .ok (.invokevirtual 89, 3) := by decide +kernel
theorem dX6_grant_176 : decode cX6_grant 176 = .ok (.bipush (-3), 2) := by decide +kernel
theorem dX6_grant_178 : decode cX6_grant 178 = .ok (.ireturn, 1) := by decide +kernel
theorem dX6_grant_179 : decode cX6_grant 179 = .ok (.aload_n 0, 1) := by decide +kernel
theorem dX6_grant_180 : decode cX6_grant 180 = .ok (.getfield 7, 3) := by decide +kernel
theorem dX6_grant_183 : decode cX6_grant 183 = .ok (.iload_n 1, 1) := by decide +kernel
theorem dX6_grant_184 : decode cX6_grant 184 = .ok (.iconst 3, 1) := by decide +kernel
theorem dX6_grant_185 : decode cX6_grant 185 = .ok (.invokestatic 44, 3) := by decide +kernel
theorem dX6_grant_188 : decode cX6_grant 188 = .ok (.iaload, 1) := by decide +kernel
theorem dX6_grant_189 : decode cX6_grant 189 = .ok (.ifCond .ne 31, 3) := by decide +kernel
theorem dX6_grant_192 : decode cX6_grant 192 = .ok (.aload_n 0, 1) := by decide +kernel
theorem dX6_grant_193 : decode cX6_grant 193 = .ok (.getfield 7, 3) := by decide +kernel
theorem dX6_grant_196 : decode cX6_grant 196 = .ok (.bipush 10, 2) := by decide +kernel
theorem dX6_grant_198 : decode cX6_grant 198 = .ok (.dup2, 1) := by decide +kernel
theorem dX6_grant_199 : decode cX6_grant 199 = .ok (.iaload, 1) := by decide +kernel
theorem dX6_grant_200 : decode cX6_grant 200 = .ok (.iconst 1, 1) := by decide +kernel
theorem dX6_grant_201 : decode cX6_grant 201 = .ok (.iadd, 1) := by decide +kernel
theorem dX6_grant_202 : decode cX6_grant 202 = .ok (.iastore, 1) := by decide +kernel
theorem dX6_grant_203 : decode cX6_grant 203 = .ok (.aload_n 0, 1) := by decide +kernel
theorem dX6_grant_204 : decode cX6_grant 204 = .ok (.getfield 7, 3) := by decide +kernel
theorem dX6_grant_207 : decode cX6_grant 207 = .ok (.iload_n 1, 1) := by decide +kernel
theorem dX6_grant_208 : decode cX6_grant 208 = .ok (.iconst 3, 1) := by decide +kernel
theorem dX6_grant_209 : decode cX6_grant 209 = .ok (.invokestatic 44, 3) := by decide +kernel
theorem dX6_grant_212 : decode cX6_grant 212 = .ok (.aload_n 0, 1) := by decide +kernel
theorem dX6_grant_213 : decode cX6_grant 213 = .ok (.getfield 7, 3) := by decide +kernel
theorem dX6_grant_216 : decode cX6_grant 216 = .ok (.bipush 10, 2) := by decide +kernel
theorem dX6_grant_218 : decode cX6_grant 218 = .ok (.iaload, 1) := by decide +kernel
theorem dX6_grant_219 : decode cX6_grant 219 = .ok (.iastore, 1) := by decide +kernel
theorem dX6_grant_220 : decode cX6_grant 220 = .ok (.aload_n 0, 1) := by decide +kernel
theorem dX6_grant_221 : decode cX6_grant 221 = .ok (.getfield 7, 3) := by decide +kernel
theorem dX6_grant_224 : decode cX6_grant 224 = .ok (.iload_n 1, 1) := by decide +kernel
theorem dX6_grant_225 : decode cX6_grant 225 = .ok (.iconst 2, 1) := by decide +kernel
theorem dX6_grant_226 : decode cX6_grant 226 = .ok (.invokestatic 44, 3) := by decide +kernel
theorem dX6_grant_229 : decode cX6_grant 229 = .ok (.iload_n 2, 1) := by decide +kernel
theorem dX6_grant_230 : decode cX6_grant 230 = .ok (.iastore, 1) := by decide +kernel
theorem dX6_grant_231 : decode cX6_grant 231 = .ok (.aload_n 0, 1) := by decide +kernel
theorem dX6_grant_232 : decode cX6_grant 232 = .ok (.iload_n 1, 1) := by decide +kernel
theorem dX6_grant_233 : decode cX6_grant 233 = .ok (.invokevirtual 71, 3) := by decide +kernel
theorem dX6_grant_236 : decode cX6_grant 236 = .ok (.iload_n 3, 1) := by decide +kernel
theorem dX6_grant_237 : decode cX6_grant 237 = .ok (.ireturn, 1) := by decide +kernel
theorem dX6_withdraw_0 : decode cX6_withdraw 0 = .ok (.aload_n 0, 1) := by decide +kernel
theorem dX6_withdraw_1 : decode cX6_withdraw 1 = .ok (.iload_n 1, 1) := by decide +kernel
theorem dX6_withdraw_2 : decode cX6_withdraw 2 = .ok (.invokevirtual 40, 3) := by decide +kernel
theorem dX6_withdraw_5 : decode cX6_withdraw 5 = .ok (.ifCond .ne 5, 3) := by decide +kernel
theorem dX6_withdraw_8 : decode cX6_withdraw 8 = .ok (.iconst (-1), 1) := by decide +kernel
theorem dX6_withdraw_9 : decode cX6_withdraw 9 = .ok (.ireturn, 1) := by decide +kernel
theorem dX6_withdraw_10 : decode cX6_withdraw 10 = .ok (.aload_n 0, 1) := by decide +kernel
theorem dX6_withdraw_11 : decode cX6_withdraw 11 = .ok (.getfield 7, 3) := by decide +kernel
theorem dX6_withdraw_14 : decode cX6_withdraw 14 = .ok (.iload_n 1, 1) := by decide +kernel
theorem dX6_withdraw_15 : decode cX6_withdraw 15 = .ok (.iconst 3, 1) := by decide +kernel
theorem dX6_withdraw_16 : decode cX6_withdraw 16 = .ok (.invokestatic 44, 3) := by decide +kernel
theorem dX6_withdraw_19 : decode cX6_withdraw 19 = .ok (.iaload, 1) := by decide +kernel
theorem dX6_withdraw_20 : decode cX6_withdraw 20 = .ok (.ifCond .ne 6, 3) := by decide +kernel
theorem dX6_withdraw_23 : decode cX6_withdraw 23 = .ok (.bipush (-5), 2) := by decide +kernel
theorem dX6_withdraw_25 : decode cX6_withdraw 25 = .ok (.ireturn, 1) := by decide +kernel
theorem dX6_withdraw_26 : decode cX6_withdraw 26 = .ok (.aload_n 0, 1) := by decide +kernel
theorem dX6_withdraw_27 : decode cX6_withdraw 27 = .ok (.getfield 7, 3) := by decide +kernel
theorem dX6_withdraw_30 : decode cX6_withdraw 30 = .ok (.iload_n 1, 1) := by decide +kernel
theorem dX6_withdraw_31 : decode cX6_withdraw 31 = .ok (.iconst 2, 1) := by decide +kernel
theorem dX6_withdraw_32 : decode cX6_withdraw 32 = .ok (.invokestatic 44, 3) := by decide +kernel
theorem dX6_withdraw_35 : decode cX6_withdraw 35 = .ok (.iaload, 1) := by decide +kernel
theorem dX6_withdraw_36 : decode cX6_withdraw 36 = .ok (.istore_n 2, 1) := by decide +kernel
theorem dX6_withdraw_37 : decode cX6_withdraw 37 = .ok (.aload_n 0, 1) := by decide +kernel
theorem dX6_withdraw_38 : decode cX6_withdraw 38 = .ok (.iload_n 1, 1) := by decide +kernel
theorem dX6_withdraw_39 : decode cX6_withdraw 39 = .ok (.invokevirtual 86, 3) := by decide +kernel
theorem dX6_withdraw_42 : decode cX6_withdraw 42 = .ok (.iload_n 2, 1) := by decide +kernel
theorem dX6_withdraw_43 : decode cX6_withdraw 43 = .ok (.ireturn, 1) := by decide +kernel
theorem dX6_keeps_0 : decode cX6_keeps 0 = .ok (.iconst 0, 1) := by decide +kernel
theorem dX6_keeps_1 : decode cX6_keeps 1 = .ok (.istore_n 1, 1) := by decide +kernel
theorem dX6_keeps_2 : decode cX6_keeps 2 = .ok (.iload_n 1, 1) := by decide +kernel
theorem dX6_keeps_3 : decode cX6_keeps 3 = .ok (.sipush 6464, 3) := by decide +kernel
theorem dX6_keeps_6 : decode cX6_keeps 6 = .ok (.if_icmp .ge 21, 3) := by decide +kernel
theorem dX6_keeps_9 : decode cX6_keeps 9 = .ok (.aload_n 0, 1) := by decide +kernel
theorem dX6_keeps_10 : decode cX6_keeps 10 = .ok (.getfield 13, 3) := by decide +kernel
theorem dX6_keeps_13 : decode cX6_keeps 13 = .ok (.iload_n 1, 1) := by decide +kernel
theorem dX6_keeps_14 : decode cX6_keeps 14 = .ok (.aload_n 0, 1) := by decide +kernel
theorem dX6_keeps_15 : decode cX6_keeps 15 = .ok (.getfield 7, 3) := by decide +kernel
theorem dX6_keeps_18 : decode cX6_keeps 18 = .ok (.iload_n 1, 1) := by decide +kernel
theorem dX6_keeps_19 : decode cX6_keeps 19 = .ok (.iaload, 1) := by decide +kernel
theorem dX6_keeps_20 : decode cX6_keeps 20 = .ok (.iastore, 1) := by decide +kernel
theorem dX6_keeps_21 : decode cX6_keeps 21 = .ok (.iinc 1 1, 3) := by decide +kernel
theorem dX6_keeps_24 : decode cX6_keeps 24 = .ok (.goto (-22), 3) := by decide +kernel
theorem dX6_keeps_27 : decode cX6_keeps 27 = .ok (.return_, 1) := by decide +kernel
theorem dX6_brings_0 : decode cX6_brings 0 = .ok (.iconst 0, 1) := by decide +kernel
theorem dX6_brings_1 : decode cX6_brings 1 = .ok (.istore_n 1, 1) := by decide +kernel
theorem dX6_brings_2 : decode cX6_brings 2 = .ok (.iload_n 1, 1) := by decide +kernel
theorem dX6_brings_3 : decode cX6_brings 3 = .ok (.sipush 6464, 3) := by decide +kernel
theorem dX6_brings_6 : decode cX6_brings 6 = .ok (.if_icmp .ge 21, 3) := by decide +kernel
theorem dX6_brings_9 : decode cX6_brings 9 = .ok (.aload_n 0, 1) := by decide +kernel
theorem dX6_brings_10 : decode cX6_brings 10 = .ok (.getfield 7, 3) := by decide +kernel
theorem dX6_brings_13 : decode cX6_brings 13 = .ok (.iload_n 1, 1) := by decide +kernel
theorem dX6_brings_14 : decode cX6_brings 14 = .ok (.aload_n 0, 1) := by decide +kernel
theorem dX6_brings_15 : decode cX6_brings 15 = .ok (.getfield 13, 3) := by decide +kernel
theorem dX6_brings_18 : decode cX6_brings 18 = .ok (.iload_n 1, 1) := by decide +kernel
theorem dX6_brings_19 : decode cX6_brings 19 = .ok (.iaload, 1) := by decide +kernel
theorem dX6_brings_20 : decode cX6_brings 20 = .ok (.iastore, 1) := by decide +kernel
theorem dX6_brings_21 : decode cX6_brings 21 = .ok (.iinc 1 1, 3) := by decide +kernel
theorem dX6_brings_24 : decode cX6_brings 24 = .ok (.goto (-22), 3) := by decide +kernel
theorem dX6_brings_27 : decode cX6_brings 27 = .ok (.return_, 1) := by decide +kernel
theorem dX6_slotOf_0 : decode cX6_slotOf 0 = .ok (.iconst 0, 1) := by decide +kernel
theorem dX6_slotOf_1 : decode cX6_slotOf 1 = .ok (.istore_n 2, 1) := by decide +kernel
theorem dX6_slotOf_2 : decode cX6_slotOf 2 = .ok (.iload_n 2, 1) := by decide +kernel
theorem dX6_slotOf_3 : decode cX6_slotOf 3 = .ok (.sipush 128, 3) := by decide +kernel
theorem dX6_slotOf_6 : decode cX6_slotOf 6 = .ok (.if_icmp .ge 39, 3) := by decide +kernel
theorem dX6_slotOf_9 : decode cX6_slotOf 9 = .ok (.aload_n 0, 1) := by decide +kernel
theorem dX6_slotOf_10 : decode cX6_slotOf 10 = .ok (.getfield 7, 3) := by decide +kernel
theorem dX6_slotOf_13 : decode cX6_slotOf 13 = .ok (.iload_n 2, 1) := by decide +kernel
theorem dX6_slotOf_14 : decode cX6_slotOf 14 = .ok (.iconst 3, 1) := by decide +kernel
theorem dX6_slotOf_15 : decode cX6_slotOf 15 = .ok (.invokestatic 92, 3) := by decide +kernel
theorem dX6_slotOf_18 : decode cX6_slotOf 18 = .ok (.iaload, 1) := by decide +kernel
theorem dX6_slotOf_19 : decode cX6_slotOf 19 = .ok (.iconst 1, 1) := by decide +kernel
theorem dX6_slotOf_20 : decode cX6_slotOf 20 = .ok (.if_icmp .ne 19, 3) := by decide +kernel
theorem dX6_slotOf_23 : decode cX6_slotOf 23 = .ok (.aload_n 0, 1) := by decide +kernel
theorem dX6_slotOf_24 : decode cX6_slotOf 24 = .ok (.getfield 7, 3) := by decide +kernel
theorem dX6_slotOf_27 : decode cX6_slotOf 27 = .ok (.iload_n 2, 1) := by decide +kernel
theorem dX6_slotOf_28 : decode cX6_slotOf 28 = .ok (.iconst 0, 1) := by decide +kernel
theorem dX6_slotOf_29 : decode cX6_slotOf 29 = .ok (.invokestatic 92, 3) := by decide +kernel
theorem dX6_slotOf_32 : decode cX6_slotOf 32 = .ok (.iaload, 1) := by decide +kernel
theorem dX6_slotOf_33 : decode cX6_slotOf 33 = .ok (.iload_n 1, 1) := by decide +kernel
theorem dX6_slotOf_34 : decode cX6_slotOf 34 = .ok (.if_icmp .ne 5, 3) := by decide +kernel
theorem dX6_slotOf_37 : decode cX6_slotOf 37 = .ok (.iload_n 2, 1) := by decide +kernel
theorem dX6_slotOf_38 : decode cX6_slotOf 38 = .ok (.ireturn, 1) := by decide +kernel
theorem dX6_slotOf_39 : decode cX6_slotOf 39 = .ok (.iinc 2 1, 3) := by decide +kernel
theorem dX6_slotOf_42 : decode cX6_slotOf 42 = .ok (.goto (-40), 3) := by decide +kernel
theorem dX6_slotOf_45 : decode cX6_slotOf 45 = .ok (.iconst (-1), 1) := by decide +kernel
theorem dX6_slotOf_46 : decode cX6_slotOf 46 = .ok (.ireturn, 1) := by decide +kernel
theorem dX6_newSlot_0 : decode cX6_newSlot 0 = .ok (.iconst 0, 1) := by decide +kernel
theorem dX6_newSlot_1 : decode cX6_newSlot 1 = .ok (.istore_n 1, 1) := by decide +kernel
theorem dX6_newSlot_2 : decode cX6_newSlot 2 = .ok (.aload_n 0, 1) := by decide +kernel
theorem dX6_newSlot_3 : decode cX6_newSlot 3 = .ok (.getfield 7, 3) := by decide +kernel
theorem dX6_newSlot_6 : decode cX6_newSlot 6 = .ok (.iload_n 1, 1) := by decide +kernel
theorem dX6_newSlot_7 : decode cX6_newSlot 7 = .ok (.iconst 3, 1) := by decide +kernel
theorem dX6_newSlot_8 : decode cX6_newSlot 8 = .ok (.invokestatic 92, 3) := by decide +kernel
theorem dX6_newSlot_11 : decode cX6_newSlot 11 = .ok (.iaload, 1) := by decide +kernel
theorem dX6_newSlot_12 : decode cX6_newSlot 12 = .ok (.iconst 1, 1) := by decide +kernel
theorem dX6_newSlot_13 : decode cX6_newSlot 13 = .ok (.if_icmp .ne 9, 3) := by decide +kernel
theorem dX6_newSlot_16 : decode cX6_newSlot 16 = .ok (.iinc 1 1, 3) := by decide +kernel
theorem dX6_newSlot_19 : decode cX6_newSlot 19 = .ok (.goto (-17), 3) := by decide +kernel
theorem dX6_newSlot_22 : decode cX6_newSlot 22 = .ok (.iload_n 1, 1) := by decide +kernel
theorem dX6_newSlot_23 : decode cX6_newSlot 23 = .ok (.ireturn, 1) := by decide +kernel
theorem dX6_isFree_0 : decode cX6_isFree 0 = .ok (.iload_n 1, 1) := by decide +kernel
theorem dX6_isFree_1 : decode cX6_isFree 1 = .ok (.aload_n 0, 1) := by decide +kernel
theorem dX6_isFree_2 : decode cX6_isFree 2 = .ok (.getfield 7, 3) := by decide +kernel
theorem dX6_isFree_5 : decode cX6_isFree 5 = .ok (.iconst 0, 1) := by decide +kernel
theorem dX6_isFree_6 : decode cX6_isFree 6 = .ok (.iaload, 1) := by decide +kernel
theorem dX6_isFree_7 : decode cX6_isFree 7 = .ok (.if_icmp .ge 20, 3) := by decide +kernel
theorem dX6_isFree_10 : decode cX6_isFree 10 = .ok (.aload_n 0, 1) := by decide +kernel
theorem dX6_isFree_11 : decode cX6_isFree 11 = .ok (.getfield 7, 3) := by decide +kernel
theorem dX6_isFree_14 : decode cX6_isFree 14 = .ok (.sipush 6336, 3) := by decide +kernel
theorem dX6_isFree_17 : decode cX6_isFree 17 = .ok (.iload_n 1, 1) := by decide +kernel
theorem dX6_isFree_18 : decode cX6_isFree 18 = .ok (.iadd, 1) := by decide +kernel
theorem dX6_isFree_19 : decode cX6_isFree 19 = .ok (.iaload, 1) := by decide +kernel
theorem dX6_isFree_20 : decode cX6_isFree 20 = .ok (.ifCond .ne 7, 3) := by decide +kernel
theorem dX6_isFree_23 : decode cX6_isFree 23 = .ok (.iconst 1, 1) := by decide +kernel
theorem dX6_isFree_24 : decode cX6_isFree 24 = .ok (.goto 4, 3) := by decide +kernel
theorem dX6_isFree_27 : decode cX6_isFree 27 = .ok (.iconst 0, 1) := by decide +kernel
theorem dX6_isFree_28 : decode cX6_isFree 28 = .ok (.ireturn, 1) := by decide +kernel
theorem dX6_runAt_0 : decode cX6_runAt 0 = .ok (.aload_n 0, 1) := by decide +kernel
theorem dX6_runAt_1 : decode cX6_runAt 1 = .ok (.iload_n 1, 1) := by decide +kernel
theorem dX6_runAt_2 : decode cX6_runAt 2 = .ok (.invokevirtual 95, 3) := by decide +kernel
theorem dX6_runAt_5 : decode cX6_runAt 5 = .ok (.ifCond .eq 17, 3) := by decide +kernel
theorem dX6_runAt_8 : decode cX6_runAt 8 = .ok (.iload_n 1, 1) := by decide +kernel
theorem dX6_runAt_9 : decode cX6_runAt 9 = .ok (.ifCond .le 15, 3) := by decide +kernel
theorem dX6_runAt_12 : decode cX6_runAt 12 = .ok (.aload_n 0, 1) := by decide +kernel
theorem dX6_runAt_13 : decode cX6_runAt 13 = .ok (.iload_n 1, 1) := by decide +kernel
theorem dX6_runAt_14 : decode cX6_runAt 14 = .ok (.iconst 1, 1) := by decide +kernel
theorem dX6_runAt_15 : decode cX6_runAt 15 = .ok (.isub, 1) := by decide +kernel
theorem dX6_runAt_16 : decode cX6_runAt 16 = .ok (.invokevirtual 95, 3) := by decide +kernel
theorem dX6_runAt_19 : decode cX6_runAt 19 = .ok (.ifCond .eq 5, 3) := by decide +kernel
theorem dX6_runAt_22 : decode cX6_runAt 22 = .ok (.iconst 0, 1) := by decide +kernel
theorem dX6_runAt_23 : decode cX6_runAt 23 = .ok (.ireturn, 1) := by decide +kernel
theorem dX6_runAt_24 : decode cX6_runAt 24 = .ok (.iconst 0, 1) := by decide +kernel
theorem dX6_runAt_25 : decode cX6_runAt 25 = .ok (.istore_n 2, 1) := by decide +kernel
theorem dX6_runAt_26 : decode cX6_runAt 26 = .ok (.aload_n 0, 1) := by decide +kernel
theorem dX6_runAt_27 : decode cX6_runAt 27 = .ok (.iload_n 1, 1) := by decide +kernel
theorem dX6_runAt_28 : decode cX6_runAt 28 = .ok (.iload_n 2, 1) := by decide +kernel
theorem dX6_runAt_29 : decode cX6_runAt 29 = .ok (.iadd, 1) := by decide +kernel
theorem dX6_runAt_30 : decode cX6_runAt 30 = .ok (.invokevirtual 95, 3) := by decide +kernel
theorem dX6_runAt_33 : decode cX6_runAt 33 = .ok (.ifCond .eq 9, 3) := by decide +kernel
theorem dX6_runAt_36 : decode cX6_runAt 36 = .ok (.iinc 2 1, 3) := by decide +kernel
theorem dX6_runAt_39 : decode cX6_runAt 39 = .ok (.goto (-13), 3) := by decide +kernel
theorem dX6_runAt_42 : decode cX6_runAt 42 = .ok (.iload_n 2, 1) := by decide +kernel
theorem dX6_runAt_43 : decode cX6_runAt 43 = .ok (.ireturn, 1) := by decide +kernel
theorem dX6_places_0 : decode cX6_places 0 = .ok (.aload_n 0, 1) := by decide +kernel
theorem dX6_places_1 : decode cX6_places 1 = .ok (.getfield 7, 3) := by decide +kernel
theorem dX6_places_4 : decode cX6_places 4 = .ok (.iload_n 1, 1) := by decide +kernel
theorem dX6_places_5 : decode cX6_places 5 = .ok (.iconst 1, 1) := by decide +kernel
theorem dX6_places_6 : decode cX6_places 6 = .ok (.invokestatic 92, 3) := by decide +kernel
theorem dX6_places_9 : decode cX6_places 9 = .ok (.iaload, 1) := by decide +kernel
theorem dX6_places_10 : decode cX6_places 10 = .ok (.istore_n 2, 1) := by decide +kernel
theorem dX6_places_11 : decode cX6_places 11 = .ok (.iload_n 2, 1) := by decide +kernel
theorem dX6_places_12 : decode cX6_places 12 = .ok (.ifCond .le 211, 3) := by decide +kernel
theorem dX6_places_15 : decode cX6_places 15 = .ok (.iconst (-1), 1) := by decide +kernel
theorem dX6_places_16 : decode cX6_places 16 = .ok (.istore_n 3, 1) := by decide +kernel
theorem dX6_places_17 : decode cX6_places 17 = .ok (.iconst (-1), 1) := by decide +kernel
theorem dX6_places_18 : decode cX6_places 18 = .ok (.istore 4, 2) := by decide +kernel
theorem dX6_places_20 : decode cX6_places 20 = .ok (.iconst 0, 1) := by decide +kernel
theorem dX6_places_21 : decode cX6_places 21 = .ok (.istore 5, 2) := by decide +kernel
theorem dX6_places_23 : decode cX6_places 23 = .ok (.iload 5, 2) := by decide +kernel
theorem dX6_places_25 : decode cX6_places 25 = .ok (.aload_n 0, 1) := by decide +kernel
theorem dX6_places_26 : decode cX6_places 26 = .ok (.getfield 7, 3) := by decide +kernel
theorem dX6_places_29 : decode cX6_places 29 = .ok (.iconst 0, 1) := by decide +kernel
theorem dX6_places_30 : decode cX6_places 30 = .ok (.iaload, 1) := by decide +kernel
theorem dX6_places_31 : decode cX6_places 31 = .ok (.if_icmp .ge 65, 3) := by decide +kernel
theorem dX6_places_34 : decode cX6_places 34 = .ok (.aload_n 0, 1) := by decide +kernel
theorem dX6_places_35 : decode cX6_places 35 = .ok (.iload 5, 2) := by decide +kernel
theorem dX6_places_37 : decode cX6_places 37 = .ok (.invokevirtual 98, 3) := by decide +kernel
theorem dX6_places_40 : decode cX6_places 40 = .ok (.istore 6, 2) := by decide +kernel
theorem dX6_places_42 : decode cX6_places 42 = .ok (.iload 6, 2) := by decide +kernel
theorem dX6_places_44 : decode cX6_places 44 = .ok (.iload_n 2, 1) := by decide +kernel
theorem dX6_places_45 : decode cX6_places 45 = .ok (.if_icmp .lt 20, 3) := by decide +kernel
theorem dX6_places_48 : decode cX6_places 48 = .ok (.iload_n 3, 1) := by decide +kernel
theorem dX6_places_49 : decode cX6_places 49 = .ok (.ifCond .lt 13, 3) := by decide +kernel
theorem dX6_places_52 : decode cX6_places 52 = .ok (.iload 6, 2) := by decide +kernel
theorem dX6_places_54 : decode cX6_places 54 = .ok (.aload_n 0, 1) := by decide +kernel
theorem dX6_places_55 : decode cX6_places 55 = .ok (.iload_n 3, 1) := by decide +kernel
theorem dX6_places_56 : decode cX6_places 56 = .ok (.invokevirtual 98, 3) := by decide +kernel
theorem dX6_places_59 : decode cX6_places 59 = .ok (.if_icmp .ge 6, 3) := by decide +kernel
theorem dX6_places_62 : decode cX6_places 62 = .ok (.iload 5, 2) := by decide +kernel
theorem dX6_places_64 : decode cX6_places 64 = .ok (.istore_n 3, 1) := by decide +kernel
theorem dX6_places_65 : decode cX6_places 65 = .ok (.iload 6, 2) := by decide +kernel
theorem dX6_places_67 : decode cX6_places 67 = .ok (.ifCond .le 23, 3) := by decide +kernel
theorem dX6_places_70 : decode cX6_places 70 = .ok (.iload 4, 2) := by decide +kernel
theorem dX6_places_72 : decode cX6_places 72 = .ok (.ifCond .lt 14, 3) := by decide +kernel
theorem dX6_places_75 : decode cX6_places 75 = .ok (.iload 6, 2) := by decide +kernel
theorem dX6_places_77 : decode cX6_places 77 = .ok (.aload_n 0, 1) := by decide +kernel
theorem dX6_places_78 : decode cX6_places 78 = .ok (.iload 4, 2) := by decide +kernel
theorem dX6_places_80 : decode cX6_places 80 = .ok (.invokevirtual 98, 3) := by decide +kernel
theorem dX6_places_83 : decode cX6_places 83 = .ok (.if_icmp .le 7, 3) := by decide +kernel
theorem dX6_places_86 : decode cX6_places 86 = .ok (.iload 5, 2) := by decide +kernel
theorem dX6_places_88 : decode cX6_places 88 = .ok (.istore 4, 2) := by decide +kernel
theorem dX6_places_90 : decode cX6_places 90 = .ok (.iinc 5 1, 3) := by decide +kernel
theorem dX6_places_93 : decode cX6_places 93 = .ok (.goto (-70), 3) := by decide +kernel
theorem dX6_places_96 : decode cX6_places 96 = .ok (.iload_n 3, 1) := by decide +kernel
theorem dX6_places_97 : decode cX6_places 97 = .ok (.ifCond .lt 7, 3) := by decide +kernel
theorem dX6_places_100 : decode cX6_places 100 = .ok (.iload_n 3, 1) := by decide +kernel
theorem dX6_places_101 : decode cX6_places 101 = .ok (.goto 5, 3) := by decide +kernel
theorem dX6_places_104 : decode cX6_places 104 = .ok (.iload 4, 2) := by decide +kernel
theorem dX6_places_106 : decode cX6_places 106 = .ok (.istore 5, 2) := by decide +kernel
theorem dX6_places_108 : decode cX6_places 108 = .ok (.iload_n 3, 1) := by decide +kernel
theorem dX6_places_109 : decode cX6_places 109 = .ok (.ifCond .lt 7, 3) := by decide +kernel
theorem dX6_places_112 : decode cX6_places 112 = .ok (.iload_n 2, 1) := by decide +kernel
theorem dX6_places_113 : decode cX6_places 113 = .ok (.goto 9, 3) := by decide +kernel
theorem dX6_places_116 : decode cX6_places 116 = .ok (.aload_n 0, 1) := by decide +kernel
theorem dX6_places_117 : decode cX6_places 117 = .ok (.iload 4, 2) := by decide +kernel
theorem dX6_places_119 : decode cX6_places 119 = .ok (.invokevirtual 98, 3) := by decide +kernel
theorem dX6_places_122 : decode cX6_places 122 = .ok (.istore 6, 2) := by decide +kernel
theorem dX6_places_124 : decode cX6_places 124 = .ok (.aload_n 0, 1) := by decide +kernel
theorem dX6_places_125 : decode cX6_places 125 = .ok (.getfield 7, 3) := by decide +kernel
theorem dX6_places_128 : decode cX6_places 128 = .ok (.iload_n 1, 1) := by decide +kernel
theorem dX6_places_129 : decode cX6_places 129 = .ok (.iconst 2, 1) := by decide +kernel
theorem dX6_places_130 : decode cX6_places 130 = .ok (.invokestatic 92, 3) := by decide +kernel
theorem dX6_places_133 : decode cX6_places 133 = .ok (.iaload, 1) := by decide +kernel
theorem dX6_places_134 : decode cX6_places 134 = .ok (.istore 7, 2) := by decide +kernel
theorem dX6_places_136 : decode cX6_places 136 = .ok (.aload_n 0, 1) := by decide +kernel
theorem dX6_places_137 : decode cX6_places 137 = .ok (.getfield 7, 3) := by decide +kernel
theorem dX6_places_140 : decode cX6_places 140 = .ok (.iload_n 1, 1) := by decide +kernel
theorem dX6_places_141 : decode cX6_places 141 = .ok (.iconst 4, 1) := by decide +kernel
theorem dX6_places_142 : decode cX6_places 142 = .ok (.iload 7, 2) := by decide +kernel
theorem dX6_places_144 : decode cX6_places 144 = .ok (.iadd, 1) := by decide +kernel
theorem dX6_places_145 : decode cX6_places 145 = .ok (.invokestatic 92, 3) := by decide +kernel
theorem dX6_places_148 : decode cX6_places 148 = .ok (.iload 5, 2) := by decide +kernel
theorem dX6_places_150 : decode cX6_places 150 = .ok (.iastore, 1) := by decide +kernel
theorem dX6_places_151 : decode cX6_places 151 = .ok (.aload_n 0, 1) := by decide +kernel
theorem dX6_places_152 : decode cX6_places 152 = .ok (.getfield 7, 3) := by decide +kernel
theorem dX6_places_155 : decode cX6_places 155 = .ok (.iload_n 1, 1) := by decide +kernel
theorem dX6_places_156 : decode cX6_places 156 = .ok (.bipush 16, 2) := by decide +kernel
theorem dX6_places_158 : decode cX6_places 158 = .ok (.iload 7, 2) := by decide +kernel
theorem dX6_places_160 : decode cX6_places 160 = .ok (.iadd, 1) := by decide +kernel
theorem dX6_places_161 : decode cX6_places 161 = .ok (.invokestatic 92, 3) := by decide +kernel
theorem dX6_places_164 : decode cX6_places 164 = .ok (.iload 6, 2) := by decide +kernel
theorem dX6_places_166 : decode cX6_places 166 = .ok (.iastore, 1) := by decide +kernel
theorem dX6_places_167 : decode cX6_places 167 = .ok (.aload_n 0, 1) := by decide +kernel
theorem dX6_places_168 : decode cX6_places 168 = .ok (.getfield 7, 3) := by decide +kernel
theorem dX6_places_171 : decode cX6_places 171 = .ok (.iload_n 1, 1) := by decide +kernel
theorem dX6_places_172 : decode cX6_places 172 = .ok (.iconst 2, 1) := by decide +kernel
theorem dX6_places_173 : decode cX6_places 173 = .ok (.invokestatic 92, 3) := by decide +kernel
theorem dX6_places_176 : decode cX6_places 176 = .ok (.dup2, 1) := by decide +kernel
theorem dX6_places_177 : decode cX6_places 177 = .ok (.iaload, 1) := by decide +kernel
theorem dX6_places_178 : decode cX6_places 178 = .ok (.iconst 1, 1) := by decide +kernel
theorem dX6_places_179 : decode cX6_places 179 = .ok (.iadd, 1) := by decide +kernel
theorem dX6_places_180 : decode cX6_places 180 = .ok (.iastore, 1) := by decide +kernel
theorem dX6_places_181 : decode cX6_places 181 = .ok (.iload 5, 2) := by decide +kernel
theorem dX6_places_183 : decode cX6_places 183 = .ok (.istore 8, 2) := by decide +kernel
theorem dX6_places_185 : decode cX6_places 185 = .ok (.iload 8, 2) := by decide +kernel
theorem dX6_places_187 : decode cX6_places 187 = .ok (.iload 5, 2) := by decide +kernel
theorem dX6_places_189 : decode cX6_places 189 = .ok (.iload 6, 2) := by decide +kernel
theorem dX6_places_191 : decode cX6_places 191 = .ok (.iadd, 1) := by decide +kernel
theorem dX6_places_192 : decode cX6_places 192 = .ok (.if_icmp .ge 23, 3) := by decide +kernel
theorem dX6_places_195 : decode cX6_places 195 = .ok (.aload_n 0, 1) := by decide +kernel
theorem dX6_places_196 : decode cX6_places 196 = .ok (.getfield 7, 3) := by decide +kernel
theorem dX6_places_199 : decode cX6_places 199 = .ok (.sipush 6336, 3) := by decide +kernel
theorem dX6_places_202 : decode cX6_places 202 = .ok (.iload 8, 2) := by decide +kernel
theorem dX6_places_204 : decode cX6_places 204 = .ok (.iadd, 1) := by decide +kernel
theorem dX6_places_205 : decode cX6_places 205 = .ok (.iload_n 1, 1) := by decide +kernel
theorem dX6_places_206 : decode cX6_places 206 = .ok (.iconst 1, 1) := by decide +kernel
theorem dX6_places_207 : decode cX6_places 207 = .ok (.iadd, 1) := by decide +kernel
theorem dX6_places_208 : decode cX6_places 208 = .ok (.iastore, 1) := by decide +kernel
theorem dX6_places_209 : decode cX6_places 209 = .ok (.iinc 8 1, 3) := by decide +kernel
theorem dX6_places_212 : decode cX6_places 212 = .ok (.goto (-27), 3) := by decide +kernel
theorem dX6_places_215 : decode cX6_places 215 = .ok (.iload_n 2, 1) := by decide +kernel
theorem dX6_places_216 : decode cX6_places 216 = .ok (.iload 6, 2) := by decide +kernel
theorem dX6_places_218 : decode cX6_places 218 = .ok (.isub, 1) := by decide +kernel
theorem dX6_places_219 : decode cX6_places 219 = .ok (.istore_n 2, 1) := by decide +kernel
theorem dX6_places_220 : decode cX6_places 220 = .ok (.goto (-209), 3) := by decide +kernel
theorem dX6_places_223 : decode cX6_places 223 = .ok (.return_, 1) := by decide +kernel
theorem dX6_enters_0 : decode cX6_enters 0 = .ok (.aload_n 0, 1) := by decide +kernel
theorem dX6_enters_1 : decode cX6_enters 1 = .ok (.invokevirtual 101, 3) := by decide +kernel
theorem dX6_enters_4 : decode cX6_enters 4 = .ok (.istore_n 3, 1) := by decide +kernel
theorem dX6_enters_5 : decode cX6_enters 5 = .ok (.aload_n 0, 1) := by decide +kernel
theorem dX6_enters_6 : decode cX6_enters 6 = .ok (.getfield 7, 3) := by decide +kernel
theorem dX6_enters_9 : decode cX6_enters 9 = .ok (.iload_n 3, 1) := by decide +kernel
theorem dX6_enters_10 : decode cX6_enters 10 = .ok (.iconst 0, 1) := by decide +kernel
theorem dX6_enters_11 : decode cX6_enters 11 = .ok (.invokestatic 92, 3) := by decide +kernel
theorem dX6_enters_14 : decode cX6_enters 14 = .ok (.aload_n 0, 1) := by decide +kernel
theorem dX6_enters_15 : decode cX6_enters 15 = .ok (.getfield 7, 3) := by decide +kernel
theorem dX6_enters_18 : decode cX6_enters 18 = .ok (.iconst 4, 1) := by decide +kernel
theorem dX6_enters_19 : decode cX6_enters 19 = .ok (.iaload, 1) := by decide +kernel
theorem dX6_enters_20 : decode cX6_enters 20 = .ok (.iastore, 1) := by decide +kernel
theorem dX6_enters_21 : decode cX6_enters 21 = .ok (.aload_n 0, 1) := by decide +kernel
theorem dX6_enters_22 : decode cX6_enters 22 = .ok (.getfield 7, 3) := by decide +kernel
theorem dX6_enters_25 : decode cX6_enters 25 = .ok (.iload_n 3, 1) := by decide +kernel
theorem dX6_enters_26 : decode cX6_enters 26 = .ok (.iconst 1, 1) := by decide +kernel
theorem dX6_enters_27 : decode cX6_enters 27 = .ok (.invokestatic 92, 3) := by decide +kernel
theorem dX6_enters_30 : decode cX6_enters 30 = .ok (.iload_n 2, 1) := by decide +kernel
theorem dX6_enters_31 : decode cX6_enters 31 = .ok (.iastore, 1) := by decide +kernel
theorem dX6_enters_32 : decode cX6_enters 32 = .ok (.aload_n 0, 1) := by decide +kernel
theorem dX6_enters_33 : decode cX6_enters 33 = .ok (.getfield 7, 3) := by decide +kernel
theorem dX6_enters_36 : decode cX6_enters 36 = .ok (.iload_n 3, 1) := by decide +kernel
theorem dX6_enters_37 : decode cX6_enters 37 = .ok (.iconst 2, 1) := by decide +kernel
theorem dX6_enters_38 : decode cX6_enters 38 = .ok (.invokestatic 92, 3) := by decide +kernel
theorem dX6_enters_41 : decode cX6_enters 41 = .ok (.iconst 0, 1) := by decide +kernel
theorem dX6_enters_42 : decode cX6_enters 42 = .ok (.iastore, 1) := by decide +kernel
theorem dX6_enters_43 : decode cX6_enters 43 = .ok (.aload_n 0, 1) := by decide +kernel
theorem dX6_enters_44 : decode cX6_enters 44 = .ok (.getfield 7, 3) := by decide +kernel
theorem dX6_enters_47 : decode cX6_enters 47 = .ok (.iload_n 3, 1) := by decide +kernel
theorem dX6_enters_48 : decode cX6_enters 48 = .ok (.iconst 3, 1) := by decide +kernel
theorem dX6_enters_49 : decode cX6_enters 49 = .ok (.invokestatic 92, 3) := by decide +kernel
theorem dX6_enters_52 : decode cX6_enters 52 = .ok (.iconst 1, 1) := by decide +kernel
theorem dX6_enters_53 : decode cX6_enters 53 = .ok (.iastore, 1) := by decide +kernel
theorem dX6_enters_54 : decode cX6_enters 54 = .ok (.aload_n 0, 1) := by decide +kernel
theorem dX6_enters_55 : decode cX6_enters 55 = .ok (.getfield 7, 3) := by decide +kernel
theorem dX6_enters_58 : decode cX6_enters 58 = .ok (.iconst 4, 1) := by decide +kernel
theorem dX6_enters_59 : decode cX6_enters 59 = .ok (.dup2, 1) := by decide +kernel
theorem dX6_enters_60 : decode cX6_enters 60 = .ok (.iaload, 1) := by decide +kernel
theorem dX6_enters_61 : decode cX6_enters 61 = .ok (.iconst 1, 1) := by decide +kernel
theorem dX6_enters_62 : decode cX6_enters 62 = .ok (.iadd, 1) := by decide +kernel
theorem dX6_enters_63 : decode cX6_enters 63 = .ok (.iastore, 1) := by decide +kernel
theorem dX6_enters_64 : decode cX6_enters 64 = .ok (.aload_n 0, 1) := by decide +kernel
theorem dX6_enters_65 : decode cX6_enters 65 = .ok (.iload_n 3, 1) := by decide +kernel
theorem dX6_enters_66 : decode cX6_enters 66 = .ok (.invokevirtual 104, 3) := by decide +kernel
theorem dX6_enters_69 : decode cX6_enters 69 = .ok (.aload_n 0, 1) := by decide +kernel
theorem dX6_enters_70 : decode cX6_enters 70 = .ok (.getfield 7, 3) := by decide +kernel
theorem dX6_enters_73 : decode cX6_enters 73 = .ok (.iload_n 1, 1) := by decide +kernel
theorem dX6_enters_74 : decode cX6_enters 74 = .ok (.aload_n 0, 1) := by decide +kernel
theorem dX6_enters_75 : decode cX6_enters 75 = .ok (.getfield 7, 3) := by decide +kernel
theorem dX6_enters_78 : decode cX6_enters 78 = .ok (.iload_n 1, 1) := by decide +kernel
theorem dX6_enters_79 : decode cX6_enters 79 = .ok (.bipush 12, 2) := by decide +kernel
theorem dX6_enters_81 : decode cX6_enters 81 = .ok (.invokestatic 48, 3) := by decide +kernel
theorem dX6_enters_84 : decode cX6_enters 84 = .ok (.iaload, 1) := by decide +kernel
theorem dX6_enters_85 : decode cX6_enters 85 = .ok (.invokestatic 107, 3) := by decide +kernel
theorem dX6_enters_88 : decode cX6_enters 88 = .ok (.iload_n 3, 1) := by decide +kernel
theorem dX6_enters_89 : decode cX6_enters 89 = .ok (.iastore, 1) := by decide +kernel
theorem dX6_enters_90 : decode cX6_enters 90 = .ok (.aload_n 0, 1) := by decide +kernel
theorem dX6_enters_91 : decode cX6_enters 91 = .ok (.getfield 7, 3) := by decide +kernel
theorem dX6_enters_94 : decode cX6_enters 94 = .ok (.iload_n 1, 1) := by decide +kernel
theorem dX6_enters_95 : decode cX6_enters 95 = .ok (.bipush 12, 2) := by decide +kernel
theorem dX6_enters_97 : decode cX6_enters 97 = .ok (.invokestatic 48, 3) := by decide +kernel
theorem dX6_enters_100 : decode cX6_enters 100 = .ok (.dup2, 1) := by decide +kernel
theorem dX6_enters_101 : decode cX6_enters 101 = .ok (.iaload, 1) := by decide +kernel
theorem dX6_enters_102 : decode cX6_enters 102 = .ok (.iconst 1, 1) := by decide +kernel
theorem dX6_enters_103 : decode cX6_enters 103 = .ok (.iadd, 1) := by decide +kernel
theorem dX6_enters_104 : decode cX6_enters 104 = .ok (.iastore, 1) := by decide +kernel
theorem dX6_enters_105 : decode cX6_enters 105 = .ok (.return_, 1) := by decide +kernel
theorem dX6_hasPackets_0 : decode cX6_hasPackets 0 = .ok (.aload_n 0, 1) := by decide +kernel
theorem dX6_hasPackets_1 : decode cX6_hasPackets 1 = .ok (.iload_n 1, 1) := by decide +kernel
theorem dX6_hasPackets_2 : decode cX6_hasPackets 2 = .ok (.bipush 12, 2) := by decide +kernel
theorem dX6_hasPackets_4 : decode cX6_hasPackets 4 = .ok (.invokevirtual 59, 3) := by decide +kernel
theorem dX6_hasPackets_7 : decode cX6_hasPackets 7 = .ok (.ifCond .le 7, 3) := by decide +kernel
theorem dX6_hasPackets_10 : decode cX6_hasPackets 10 = .ok (.iconst 1, 1) := by decide +kernel
theorem dX6_hasPackets_11 : decode cX6_hasPackets 11 = .ok (.goto 4, 3) := by decide +kernel
theorem dX6_hasPackets_14 : decode cX6_hasPackets 14 = .ok (.iconst 0, 1) := by decide +kernel
theorem dX6_hasPackets_15 : decode cX6_hasPackets 15 = .ok (.ireturn, 1) := by decide +kernel
theorem dX6_leaves_0 : decode cX6_leaves 0 = .ok (.aload_n 0, 1) := by decide +kernel
theorem dX6_leaves_1 : decode cX6_leaves 1 = .ok (.getfield 7, 3) := by decide +kernel
theorem dX6_leaves_4 : decode cX6_leaves 4 = .ok (.iload_n 1, 1) := by decide +kernel
theorem dX6_leaves_5 : decode cX6_leaves 5 = .ok (.iload_n 2, 1) := by decide +kernel
theorem dX6_leaves_6 : decode cX6_leaves 6 = .ok (.invokestatic 107, 3) := by decide +kernel
theorem dX6_leaves_9 : decode cX6_leaves 9 = .ok (.iaload, 1) := by decide +kernel
theorem dX6_leaves_10 : decode cX6_leaves 10 = .ok (.istore_n 3, 1) := by decide +kernel
theorem dX6_leaves_11 : decode cX6_leaves 11 = .ok (.aload_n 0, 1) := by decide +kernel
theorem dX6_leaves_12 : decode cX6_leaves 12 = .ok (.getfield 7, 3) := by decide +kernel
theorem dX6_leaves_15 : decode cX6_leaves 15 = .ok (.iload_n 3, 1) := by decide +kernel
theorem dX6_leaves_16 : decode cX6_leaves 16 = .ok (.iconst 1, 1) := by decide +kernel
theorem dX6_leaves_17 : decode cX6_leaves 17 = .ok (.invokestatic 92, 3) := by decide +kernel
theorem dX6_leaves_20 : decode cX6_leaves 20 = .ok (.iaload, 1) := by decide +kernel
theorem dX6_leaves_21 : decode cX6_leaves 21 = .ok (.istore 4, 2) := by decide +kernel
theorem dX6_leaves_23 : decode cX6_leaves 23 = .ok (.iload_n 2, 1) := by decide +kernel
theorem dX6_leaves_24 : decode cX6_leaves 24 = .ok (.iconst 1, 1) := by decide +kernel
theorem dX6_leaves_25 : decode cX6_leaves 25 = .ok (.iadd, 1) := by decide +kernel
theorem dX6_leaves_26 : decode cX6_leaves 26 = .ok (.istore 5, 2) := by decide +kernel
theorem dX6_leaves_28 : decode cX6_leaves 28 = .ok (.iload 5, 2) := by decide +kernel
theorem dX6_leaves_30 : decode cX6_leaves 30 = .ok (.aload_n 0, 1) := by decide +kernel
theorem dX6_leaves_31 : decode cX6_leaves 31 = .ok (.getfield 7, 3) := by decide +kernel
theorem dX6_leaves_34 : decode cX6_leaves 34 = .ok (.iload_n 1, 1) := by decide +kernel
theorem dX6_leaves_35 : decode cX6_leaves 35 = .ok (.bipush 12, 2) := by decide +kernel
theorem dX6_leaves_37 : decode cX6_leaves 37 = .ok (.invokestatic 48, 3) := by decide +kernel
theorem dX6_leaves_40 : decode cX6_leaves 40 = .ok (.iaload, 1) := by decide +kernel
theorem dX6_leaves_41 : decode cX6_leaves 41 = .ok (.if_icmp .ge 33, 3) := by decide +kernel
theorem dX6_leaves_44 : decode cX6_leaves 44 = .ok (.aload_n 0, 1) := by decide +kernel
theorem dX6_leaves_45 : decode cX6_leaves 45 = .ok (.getfield 7, 3) := by decide +kernel
theorem dX6_leaves_48 : decode cX6_leaves 48 = .ok (.iload_n 1, 1) := by decide +kernel
theorem dX6_leaves_49 : decode cX6_leaves 49 = .ok (.iload 5, 2) := by decide +kernel
theorem dX6_leaves_51 : decode cX6_leaves 51 = .ok (.iconst 1, 1) := by decide +kernel
theorem dX6_leaves_52 : decode cX6_leaves 52 = .ok (.isub, 1) := by decide +kernel
theorem dX6_leaves_53 : decode cX6_leaves 53 = .ok (.invokestatic 107, 3) := by decide +kernel
theorem dX6_leaves_56 : decode cX6_leaves 56 = .ok (.aload_n 0, 1) := by decide +kernel
theorem dX6_leaves_57 : decode cX6_leaves 57 = .ok (.getfield 7, 3) := by decide +kernel
theorem dX6_leaves_60 : decode cX6_leaves 60 = .ok (.iload_n 1, 1) := by decide +kernel
theorem dX6_leaves_61 : decode cX6_leaves 61 = .ok (.iload 5, 2) := by decide +kernel
theorem dX6_leaves_63 : decode cX6_leaves 63 = .ok (.invokestatic 107, 3) := by decide +kernel
theorem dX6_leaves_66 : decode cX6_leaves 66 = .ok (.iaload, 1) := by decide +kernel
theorem dX6_leaves_67 : decode cX6_leaves 67 = .ok (.iastore, 1) := by decide +kernel
theorem dX6_leaves_68 : decode cX6_leaves 68 = .ok (.iinc 5 1, 3) := by decide +kernel
theorem dX6_leaves_71 : decode cX6_leaves 71 = .ok (.goto (-43), 3) := by decide +kernel
theorem dX6_leaves_74 : decode cX6_leaves 74 = .ok (.aload_n 0, 1) := by decide +kernel
theorem dX6_leaves_75 : decode cX6_leaves 75 = .ok (.getfield 7, 3) := by decide +kernel
theorem dX6_leaves_78 : decode cX6_leaves 78 = .ok (.iload_n 1, 1) := by decide +kernel
theorem dX6_leaves_79 : decode cX6_leaves 79 = .ok (.bipush 12, 2) := by decide +kernel
theorem dX6_leaves_81 : decode cX6_leaves 81 = .ok (.invokestatic 48, 3) := by decide +kernel
theorem dX6_leaves_84 : decode cX6_leaves 84 = .ok (.dup2, 1) := by decide +kernel
theorem dX6_leaves_85 : decode cX6_leaves 85 = .ok (.iaload, 1) := by decide +kernel
theorem dX6_leaves_86 : decode cX6_leaves 86 = .ok (.iconst 1, 1) := by decide +kernel
theorem dX6_leaves_87 : decode cX6_leaves 87 = .ok (.isub, 1) := by decide +kernel
theorem dX6_leaves_88 : decode cX6_leaves 88 = .ok (.iastore, 1) := by decide +kernel
theorem dX6_leaves_89 : decode cX6_leaves 89 = .ok (.aload_n 0, 1) := by decide +kernel
theorem dX6_leaves_90 : decode cX6_leaves 90 = .ok (.getfield 7, 3) := by decide +kernel
theorem dX6_leaves_93 : decode cX6_leaves 93 = .ok (.iload_n 3, 1) := by decide +kernel
theorem dX6_leaves_94 : decode cX6_leaves 94 = .ok (.iconst 3, 1) := by decide +kernel
theorem dX6_leaves_95 : decode cX6_leaves 95 = .ok (.invokestatic 92, 3) := by decide +kernel
theorem dX6_leaves_98 : decode cX6_leaves 98 = .ok (.iconst 0, 1) := by decide +kernel
theorem dX6_leaves_99 : decode cX6_leaves 99 = .ok (.iastore, 1) := by decide +kernel
theorem dX6_leaves_100 : decode cX6_leaves 100 = .ok (.iconst 0, 1) := by decide +kernel
theorem dX6_leaves_101 : decode cX6_leaves 101 = .ok (.istore 5, 2) := by decide +kernel
theorem dX6_leaves_103 : decode cX6_leaves 103 = .ok (.iload 5, 2) := by decide +kernel
theorem dX6_leaves_105 : decode cX6_leaves 105 = .ok (.aload_n 0, 1) := by decide +kernel
theorem dX6_leaves_106 : decode cX6_leaves 106 = .ok (.getfield 7, 3) := by decide +kernel
theorem dX6_leaves_109 : decode cX6_leaves 109 = .ok (.iconst 0, 1) := by decide +kernel
theorem dX6_leaves_110 : decode cX6_leaves 110 = .ok (.iaload, 1) := by decide +kernel
theorem dX6_leaves_111 : decode cX6_leaves 111 = .ok (.if_icmp .ge 52, 3) := by decide +kernel
theorem dX6_leaves_114 : decode cX6_leaves 114 = .ok (.aload_n 0, 1) := by decide +kernel
theorem dX6_leaves_115 : decode cX6_leaves 115 = .ok (.getfield 7, 3) := by decide +kernel
theorem dX6_leaves_118 : decode cX6_leaves 118 = .ok (.sipush 6336, 3) := by decide +kernel
theorem dX6_leaves_121 : decode cX6_leaves 121 = .ok (.iload 5, 2) := by decide +kernel
theorem dX6_leaves_123 : decode cX6_leaves 123 = .ok (.iadd, 1) := by decide +kernel
theorem dX6_leaves_124 : decode cX6_leaves 124 = .ok (.aload_n 0, 1) := by decide +kernel
theorem dX6_leaves_125 : decode cX6_leaves 125 = .ok (.getfield 7, 3) := by decide +kernel
theorem dX6_leaves_128 : decode cX6_leaves 128 = .ok (.sipush 6336, 3) := by decide +kernel
theorem dX6_leaves_131 : decode cX6_leaves 131 = .ok (.iload 5, 2) := by decide +kernel
theorem dX6_leaves_133 : decode cX6_leaves 133 = .ok (.iadd, 1) := by decide +kernel
theorem dX6_leaves_134 : decode cX6_leaves 134 = .ok (.iaload, 1) := by decide +kernel
theorem dX6_leaves_135 : decode cX6_leaves 135 = .ok (.iload_n 3, 1) := by decide +kernel
theorem dX6_leaves_136 : decode cX6_leaves 136 = .ok (.iconst 1, 1) := by decide +kernel
theorem dX6_leaves_137 : decode cX6_leaves 137 = .ok (.iadd, 1) := by decide +kernel
theorem dX6_leaves_138 : decode cX6_leaves 138 = .ok (.if_icmp .ne 7, 3) := by decide +kernel
theorem dX6_leaves_141 : decode cX6_leaves 141 = .ok (.iconst 0, 1) := by decide +kernel
theorem dX6_leaves_142 : decode cX6_leaves 142 = .ok (.goto 14, 3) := by decide +kernel
theorem dX6_leaves_145 : decode cX6_leaves 145 = .ok (.aload_n 0, 1) := by decide +kernel
theorem dX6_leaves_146 : decode cX6_leaves 146 = .ok (.getfield 7, 3) := by decide +kernel
theorem dX6_leaves_149 : decode cX6_leaves 149 = .ok (.sipush 6336, 3) := by decide +kernel
theorem dX6_leaves_152 : decode cX6_leaves 152 = .ok (.iload 5, 2) := by decide +kernel
theorem dX6_leaves_154 : decode cX6_leaves 154 = .ok (.iadd, 1) := by decide +kernel
theorem dX6_leaves_155 : decode cX6_leaves 155 = .ok (.iaload, 1) := by decide +kernel
theorem dX6_leaves_156 : decode cX6_leaves 156 = .ok (.iastore, 1) := by decide +kernel
theorem dX6_leaves_157 : decode cX6_leaves 157 = .ok (.iinc 5 1, 3) := by decide +kernel
theorem dX6_leaves_160 : decode cX6_leaves 160 = .ok (.goto (-57), 3) := by decide +kernel
theorem dX6_leaves_163 : decode cX6_leaves 163 = .ok (.iload 4, 2) := by decide +kernel
theorem dX6_leaves_165 : decode cX6_leaves 165 = .ok (.istore 5, 2) := by decide +kernel
theorem dX6_leaves_167 : decode cX6_leaves 167 = .ok (.bipush 8, 2) := by decide +kernel
theorem dX6_leaves_169 : decode cX6_leaves 169 = .ok (.istore 6, 2) := by decide +kernel
theorem dX6_leaves_171 : decode cX6_leaves 171 = .ok (.iload 6, 2) := by decide +kernel
theorem dX6_leaves_173 : decode cX6_leaves 173 = .ok (.bipush 6, 2) := by decide +kernel
theorem dX6_leaves_175 : decode cX6_leaves 175 = .ok (.if_icmp .lt 50, 3) := by decide +kernel
theorem dX6_leaves_178 : decode cX6_leaves 178 = .ok (.iload 5, 2) := by decide +kernel
theorem dX6_leaves_180 : decode cX6_leaves 180 = .ok (.aload_n 0, 1) := by decide +kernel
theorem dX6_leaves_181 : decode cX6_leaves 181 = .ok (.getfield 7, 3) := by decide +kernel
theorem dX6_leaves_184 : decode cX6_leaves 184 = .ok (.iload_n 1, 1) := by decide +kernel
theorem dX6_leaves_185 : decode cX6_leaves 185 = .ok (.iload 6, 2) := by decide +kernel
theorem dX6_leaves_187 : decode cX6_leaves 187 = .ok (.invokestatic 48, 3) := by decide +kernel
theorem dX6_leaves_190 : decode cX6_leaves 190 = .ok (.iaload, 1) := by decide +kernel
theorem dX6_leaves_191 : decode cX6_leaves 191 = .ok (.invokestatic 68, 3) := by decide +kernel
theorem dX6_leaves_194 : decode cX6_leaves 194 = .ok (.istore 7, 2) := by decide +kernel
theorem dX6_leaves_196 : decode cX6_leaves 196 = .ok (.aload_n 0, 1) := by decide +kernel
theorem dX6_leaves_197 : decode cX6_leaves 197 = .ok (.getfield 7, 3) := by decide +kernel
theorem dX6_leaves_200 : decode cX6_leaves 200 = .ok (.iload_n 1, 1) := by decide +kernel
theorem dX6_leaves_201 : decode cX6_leaves 201 = .ok (.iload 6, 2) := by decide +kernel
theorem dX6_leaves_203 : decode cX6_leaves 203 = .ok (.invokestatic 48, 3) := by decide +kernel
theorem dX6_leaves_206 : decode cX6_leaves 206 = .ok (.dup2, 1) := by decide +kernel
theorem dX6_leaves_207 : decode cX6_leaves 207 = .ok (.iaload, 1) := by decide +kernel
theorem dX6_leaves_208 : decode cX6_leaves 208 = .ok (.iload 7, 2) := by decide +kernel
theorem dX6_leaves_210 : decode cX6_leaves 210 = .ok (.isub, 1) := by decide +kernel
theorem dX6_leaves_211 : decode cX6_leaves 211 = .ok (.iastore, 1) := by decide +kernel
theorem dX6_leaves_212 : decode cX6_leaves 212 = .ok (.iload 5, 2) := by decide +kernel
theorem dX6_leaves_214 : decode cX6_leaves 214 = .ok (.iload 7, 2) := by decide +kernel
theorem dX6_leaves_216 : decode cX6_leaves 216 = .ok (.isub, 1) := by decide +kernel
theorem dX6_leaves_217 : decode cX6_leaves 217 = .ok (.istore 5, 2) := by decide +kernel
theorem dX6_leaves_219 : decode cX6_leaves 219 = .ok (.iinc 6 (-1), 3) := by decide +kernel
theorem dX6_leaves_222 : decode cX6_leaves 222 = .ok (.goto (-51), 3) := by decide +kernel
theorem dX6_leaves_225 : decode cX6_leaves 225 = .ok (.iload 4, 2) := by decide +kernel
theorem dX6_leaves_227 : decode cX6_leaves 227 = .ok (.ireturn, 1) := by decide +kernel
theorem dX6_settles_0 : decode cX6_settles 0 = .ok (.iload_n 1, 1) := by decide +kernel
theorem dX6_settles_1 : decode cX6_settles 1 = .ok (.iconst 3, 1) := by decide +kernel
theorem dX6_settles_2 : decode cX6_settles 2 = .ok (.idiv, 1) := by decide +kernel
theorem dX6_settles_3 : decode cX6_settles 3 = .ok (.istore_n 2, 1) := by decide +kernel
theorem dX6_settles_4 : decode cX6_settles 4 = .ok (.aload_n 0, 1) := by decide +kernel
theorem dX6_settles_5 : decode cX6_settles 5 = .ok (.getfield 7, 3) := by decide +kernel
theorem dX6_settles_8 : decode cX6_settles 8 = .ok (.iload_n 1, 1) := by decide +kernel
theorem dX6_settles_9 : decode cX6_settles 9 = .ok (.bipush 12, 2) := by decide +kernel
theorem dX6_settles_11 : decode cX6_settles 11 = .ok (.invokestatic 48, 3) := by decide +kernel
theorem dX6_settles_14 : decode cX6_settles 14 = .ok (.iaload, 1) := by decide +kernel
theorem dX6_settles_15 : decode cX6_settles 15 = .ok (.ifCond .ne 14, 3) := by decide +kernel
theorem dX6_settles_18 : decode cX6_settles 18 = .ok (.aload_n 0, 1) := by decide +kernel
theorem dX6_settles_19 : decode cX6_settles 19 = .ok (.getfield 7, 3) := by decide +kernel
theorem dX6_settles_22 : decode cX6_settles 22 = .ok (.iload_n 1, 1) := by decide +kernel
theorem dX6_settles_23 : decode cX6_settles 23 = .ok (.iconst 5, 1) := by decide +kernel
theorem dX6_settles_24 : decode cX6_settles 24 = .ok (.invokestatic 48, 3) := by decide +kernel
theorem dX6_settles_27 : decode cX6_settles 27 = .ok (.iconst 0, 1) := by decide +kernel
theorem dX6_settles_28 : decode cX6_settles 28 = .ok (.iastore, 1) := by decide +kernel
theorem dX6_settles_29 : decode cX6_settles 29 = .ok (.aload_n 0, 1) := by decide +kernel
theorem dX6_settles_30 : decode cX6_settles 30 = .ok (.iload_n 2, 1) := by decide +kernel
theorem dX6_settles_31 : decode cX6_settles 31 = .ok (.invokevirtual 110, 3) := by decide +kernel
theorem dX6_settles_34 : decode cX6_settles 34 = .ok (.ifCond .ne 38, 3) := by decide +kernel
theorem dX6_settles_37 : decode cX6_settles 37 = .ok (.aload_n 0, 1) := by decide +kernel
theorem dX6_settles_38 : decode cX6_settles 38 = .ok (.getfield 7, 3) := by decide +kernel
theorem dX6_settles_41 : decode cX6_settles 41 = .ok (.iload_n 2, 1) := by decide +kernel
theorem dX6_settles_42 : decode cX6_settles 42 = .ok (.iconst 4, 1) := by decide +kernel
theorem dX6_settles_43 : decode cX6_settles 43 = .ok (.invokestatic 44, 3) := by decide +kernel
theorem dX6_settles_46 : decode cX6_settles 46 = .ok (.iconst 0, 1) := by decide +kernel
theorem dX6_settles_47 : decode cX6_settles 47 = .ok (.iastore, 1) := by decide +kernel
theorem dX6_settles_48 : decode cX6_settles 48 = .ok (.aload_n 0, 1) := by decide +kernel
theorem dX6_settles_49 : decode cX6_settles 49 = .ok (.getfield 7, 3) := by decide +kernel
theorem dX6_settles_52 : decode cX6_settles 52 = .ok (.iload_n 2, 1) := by decide +kernel
theorem dX6_settles_53 : decode cX6_settles 53 = .ok (.bipush 6, 2) := by decide +kernel
theorem dX6_settles_55 : decode cX6_settles 55 = .ok (.invokestatic 44, 3) := by decide +kernel
theorem dX6_settles_58 : decode cX6_settles 58 = .ok (.iconst 0, 1) := by decide +kernel
theorem dX6_settles_59 : decode cX6_settles 59 = .ok (.iastore, 1) := by decide +kernel
theorem dX6_settles_60 : decode cX6_settles 60 = .ok (.aload_n 0, 1) := by decide +kernel
theorem dX6_settles_61 : decode cX6_settles 61 = .ok (.getfield 7, 3) := by decide +kernel
theorem dX6_settles_64 : decode cX6_settles 64 = .ok (.iload_n 2, 1) := by decide +kernel
theorem dX6_settles_65 : decode cX6_settles 65 = .ok (.bipush 7, 2) := by decide +kernel
theorem dX6_settles_67 : decode cX6_settles 67 = .ok (.invokestatic 44, 3) := by decide +kernel
theorem dX6_settles_70 : decode cX6_settles 70 = .ok (.iconst 1, 1) := by decide +kernel
theorem dX6_settles_71 : decode cX6_settles 71 = .ok (.iastore, 1) := by decide +kernel
theorem dX6_settles_72 : decode cX6_settles 72 = .ok (.return_, 1) := by decide +kernel
theorem dX6_loses_0 : decode cX6_loses 0 = .ok (.aload_n 0, 1) := by decide +kernel
theorem dX6_loses_1 : decode cX6_loses 1 = .ok (.getfield 7, 3) := by decide +kernel
theorem dX6_loses_4 : decode cX6_loses 4 = .ok (.iload_n 1, 1) := by decide +kernel
theorem dX6_loses_5 : decode cX6_loses 5 = .ok (.bipush 11, 2) := by decide +kernel
theorem dX6_loses_7 : decode cX6_loses 7 = .ok (.iload_n 2, 1) := by decide +kernel
theorem dX6_loses_8 : decode cX6_loses 8 = .ok (.iadd, 1) := by decide +kernel
theorem dX6_loses_9 : decode cX6_loses 9 = .ok (.invokestatic 44, 3) := by decide +kernel
theorem dX6_loses_12 : decode cX6_loses 12 = .ok (.dup2, 1) := by decide +kernel
theorem dX6_loses_13 : decode cX6_loses 13 = .ok (.iaload, 1) := by decide +kernel
theorem dX6_loses_14 : decode cX6_loses 14 = .ok (.iconst 1, 1) := by decide +kernel
theorem dX6_loses_15 : decode cX6_loses 15 = .ok (.iadd, 1) := by decide +kernel
theorem dX6_loses_16 : decode cX6_loses 16 = .ok (.iastore, 1) := by decide +kernel
theorem dX6_loses_17 : decode cX6_loses 17 = .ok (.aload_n 0, 1) := by decide +kernel
theorem dX6_loses_18 : decode cX6_loses 18 = .ok (.getfield 7, 3) := by decide +kernel
theorem dX6_loses_21 : decode cX6_loses 21 = .ok (.iload_n 1, 1) := by decide +kernel
theorem dX6_loses_22 : decode cX6_loses 22 = .ok (.bipush 10, 2) := by decide +kernel
theorem dX6_loses_24 : decode cX6_loses 24 = .ok (.invokestatic 44, 3) := by decide +kernel
theorem dX6_loses_27 : decode cX6_loses 27 = .ok (.dup2, 1) := by decide +kernel
theorem dX6_loses_28 : decode cX6_loses 28 = .ok (.iaload, 1) := by decide +kernel
theorem dX6_loses_29 : decode cX6_loses 29 = .ok (.iload_n 3, 1) := by decide +kernel
theorem dX6_loses_30 : decode cX6_loses 30 = .ok (.iadd, 1) := by decide +kernel
theorem dX6_loses_31 : decode cX6_loses 31 = .ok (.iastore, 1) := by decide +kernel
theorem dX6_loses_32 : decode cX6_loses 32 = .ok (.return_, 1) := by decide +kernel
theorem dX6_early_0 : decode cX6_early 0 = .ok (.iload_n 2, 1) := by decide +kernel
theorem dX6_early_1 : decode cX6_early 1 = .ok (.aload_n 0, 1) := by decide +kernel
theorem dX6_early_2 : decode cX6_early 2 = .ok (.iload_n 1, 1) := by decide +kernel
theorem dX6_early_3 : decode cX6_early 3 = .ok (.iconst 3, 1) := by decide +kernel
theorem dX6_early_4 : decode cX6_early 4 = .ok (.idiv, 1) := by decide +kernel
theorem dX6_early_5 : decode cX6_early 5 = .ok (.invokevirtual 65, 3) := by decide +kernel
theorem dX6_early_8 : decode cX6_early 8 = .ok (.invokestatic 68, 3) := by decide +kernel
theorem dX6_early_11 : decode cX6_early 11 = .ok (.istore_n 3, 1) := by decide +kernel
theorem dX6_early_12 : decode cX6_early 12 = .ok (.iload_n 3, 1) := by decide +kernel
theorem dX6_early_13 : decode cX6_early 13 = .ok (.iload_n 2, 1) := by decide +kernel
theorem dX6_early_14 : decode cX6_early 14 = .ok (.if_icmp .ne 5, 3) := by decide +kernel
theorem dX6_early_17 : decode cX6_early 17 = .ok (.iconst 1, 1) := by decide +kernel
theorem dX6_early_18 : decode cX6_early 18 = .ok (.ireturn, 1) := by decide +kernel
theorem dX6_early_19 : decode cX6_early 19 = .ok (.aload_n 0, 1) := by decide +kernel
theorem dX6_early_20 : decode cX6_early 20 = .ok (.getfield 26, 3) := by decide +kernel
theorem dX6_early_23 : decode cX6_early 23 = .ok (.iconst 1, 1) := by decide +kernel
theorem dX6_early_24 : decode cX6_early 24 = .ok (.iconst 1, 1) := by decide +kernel
theorem dX6_early_25 : decode cX6_early 25 = .ok (.iastore, 1) := by decide +kernel
theorem dX6_early_26 : decode cX6_early 26 = .ok (.iload_n 2, 1) := by decide +kernel
theorem dX6_early_27 : decode cX6_early 27 = .ok (.iload_n 3, 1) := by decide +kernel
theorem dX6_early_28 : decode cX6_early 28 = .ok (.isub, 1) := by decide +kernel
theorem dX6_early_29 : decode cX6_early 29 = .ok (.istore 4, 2) := by decide +kernel
theorem dX6_early_31 : decode cX6_early 31 = .ok (.iload 4, 2) := by decide +kernel
theorem dX6_early_33 : decode cX6_early 33 = .ok (.aload_n 0, 1) := by decide +kernel
theorem dX6_early_34 : decode cX6_early 34 = .ok (.invokevirtual 62, 3) := by decide +kernel
theorem dX6_early_37 : decode cX6_early 37 = .ok (.if_icmp .le 12, 3) := by decide +kernel
theorem dX6_early_40 : decode cX6_early 40 = .ok (.aload_n 0, 1) := by decide +kernel
theorem dX6_early_41 : decode cX6_early 41 = .ok (.getfield 26, 3) := by decide +kernel
theorem dX6_early_44 : decode cX6_early 44 = .ok (.iconst 2, 1) := by decide +kernel
theorem dX6_early_45 : decode cX6_early 45 = .ok (.iconst 2, 1) := by decide +kernel
theorem dX6_early_46 : decode cX6_early 46 = .ok (.iastore, 1) := by decide +kernel
theorem dX6_early_47 : decode cX6_early 47 = .ok (.iconst 0, 1) := by decide +kernel
theorem dX6_early_48 : decode cX6_early 48 = .ok (.ireturn, 1) := by decide +kernel
theorem dX6_early_49 : decode cX6_early 49 = .ok (.aload_n 0, 1) := by decide +kernel
theorem dX6_early_50 : decode cX6_early 50 = .ok (.getfield 7, 3) := by decide +kernel
theorem dX6_early_53 : decode cX6_early 53 = .ok (.iload_n 1, 1) := by decide +kernel
theorem dX6_early_54 : decode cX6_early 54 = .ok (.bipush 7, 2) := by decide +kernel
theorem dX6_early_56 : decode cX6_early 56 = .ok (.invokestatic 48, 3) := by decide +kernel
theorem dX6_early_59 : decode cX6_early 59 = .ok (.iaload, 1) := by decide +kernel
theorem dX6_early_60 : decode cX6_early 60 = .ok (.iload 4, 2) := by decide +kernel
theorem dX6_early_62 : decode cX6_early 62 = .ok (.iadd, 1) := by decide +kernel
theorem dX6_early_63 : decode cX6_early 63 = .ok (.aload_n 0, 1) := by decide +kernel
theorem dX6_early_64 : decode cX6_early 64 = .ok (.iload_n 1, 1) := by decide +kernel
theorem dX6_early_65 : decode cX6_early 65 = .ok (.invokevirtual 113, 3) := by decide +kernel
theorem dX6_early_68 : decode cX6_early 68 = .ok (.isub, 1) := by decide +kernel
theorem dX6_early_69 : decode cX6_early 69 = .ok (.istore 5, 2) := by decide +kernel
theorem dX6_early_71 : decode cX6_early 71 = .ok (.iload 5, 2) := by decide +kernel
theorem dX6_early_73 : decode cX6_early 73 = .ok (.aload_n 0, 1) := by decide +kernel
theorem dX6_early_74 : decode cX6_early 74 = .ok (.getfield 7, 3) := by decide +kernel
theorem dX6_early_77 : decode cX6_early 77 = .ok (.iload_n 1, 1) := by decide +kernel
theorem dX6_early_78 : decode cX6_early 78 = .ok (.iconst 3, 1) := by decide +kernel
theorem dX6_early_79 : decode cX6_early 79 = .ok (.invokestatic 48, 3) := by decide +kernel
theorem dX6_early_82 : decode cX6_early 82 = .ok (.iaload, 1) := by decide +kernel
theorem dX6_early_83 : decode cX6_early 83 = .ok (.if_icmp .gt 5, 3) := by decide +kernel
theorem dX6_early_86 : decode cX6_early 86 = .ok (.iconst 2, 1) := by decide +kernel
theorem dX6_early_87 : decode cX6_early 87 = .ok (.ireturn, 1) := by decide +kernel
theorem dX6_early_88 : decode cX6_early 88 = .ok (.aload_n 0, 1) := by decide +kernel
theorem dX6_early_89 : decode cX6_early 89 = .ok (.getfield 26, 3) := by decide +kernel
theorem dX6_early_92 : decode cX6_early 92 = .ok (.iconst 2, 1) := by decide +kernel
theorem dX6_early_93 : decode cX6_early 93 = .ok (.iconst 3, 1) := by decide +kernel
theorem dX6_early_94 : decode cX6_early 94 = .ok (.iastore, 1) := by decide +kernel
theorem dX6_early_95 : decode cX6_early 95 = .ok (.iconst 0, 1) := by decide +kernel
theorem dX6_early_96 : decode cX6_early 96 = .ok (.ireturn, 1) := by decide +kernel
theorem dX6_lessens_0 : decode cX6_lessens 0 = .ok (.iload_n 2, 1) := by decide +kernel
theorem dX6_lessens_1 : decode cX6_lessens 1 = .ok (.istore_n 3, 1) := by decide +kernel
theorem dX6_lessens_2 : decode cX6_lessens 2 = .ok (.bipush 8, 2) := by decide +kernel
theorem dX6_lessens_4 : decode cX6_lessens 4 = .ok (.istore 4, 2) := by decide +kernel
theorem dX6_lessens_6 : decode cX6_lessens 6 = .ok (.iload 4, 2) := by decide +kernel
theorem dX6_lessens_8 : decode cX6_lessens 8 = .ok (.bipush 6, 2) := by decide +kernel
theorem dX6_lessens_10 : decode cX6_lessens 10 = .ok (.if_icmp .lt 47, 3) := by decide +kernel
theorem dX6_lessens_13 : decode cX6_lessens 13 = .ok (.iload_n 3, 1) := by decide +kernel
theorem dX6_lessens_14 : decode cX6_lessens 14 = .ok (.aload_n 0, 1) := by decide +kernel
theorem dX6_lessens_15 : decode cX6_lessens 15 = .ok (.getfield 7, 3) := by decide +kernel
theorem dX6_lessens_18 : decode cX6_lessens 18 = .ok (.iload_n 1, 1) := by decide +kernel
theorem dX6_lessens_19 : decode cX6_lessens 19 = .ok (.iload 4, 2) := by decide +kernel
theorem dX6_lessens_21 : decode cX6_lessens 21 = .ok (.invokestatic 48, 3) := by decide +kernel
theorem dX6_lessens_24 : decode cX6_lessens 24 = .ok (.iaload, 1) := by decide +kernel
theorem dX6_lessens_25 : decode cX6_lessens 25 = .ok (.invokestatic 68, 3) := by decide +kernel
theorem dX6_lessens_28 : decode cX6_lessens 28 = .ok (.istore 5, 2) := by decide +kernel
theorem dX6_lessens_30 : decode cX6_lessens 30 = .ok (.aload_n 0, 1) := by decide +kernel
theorem dX6_lessens_31 : decode cX6_lessens 31 = .ok (.getfield 7, 3) := by decide +kernel
theorem dX6_lessens_34 : decode cX6_lessens 34 = .ok (.iload_n 1, 1) := by decide +kernel
theorem dX6_lessens_35 : decode cX6_lessens 35 = .ok (.iload 4, 2) := by decide +kernel
theorem dX6_lessens_37 : decode cX6_lessens 37 = .ok (.invokestatic 48, 3) := by decide +kernel
theorem dX6_lessens_40 : decode cX6_lessens 40 = .ok (.dup2, 1) := by decide +kernel
theorem dX6_lessens_41 : decode cX6_lessens 41 = .ok (.iaload, 1) := by decide +kernel
theorem dX6_lessens_42 : decode cX6_lessens 42 = .ok (.iload 5, 2) := by decide +kernel
theorem dX6_lessens_44 : decode cX6_lessens 44 = .ok (.isub, 1) := by decide +kernel
theorem dX6_lessens_45 : decode cX6_lessens 45 = .ok (.iastore, 1) := by decide +kernel
theorem dX6_lessens_46 : decode cX6_lessens 46 = .ok (.iload_n 3, 1) := by decide +kernel
theorem dX6_lessens_47 : decode cX6_lessens 47 = .ok (.iload 5, 2) := by decide +kernel
theorem dX6_lessens_49 : decode cX6_lessens 49 = .ok (.isub, 1) := by decide +kernel
theorem dX6_lessens_50 : decode cX6_lessens 50 = .ok (.istore_n 3, 1) := by decide +kernel
theorem dX6_lessens_51 : decode cX6_lessens 51 = .ok (.iinc 4 (-1), 3) := by decide +kernel
theorem dX6_lessens_54 : decode cX6_lessens 54 = .ok (.goto (-48), 3) := by decide +kernel
theorem dX6_lessens_57 : decode cX6_lessens 57 = .ok (.return_, 1) := by decide +kernel
theorem dX6_decides_0 : decode cX6_decides 0 = .ok (.aload_n 0, 1) := by decide +kernel
theorem dX6_decides_1 : decode cX6_decides 1 = .ok (.iload_n 1, 1) := by decide +kernel
theorem dX6_decides_2 : decode cX6_decides 2 = .ok (.iload_n 2, 1) := by decide +kernel
theorem dX6_decides_3 : decode cX6_decides 3 = .ok (.invokevirtual 116, 3) := by decide +kernel
theorem dX6_decides_6 : decode cX6_decides 6 = .ok (.istore_n 3, 1) := by decide +kernel
theorem dX6_decides_7 : decode cX6_decides 7 = .ok (.iload_n 3, 1) := by decide +kernel
theorem dX6_decides_8 : decode cX6_decides 8 = .ok (.ifCond .le 5, 3) := by decide +kernel
theorem dX6_decides_11 : decode cX6_decides 11 = .ok (.iload_n 3, 1) := by decide +kernel
theorem dX6_decides_12 : decode cX6_decides 12 = .ok (.ireturn, 1) := by decide +kernel
theorem dX6_decides_13 : decode cX6_decides 13 = .ok (.iload_n 1, 1) := by decide +kernel
theorem dX6_decides_14 : decode cX6_decides 14 = .ok (.iconst 3, 1) := by decide +kernel
theorem dX6_decides_15 : decode cX6_decides 15 = .ok (.idiv, 1) := by decide +kernel
theorem dX6_decides_16 : decode cX6_decides 16 = .ok (.istore 4, 2) := by decide +kernel
theorem dX6_decides_18 : decode cX6_decides 18 = .ok (.iload_n 2, 1) := by decide +kernel
theorem dX6_decides_19 : decode cX6_decides 19 = .ok (.iload_n 2, 1) := by decide +kernel
theorem dX6_decides_20 : decode cX6_decides 20 = .ok (.aload_n 0, 1) := by decide +kernel
theorem dX6_decides_21 : decode cX6_decides 21 = .ok (.iload 4, 2) := by decide +kernel
theorem dX6_decides_23 : decode cX6_decides 23 = .ok (.invokevirtual 65, 3) := by decide +kernel
theorem dX6_decides_26 : decode cX6_decides 26 = .ok (.invokestatic 68, 3) := by decide +kernel
theorem dX6_decides_29 : decode cX6_decides 29 = .ok (.isub, 1) := by decide +kernel
theorem dX6_decides_30 : decode cX6_decides 30 = .ok (.istore 5, 2) := by decide +kernel
theorem dX6_decides_32 : decode cX6_decides 32 = .ok (.aload_n 0, 1) := by decide +kernel
theorem dX6_decides_33 : decode cX6_decides 33 = .ok (.getfield 7, 3) := by decide +kernel
theorem dX6_decides_36 : decode cX6_decides 36 = .ok (.iload_n 1, 1) := by decide +kernel
theorem dX6_decides_37 : decode cX6_decides 37 = .ok (.bipush 9, 2) := by decide +kernel
theorem dX6_decides_39 : decode cX6_decides 39 = .ok (.invokestatic 48, 3) := by decide +kernel
theorem dX6_decides_42 : decode cX6_decides 42 = .ok (.iaload, 1) := by decide +kernel
theorem dX6_decides_43 : decode cX6_decides 43 = .ok (.ifCond .ne 13, 3) := by decide +kernel
theorem dX6_decides_46 : decode cX6_decides 46 = .ok (.aload_n 0, 1) := by decide +kernel
theorem dX6_decides_47 : decode cX6_decides 47 = .ok (.getfield 26, 3) := by decide +kernel
theorem dX6_decides_50 : decode cX6_decides 50 = .ok (.iconst 3, 1) := by decide +kernel
theorem dX6_decides_51 : decode cX6_decides 51 = .ok (.iconst 4, 1) := by decide +kernel
theorem dX6_decides_52 : decode cX6_decides 52 = .ok (.iastore, 1) := by decide +kernel
theorem dX6_decides_53 : decode cX6_decides 53 = .ok (.goto 40, 3) := by decide +kernel
theorem dX6_decides_56 : decode cX6_decides 56 = .ok (.iload 5, 2) := by decide +kernel
theorem dX6_decides_58 : decode cX6_decides 58 = .ok (.aload_n 0, 1) := by decide +kernel
theorem dX6_decides_59 : decode cX6_decides 59 = .ok (.getfield 7, 3) := by decide +kernel
theorem dX6_decides_62 : decode cX6_decides 62 = .ok (.iload 4, 2) := by decide +kernel
theorem dX6_decides_64 : decode cX6_decides 64 = .ok (.iconst 1, 1) := by decide +kernel
theorem dX6_decides_65 : decode cX6_decides 65 = .ok (.invokestatic 44, 3) := by decide +kernel
theorem dX6_decides_68 : decode cX6_decides 68 = .ok (.iaload, 1) := by decide +kernel
theorem dX6_decides_69 : decode cX6_decides 69 = .ok (.aload_n 0, 1) := by decide +kernel
theorem dX6_decides_70 : decode cX6_decides 70 = .ok (.iload 4, 2) := by decide +kernel
theorem dX6_decides_72 : decode cX6_decides 72 = .ok (.bipush 8, 2) := by decide +kernel
theorem dX6_decides_74 : decode cX6_decides 74 = .ok (.invokevirtual 59, 3) := by decide +kernel
theorem dX6_decides_77 : decode cX6_decides 77 = .ok (.isub, 1) := by decide +kernel
theorem dX6_decides_78 : decode cX6_decides 78 = .ok (.if_icmp .le 13, 3) := by decide +kernel
theorem dX6_decides_81 : decode cX6_decides 81 = .ok (.aload_n 0, 1) := by decide +kernel
theorem dX6_decides_82 : decode cX6_decides 82 = .ok (.getfield 26, 3) := by decide +kernel
theorem dX6_decides_85 : decode cX6_decides 85 = .ok (.iconst 3, 1) := by decide +kernel
theorem dX6_decides_86 : decode cX6_decides 86 = .ok (.iconst 5, 1) := by decide +kernel
theorem dX6_decides_87 : decode cX6_decides 87 = .ok (.iastore, 1) := by decide +kernel
theorem dX6_decides_88 : decode cX6_decides 88 = .ok (.goto 5, 3) := by decide +kernel
theorem dX6_decides_91 : decode cX6_decides 91 = .ok (.iconst 3, 1) := by decide +kernel
theorem dX6_decides_92 : decode cX6_decides 92 = .ok (.ireturn, 1) := by decide +kernel
theorem dX6_decides_93 : decode cX6_decides 93 = .ok (.aload_n 0, 1) := by decide +kernel
theorem dX6_decides_94 : decode cX6_decides 94 = .ok (.getfield 7, 3) := by decide +kernel
theorem dX6_decides_97 : decode cX6_decides 97 = .ok (.iconst 2, 1) := by decide +kernel
theorem dX6_decides_98 : decode cX6_decides 98 = .ok (.iaload, 1) := by decide +kernel
theorem dX6_decides_99 : decode cX6_decides 99 = .ok (.ifCond .ne 13, 3) := by decide +kernel
theorem dX6_decides_102 : decode cX6_decides 102 = .ok (.aload_n 0, 1) := by decide +kernel
theorem dX6_decides_103 : decode cX6_decides 103 = .ok (.getfield 26, 3) := by decide +kernel
theorem dX6_decides_106 : decode cX6_decides 106 = .ok (.iconst 4, 1) := by decide +kernel
theorem dX6_decides_107 : decode cX6_decides 107 = .ok (.bipush 6, 2) := by decide +kernel
theorem dX6_decides_109 : decode cX6_decides 109 = .ok (.iastore, 1) := by decide +kernel
theorem dX6_decides_110 : decode cX6_decides 110 = .ok (.iconst 0, 1) := by decide +kernel
theorem dX6_decides_111 : decode cX6_decides 111 = .ok (.ireturn, 1) := by decide +kernel
theorem dX6_decides_112 : decode cX6_decides 112 = .ok (.aload_n 0, 1) := by decide +kernel
theorem dX6_decides_113 : decode cX6_decides 113 = .ok (.iload_n 1, 1) := by decide +kernel
theorem dX6_decides_114 : decode cX6_decides 114 = .ok (.iload_n 2, 1) := by decide +kernel
theorem dX6_decides_115 : decode cX6_decides 115 = .ok (.invokevirtual 119, 3) := by decide +kernel
theorem dX6_decides_118 : decode cX6_decides 118 = .ok (.ifCond .eq 7, 3) := by decide +kernel
theorem dX6_decides_121 : decode cX6_decides 121 = .ok (.iconst 4, 1) := by decide +kernel
theorem dX6_decides_122 : decode cX6_decides 122 = .ok (.goto 4, 3) := by decide +kernel
theorem dX6_decides_125 : decode cX6_decides 125 = .ok (.iconst 0, 1) := by decide +kernel
theorem dX6_decides_126 : decode cX6_decides 126 = .ok (.ireturn, 1) := by decide +kernel
theorem dX6_pushes_0 : decode cX6_pushes 0 = .ok (.iload_n 1, 1) := by decide +kernel
theorem dX6_pushes_1 : decode cX6_pushes 1 = .ok (.iconst 3, 1) := by decide +kernel
theorem dX6_pushes_2 : decode cX6_pushes 2 = .ok (.idiv, 1) := by decide +kernel
theorem dX6_pushes_3 : decode cX6_pushes 3 = .ok (.istore_n 3, 1) := by decide +kernel
theorem dX6_pushes_4 : decode cX6_pushes 4 = .ok (.aload_n 0, 1) := by decide +kernel
theorem dX6_pushes_5 : decode cX6_pushes 5 = .ok (.getfield 26, 3) := by decide +kernel
theorem dX6_pushes_8 : decode cX6_pushes 8 = .ok (.iconst 1, 1) := by decide +kernel
theorem dX6_pushes_9 : decode cX6_pushes 9 = .ok (.iaload, 1) := by decide +kernel
theorem dX6_pushes_10 : decode cX6_pushes 10 = .ok (.istore 4, 2) := by decide +kernel
theorem dX6_pushes_12 : decode cX6_pushes 12 = .ok (.aload_n 0, 1) := by decide +kernel
theorem dX6_pushes_13 : decode cX6_pushes 13 = .ok (.getfield 26, 3) := by decide +kernel
theorem dX6_pushes_16 : decode cX6_pushes 16 = .ok (.iconst 2, 1) := by decide +kernel
theorem dX6_pushes_17 : decode cX6_pushes 17 = .ok (.iaload, 1) := by decide +kernel
theorem dX6_pushes_18 : decode cX6_pushes 18 = .ok (.istore 5, 2) := by decide +kernel
theorem dX6_pushes_20 : decode cX6_pushes 20 = .ok (.aload_n 0, 1) := by decide +kernel
theorem dX6_pushes_21 : decode cX6_pushes 21 = .ok (.getfield 29, 3) := by decide +kernel
theorem dX6_pushes_24 : decode cX6_pushes 24 = .ok (.astore 6, 2) := by decide +kernel
theorem dX6_pushes_26 : decode cX6_pushes 26 = .ok (.iconst 0, 1) := by decide +kernel
theorem dX6_pushes_27 : decode cX6_pushes 27 = .ok (.istore 7, 2) := by decide +kernel
theorem dX6_pushes_29 : decode cX6_pushes 29 = .ok (.iload 7, 2) := by decide +kernel
theorem dX6_pushes_31 : decode cX6_pushes 31 = .ok (.bipush 9, 2) := by decide +kernel
theorem dX6_pushes_33 : decode cX6_pushes 33 = .ok (.if_icmp .ge 37, 3) := by decide +kernel
theorem dX6_pushes_36 : decode cX6_pushes 36 = .ok (.aload 6, 2) := by decide +kernel
theorem dX6_pushes_38 : decode cX6_pushes 38 = .ok (.iload 7, 2) := by decide +kernel
theorem dX6_pushes_40 : decode cX6_pushes 40 = .ok (.aload_n 0, 1) := by decide +kernel
theorem dX6_pushes_41 : decode cX6_pushes 41 = .ok (.getfield 7, 3) := by decide +kernel
theorem dX6_pushes_44 : decode cX6_pushes 44 = .ok (.iconst 3, 1) := by decide +kernel
theorem dX6_pushes_45 : decode cX6_pushes 45 = .ok (.iload_n 3, 1) := by decide +kernel
theorem dX6_pushes_46 : decode cX6_pushes 46 = .ok (.imul, 1) := by decide +kernel
theorem dX6_pushes_47 : decode cX6_pushes 47 = .ok (.iload 7, 2) := by decide +kernel
theorem dX6_pushes_49 : decode cX6_pushes 49 = .ok (.iconst 3, 1) := by decide +kernel
theorem dX6_pushes_50 : decode cX6_pushes 50 = .ok (.idiv, 1) := by decide +kernel
theorem dX6_pushes_51 : decode cX6_pushes 51 = .ok (.iadd, 1) := by decide +kernel
theorem dX6_pushes_52 : decode cX6_pushes 52 = .ok (.bipush 6, 2) := by decide +kernel
theorem dX6_pushes_54 : decode cX6_pushes 54 = .ok (.iload 7, 2) := by decide +kernel
theorem dX6_pushes_56 : decode cX6_pushes 56 = .ok (.iconst 3, 1) := by decide +kernel
theorem dX6_pushes_57 : decode cX6_pushes 57 = .ok (.irem, 1) := by decide +kernel
theorem dX6_pushes_58 : decode cX6_pushes 58 = .ok (.iadd, 1) := by decide +kernel
theorem dX6_pushes_59 : decode cX6_pushes 59 = .ok (.invokestatic 48, 3) := by decide +kernel
theorem dX6_pushes_62 : decode cX6_pushes 62 = .ok (.iaload, 1) := by decide +kernel
theorem dX6_pushes_63 : decode cX6_pushes 63 = .ok (.iastore, 1) := by decide +kernel
theorem dX6_pushes_64 : decode cX6_pushes 64 = .ok (.iinc 7 1, 3) := by decide +kernel
theorem dX6_pushes_67 : decode cX6_pushes 67 = .ok (.goto (-38), 3) := by decide +kernel
theorem dX6_pushes_70 : decode cX6_pushes 70 = .ok (.iconst 0, 1) := by decide +kernel
theorem dX6_pushes_71 : decode cX6_pushes 71 = .ok (.istore 7, 2) := by decide +kernel
theorem dX6_pushes_73 : decode cX6_pushes 73 = .ok (.iconst 0, 1) := by decide +kernel
theorem dX6_pushes_74 : decode cX6_pushes 74 = .ok (.istore 8, 2) := by decide +kernel
theorem dX6_pushes_76 : decode cX6_pushes 76 = .ok (.iconst 3, 1) := by decide +kernel
theorem dX6_pushes_77 : decode cX6_pushes 77 = .ok (.iload_n 3, 1) := by decide +kernel
theorem dX6_pushes_78 : decode cX6_pushes 78 = .ok (.imul, 1) := by decide +kernel
theorem dX6_pushes_79 : decode cX6_pushes 79 = .ok (.iconst 2, 1) := by decide +kernel
theorem dX6_pushes_80 : decode cX6_pushes 80 = .ok (.iadd, 1) := by decide +kernel
theorem dX6_pushes_81 : decode cX6_pushes 81 = .ok (.istore 9, 2) := by decide +kernel
theorem dX6_pushes_83 : decode cX6_pushes 83 = .ok (.iload 9, 2) := by decide +kernel
theorem dX6_pushes_85 : decode cX6_pushes 85 = .ok (.iload_n 1, 1) := by decide +kernel
theorem dX6_pushes_86 : decode cX6_pushes 86 = .ok (.if_icmp .le 92, 3) := by decide +kernel
theorem dX6_pushes_89 : decode cX6_pushes 89 = .ok (.iload 8, 2) := by decide +kernel
theorem dX6_pushes_91 : decode cX6_pushes 91 = .ok (.ifCond .ne 87, 3) := by decide +kernel
theorem dX6_pushes_94 : decode cX6_pushes 94 = .ok (.aload_n 0, 1) := by decide +kernel
theorem dX6_pushes_95 : decode cX6_pushes 95 = .ok (.getfield 7, 3) := by decide +kernel
theorem dX6_pushes_98 : decode cX6_pushes 98 = .ok (.iload 9, 2) := by decide +kernel
theorem dX6_pushes_100 : decode cX6_pushes 100 = .ok (.bipush 12, 2) := by decide +kernel
theorem dX6_pushes_102 : decode cX6_pushes 102 = .ok (.invokestatic 48, 3) := by decide +kernel
theorem dX6_pushes_105 : decode cX6_pushes 105 = .ok (.iaload, 1) := by decide +kernel
theorem dX6_pushes_106 : decode cX6_pushes 106 = .ok (.iconst 1, 1) := by decide +kernel
theorem dX6_pushes_107 : decode cX6_pushes 107 = .ok (.isub, 1) := by decide +kernel
theorem dX6_pushes_108 : decode cX6_pushes 108 = .ok (.istore 10, 2) := by decide +kernel
theorem dX6_pushes_110 : decode cX6_pushes 110 = .ok (.iload 10, 2) := by decide +kernel
theorem dX6_pushes_112 : decode cX6_pushes 112 = .ok (.ifCond .lt 60, 3) := by decide +kernel
theorem dX6_pushes_115 : decode cX6_pushes 115 = .ok (.iload 8, 2) := by decide +kernel
theorem dX6_pushes_117 : decode cX6_pushes 117 = .ok (.ifCond .ne 55, 3) := by decide +kernel
theorem dX6_pushes_120 : decode cX6_pushes 120 = .ok (.aload_n 0, 1) := by decide +kernel
theorem dX6_pushes_121 : decode cX6_pushes 121 = .ok (.iload 9, 2) := by decide +kernel
theorem dX6_pushes_123 : decode cX6_pushes 123 = .ok (.aload_n 0, 1) := by decide +kernel
theorem dX6_pushes_124 : decode cX6_pushes 124 = .ok (.getfield 7, 3) := by decide +kernel
theorem dX6_pushes_127 : decode cX6_pushes 127 = .ok (.aload_n 0, 1) := by decide +kernel
theorem dX6_pushes_128 : decode cX6_pushes 128 = .ok (.getfield 7, 3) := by decide +kernel
theorem dX6_pushes_131 : decode cX6_pushes 131 = .ok (.iload 9, 2) := by decide +kernel
theorem dX6_pushes_133 : decode cX6_pushes 133 = .ok (.iload 10, 2) := by decide +kernel
theorem dX6_pushes_135 : decode cX6_pushes 135 = .ok (.invokestatic 107, 3) := by decide +kernel
theorem dX6_pushes_138 : decode cX6_pushes 138 = .ok (.iaload, 1) := by decide +kernel
theorem dX6_pushes_139 : decode cX6_pushes 139 = .ok (.iconst 1, 1) := by decide +kernel
theorem dX6_pushes_140 : decode cX6_pushes 140 = .ok (.invokestatic 92, 3) := by decide +kernel
theorem dX6_pushes_143 : decode cX6_pushes 143 = .ok (.iaload, 1) := by decide +kernel
theorem dX6_pushes_144 : decode cX6_pushes 144 = .ok (.invokevirtual 122, 3) := by decide +kernel
theorem dX6_pushes_147 : decode cX6_pushes 147 = .ok (.iinc 7 1, 3) := by decide +kernel
theorem dX6_pushes_150 : decode cX6_pushes 150 = .ok (.aload_n 0, 1) := by decide +kernel
theorem dX6_pushes_151 : decode cX6_pushes 151 = .ok (.iload_n 1, 1) := by decide +kernel
theorem dX6_pushes_152 : decode cX6_pushes 152 = .ok (.iload_n 2, 1) := by decide +kernel
theorem dX6_pushes_153 : decode cX6_pushes 153 = .ok (.invokevirtual 116, 3) := by decide +kernel
theorem dX6_pushes_156 : decode cX6_pushes 156 = .ok (.ifCond .le 7, 3) := by decide +kernel
theorem dX6_pushes_159 : decode cX6_pushes 159 = .ok (.iconst 1, 1) := by decide +kernel
theorem dX6_pushes_160 : decode cX6_pushes 160 = .ok (.goto 4, 3) := by decide +kernel
theorem dX6_pushes_163 : decode cX6_pushes 163 = .ok (.iconst 0, 1) := by decide +kernel
theorem dX6_pushes_164 : decode cX6_pushes 164 = .ok (.istore 8, 2) := by decide +kernel
theorem dX6_pushes_166 : decode cX6_pushes 166 = .ok (.iinc 10 (-1), 3) := by decide +kernel
theorem dX6_pushes_169 : decode cX6_pushes 169 = .ok (.goto (-59), 3) := by decide +kernel
theorem dX6_pushes_172 : decode cX6_pushes 172 = .ok (.iinc 9 (-1), 3) := by decide +kernel
theorem dX6_pushes_175 : decode cX6_pushes 175 = .ok (.goto (-92), 3) := by decide +kernel
theorem dX6_pushes_178 : decode cX6_pushes 178 = .ok (.iconst 0, 1) := by decide +kernel
theorem dX6_pushes_179 : decode cX6_pushes 179 = .ok (.istore 9, 2) := by decide +kernel
theorem dX6_pushes_181 : decode cX6_pushes 181 = .ok (.iload 9, 2) := by decide +kernel
theorem dX6_pushes_183 : decode cX6_pushes 183 = .ok (.bipush 9, 2) := by decide +kernel
theorem dX6_pushes_185 : decode cX6_pushes 185 = .ok (.if_icmp .ge 37, 3) := by decide +kernel
theorem dX6_pushes_188 : decode cX6_pushes 188 = .ok (.aload_n 0, 1) := by decide +kernel
theorem dX6_pushes_189 : decode cX6_pushes 189 = .ok (.getfield 7, 3) := by decide +kernel
theorem dX6_pushes_192 : decode cX6_pushes 192 = .ok (.iconst 3, 1) := by decide +kernel
theorem dX6_pushes_193 : decode cX6_pushes 193 = .ok (.iload_n 3, 1) := by decide +kernel
theorem dX6_pushes_194 : decode cX6_pushes 194 = .ok (.imul, 1) := by decide +kernel
theorem dX6_pushes_195 : decode cX6_pushes 195 = .ok (.iload 9, 2) := by decide +kernel
theorem dX6_pushes_197 : decode cX6_pushes 197 = .ok (.iconst 3, 1) := by decide +kernel
theorem dX6_pushes_198 : decode cX6_pushes 198 = .ok (.idiv, 1) := by decide +kernel
theorem dX6_pushes_199 : decode cX6_pushes 199 = .ok (.iadd, 1) := by decide +kernel
theorem dX6_pushes_200 : decode cX6_pushes 200 = .ok (.bipush 6, 2) := by decide +kernel
theorem dX6_pushes_202 : decode cX6_pushes 202 = .ok (.iload 9, 2) := by decide +kernel
theorem dX6_pushes_204 : decode cX6_pushes 204 = .ok (.iconst 3, 1) := by decide +kernel
theorem dX6_pushes_205 : decode cX6_pushes 205 = .ok (.irem, 1) := by decide +kernel
theorem dX6_pushes_206 : decode cX6_pushes 206 = .ok (.iadd, 1) := by decide +kernel
theorem dX6_pushes_207 : decode cX6_pushes 207 = .ok (.invokestatic 48, 3) := by decide +kernel
theorem dX6_pushes_210 : decode cX6_pushes 210 = .ok (.aload 6, 2) := by decide +kernel
theorem dX6_pushes_212 : decode cX6_pushes 212 = .ok (.iload 9, 2) := by decide +kernel
theorem dX6_pushes_214 : decode cX6_pushes 214 = .ok (.iaload, 1) := by decide +kernel
theorem dX6_pushes_215 : decode cX6_pushes 215 = .ok (.iastore, 1) := by decide +kernel
theorem dX6_pushes_216 : decode cX6_pushes 216 = .ok (.iinc 9 1, 3) := by decide +kernel
theorem dX6_pushes_219 : decode cX6_pushes 219 = .ok (.goto (-38), 3) := by decide +kernel
theorem dX6_pushes_222 : decode cX6_pushes 222 = .ok (.aload_n 0, 1) := by decide +kernel
theorem dX6_pushes_223 : decode cX6_pushes 223 = .ok (.getfield 26, 3) := by decide +kernel
theorem dX6_pushes_226 : decode cX6_pushes 226 = .ok (.iconst 1, 1) := by decide +kernel
theorem dX6_pushes_227 : decode cX6_pushes 227 = .ok (.iload 4, 2) := by decide +kernel
theorem dX6_pushes_229 : decode cX6_pushes 229 = .ok (.iastore, 1) := by decide +kernel
theorem dX6_pushes_230 : decode cX6_pushes 230 = .ok (.aload_n 0, 1) := by decide +kernel
theorem dX6_pushes_231 : decode cX6_pushes 231 = .ok (.getfield 26, 3) := by decide +kernel
theorem dX6_pushes_234 : decode cX6_pushes 234 = .ok (.iconst 2, 1) := by decide +kernel
theorem dX6_pushes_235 : decode cX6_pushes 235 = .ok (.iload 5, 2) := by decide +kernel
theorem dX6_pushes_237 : decode cX6_pushes 237 = .ok (.iastore, 1) := by decide +kernel
theorem dX6_pushes_238 : decode cX6_pushes 238 = .ok (.aload_n 0, 1) := by decide +kernel
theorem dX6_pushes_239 : decode cX6_pushes 239 = .ok (.getfield 26, 3) := by decide +kernel
theorem dX6_pushes_242 : decode cX6_pushes 242 = .ok (.iconst 4, 1) := by decide +kernel
theorem dX6_pushes_243 : decode cX6_pushes 243 = .ok (.bipush 7, 2) := by decide +kernel
theorem dX6_pushes_245 : decode cX6_pushes 245 = .ok (.iastore, 1) := by decide +kernel
theorem dX6_pushes_246 : decode cX6_pushes 246 = .ok (.aload_n 0, 1) := by decide +kernel
theorem dX6_pushes_247 : decode cX6_pushes 247 = .ok (.iload 7, 2) := by decide +kernel
theorem dX6_pushes_249 : decode cX6_pushes 249 = .ok (.putfield 125, 3) := by decide +kernel
theorem dX6_pushes_252 : decode cX6_pushes 252 = .ok (.iload 8, 2) := by decide +kernel
theorem dX6_pushes_254 : decode cX6_pushes 254 = .ok (.ireturn, 1) := by decide +kernel
theorem dX6_counts_0 : decode cX6_counts 0 = .ok (.iload_n 2, 1) := by decide +kernel
theorem dX6_counts_1 : decode cX6_counts 1 = .ok (.aload_n 0, 1) := by decide +kernel
theorem dX6_counts_2 : decode cX6_counts 2 = .ok (.iload_n 1, 1) := by decide +kernel
theorem dX6_counts_3 : decode cX6_counts 3 = .ok (.iconst 3, 1) := by decide +kernel
theorem dX6_counts_4 : decode cX6_counts 4 = .ok (.idiv, 1) := by decide +kernel
theorem dX6_counts_5 : decode cX6_counts 5 = .ok (.invokevirtual 65, 3) := by decide +kernel
theorem dX6_counts_8 : decode cX6_counts 8 = .ok (.invokestatic 68, 3) := by decide +kernel
theorem dX6_counts_11 : decode cX6_counts 11 = .ok (.istore 4, 2) := by decide +kernel
theorem dX6_counts_13 : decode cX6_counts 13 = .ok (.iload_n 2, 1) := by decide +kernel
theorem dX6_counts_14 : decode cX6_counts 14 = .ok (.iload 4, 2) := by decide +kernel
theorem dX6_counts_16 : decode cX6_counts 16 = .ok (.isub, 1) := by decide +kernel
theorem dX6_counts_17 : decode cX6_counts 17 = .ok (.istore 5, 2) := by decide +kernel
theorem dX6_counts_19 : decode cX6_counts 19 = .ok (.iload_n 3, 1) := by decide +kernel
theorem dX6_counts_20 : decode cX6_counts 20 = .ok (.iconst 2, 1) := by decide +kernel
theorem dX6_counts_21 : decode cX6_counts 21 = .ok (.if_icmp .ne 44, 3) := by decide +kernel
theorem dX6_counts_24 : decode cX6_counts 24 = .ok (.aload_n 0, 1) := by decide +kernel
theorem dX6_counts_25 : decode cX6_counts 25 = .ok (.getfield 7, 3) := by decide +kernel
theorem dX6_counts_28 : decode cX6_counts 28 = .ok (.iload_n 1, 1) := by decide +kernel
theorem dX6_counts_29 : decode cX6_counts 29 = .ok (.bipush 7, 2) := by decide +kernel
theorem dX6_counts_31 : decode cX6_counts 31 = .ok (.invokestatic 48, 3) := by decide +kernel
theorem dX6_counts_34 : decode cX6_counts 34 = .ok (.iaload, 1) := by decide +kernel
theorem dX6_counts_35 : decode cX6_counts 35 = .ok (.iload 5, 2) := by decide +kernel
theorem dX6_counts_37 : decode cX6_counts 37 = .ok (.iadd, 1) := by decide +kernel
theorem dX6_counts_38 : decode cX6_counts 38 = .ok (.aload_n 0, 1) := by decide +kernel
theorem dX6_counts_39 : decode cX6_counts 39 = .ok (.iload_n 1, 1) := by decide +kernel
theorem dX6_counts_40 : decode cX6_counts 40 = .ok (.invokevirtual 113, 3) := by decide +kernel
theorem dX6_counts_43 : decode cX6_counts 43 = .ok (.isub, 1) := by decide +kernel
theorem dX6_counts_44 : decode cX6_counts 44 = .ok (.istore 6, 2) := by decide +kernel
theorem dX6_counts_46 : decode cX6_counts 46 = .ok (.aload_n 0, 1) := by decide +kernel
theorem dX6_counts_47 : decode cX6_counts 47 = .ok (.getfield 7, 3) := by decide +kernel
theorem dX6_counts_50 : decode cX6_counts 50 = .ok (.iload_n 1, 1) := by decide +kernel
theorem dX6_counts_51 : decode cX6_counts 51 = .ok (.iconst 3, 1) := by decide +kernel
theorem dX6_counts_52 : decode cX6_counts 52 = .ok (.invokestatic 48, 3) := by decide +kernel
theorem dX6_counts_55 : decode cX6_counts 55 = .ok (.dup2, 1) := by decide +kernel
theorem dX6_counts_56 : decode cX6_counts 56 = .ok (.iaload, 1) := by decide +kernel
theorem dX6_counts_57 : decode cX6_counts 57 = .ok (.iconst 0, 1) := by decide +kernel
theorem dX6_counts_58 : decode cX6_counts 58 = .ok (.iload 6, 2) := by decide +kernel
theorem dX6_counts_60 : decode cX6_counts 60 = .ok (.invokestatic 129, 3) := by decide +kernel
theorem dX6_counts_63 : decode cX6_counts 63 = .ok (.isub, 1) := by decide +kernel
theorem dX6_counts_64 : decode cX6_counts 64 = .ok (.iastore, 1) := by decide +kernel
theorem dX6_counts_65 : decode cX6_counts 65 = .ok (.aload_n 0, 1) := by decide +kernel
theorem dX6_counts_66 : decode cX6_counts 66 = .ok (.getfield 7, 3) := by decide +kernel
theorem dX6_counts_69 : decode cX6_counts 69 = .ok (.iload_n 1, 1) := by decide +kernel
theorem dX6_counts_70 : decode cX6_counts 70 = .ok (.bipush 6, 2) := by decide +kernel
theorem dX6_counts_72 : decode cX6_counts 72 = .ok (.invokestatic 48, 3) := by decide +kernel
theorem dX6_counts_75 : decode cX6_counts 75 = .ok (.dup2, 1) := by decide +kernel
theorem dX6_counts_76 : decode cX6_counts 76 = .ok (.iaload, 1) := by decide +kernel
theorem dX6_counts_77 : decode cX6_counts 77 = .ok (.iload 4, 2) := by decide +kernel
theorem dX6_counts_79 : decode cX6_counts 79 = .ok (.iadd, 1) := by decide +kernel
theorem dX6_counts_80 : decode cX6_counts 80 = .ok (.iastore, 1) := by decide +kernel
theorem dX6_counts_81 : decode cX6_counts 81 = .ok (.iload_n 3, 1) := by decide +kernel
theorem dX6_counts_82 : decode cX6_counts 82 = .ok (.iconst 3, 1) := by decide +kernel
theorem dX6_counts_83 : decode cX6_counts 83 = .ok (.if_icmp .ne 61, 3) := by decide +kernel
theorem dX6_counts_86 : decode cX6_counts 86 = .ok (.aload_n 0, 1) := by decide +kernel
theorem dX6_counts_87 : decode cX6_counts 87 = .ok (.getfield 7, 3) := by decide +kernel
theorem dX6_counts_90 : decode cX6_counts 90 = .ok (.iload_n 1, 1) := by decide +kernel
theorem dX6_counts_91 : decode cX6_counts 91 = .ok (.bipush 8, 2) := by decide +kernel
theorem dX6_counts_93 : decode cX6_counts 93 = .ok (.invokestatic 48, 3) := by decide +kernel
theorem dX6_counts_96 : decode cX6_counts 96 = .ok (.dup2, 1) := by decide +kernel
theorem dX6_counts_97 : decode cX6_counts 97 = .ok (.iaload, 1) := by decide +kernel
theorem dX6_counts_98 : decode cX6_counts 98 = .ok (.iload 5, 2) := by decide +kernel
theorem dX6_counts_100 : decode cX6_counts 100 = .ok (.iadd, 1) := by decide +kernel
theorem dX6_counts_101 : decode cX6_counts 101 = .ok (.iastore, 1) := by decide +kernel
theorem dX6_counts_102 : decode cX6_counts 102 = .ok (.aload_n 0, 1) := by decide +kernel
theorem dX6_counts_103 : decode cX6_counts 103 = .ok (.getfield 7, 3) := by decide +kernel
theorem dX6_counts_106 : decode cX6_counts 106 = .ok (.iload_n 1, 1) := by decide +kernel
theorem dX6_counts_107 : decode cX6_counts 107 = .ok (.bipush 11, 2) := by decide +kernel
theorem dX6_counts_109 : decode cX6_counts 109 = .ok (.invokestatic 48, 3) := by decide +kernel
theorem dX6_counts_112 : decode cX6_counts 112 = .ok (.dup2, 1) := by decide +kernel
theorem dX6_counts_113 : decode cX6_counts 113 = .ok (.iaload, 1) := by decide +kernel
theorem dX6_counts_114 : decode cX6_counts 114 = .ok (.iconst 1, 1) := by decide +kernel
theorem dX6_counts_115 : decode cX6_counts 115 = .ok (.aload_n 0, 1) := by decide +kernel
theorem dX6_counts_116 : decode cX6_counts 116 = .ok (.getfield 7, 3) := by decide +kernel
theorem dX6_counts_119 : decode cX6_counts 119 = .ok (.iload_n 1, 1) := by decide +kernel
theorem dX6_counts_120 : decode cX6_counts 120 = .ok (.bipush 10, 2) := by decide +kernel
theorem dX6_counts_122 : decode cX6_counts 122 = .ok (.invokestatic 48, 3) := by decide +kernel
theorem dX6_counts_125 : decode cX6_counts 125 = .ok (.iaload, 1) := by decide +kernel
theorem dX6_counts_126 : decode cX6_counts 126 = .ok (.isub, 1) := by decide +kernel
theorem dX6_counts_127 : decode cX6_counts 127 = .ok (.iadd, 1) := by decide +kernel
theorem dX6_counts_128 : decode cX6_counts 128 = .ok (.iastore, 1) := by decide +kernel
theorem dX6_counts_129 : decode cX6_counts 129 = .ok (.aload_n 0, 1) := by decide +kernel
theorem dX6_counts_130 : decode cX6_counts 130 = .ok (.getfield 7, 3) := by decide +kernel
theorem dX6_counts_133 : decode cX6_counts 133 = .ok (.iload_n 1, 1) := by decide +kernel
theorem dX6_counts_134 : decode cX6_counts 134 = .ok (.bipush 10, 2) := by decide +kernel
theorem dX6_counts_136 : decode cX6_counts 136 = .ok (.invokestatic 48, 3) := by decide +kernel
theorem dX6_counts_139 : decode cX6_counts 139 = .ok (.iconst 1, 1) := by decide +kernel
theorem dX6_counts_140 : decode cX6_counts 140 = .ok (.iastore, 1) := by decide +kernel
theorem dX6_counts_141 : decode cX6_counts 141 = .ok (.goto 19, 3) := by decide +kernel
theorem dX6_counts_144 : decode cX6_counts 144 = .ok (.aload_n 0, 1) := by decide +kernel
theorem dX6_counts_145 : decode cX6_counts 145 = .ok (.getfield 7, 3) := by decide +kernel
theorem dX6_counts_148 : decode cX6_counts 148 = .ok (.iload_n 1, 1) := by decide +kernel
theorem dX6_counts_149 : decode cX6_counts 149 = .ok (.bipush 7, 2) := by decide +kernel
theorem dX6_counts_151 : decode cX6_counts 151 = .ok (.invokestatic 48, 3) := by decide +kernel
theorem dX6_counts_154 : decode cX6_counts 154 = .ok (.dup2, 1) := by decide +kernel
theorem dX6_counts_155 : decode cX6_counts 155 = .ok (.iaload, 1) := by decide +kernel
theorem dX6_counts_156 : decode cX6_counts 156 = .ok (.iload 5, 2) := by decide +kernel
theorem dX6_counts_158 : decode cX6_counts 158 = .ok (.iadd, 1) := by decide +kernel
theorem dX6_counts_159 : decode cX6_counts 159 = .ok (.iastore, 1) := by decide +kernel
theorem dX6_counts_160 : decode cX6_counts 160 = .ok (.return_, 1) := by decide +kernel
theorem dX6_removesVictims_0 : decode cX6_removesVictims 0 = .ok (.aload_n 0, 1) := by decide +kernel
theorem dX6_removesVictims_1 : decode cX6_removesVictims 1 = .ok (.getfield 125, 3) := by decide +kernel
theorem dX6_removesVictims_4 : decode cX6_removesVictims 4 = .ok (.istore_n 2, 1) := by decide +kernel
theorem dX6_removesVictims_5 : decode cX6_removesVictims 5 = .ok (.iconst 3, 1) := by decide +kernel
theorem dX6_removesVictims_6 : decode cX6_removesVictims 6 = .ok (.iload_n 1, 1) := by decide +kernel
theorem dX6_removesVictims_7 : decode cX6_removesVictims 7 = .ok (.iconst 3, 1) := by decide +kernel
theorem dX6_removesVictims_8 : decode cX6_removesVictims 8 = .ok (.idiv, 1) := by decide +kernel
theorem dX6_removesVictims_9 : decode cX6_removesVictims 9 = .ok (.imul, 1) := by decide +kernel
theorem dX6_removesVictims_10 : decode cX6_removesVictims 10 = .ok (.iconst 2, 1) := by decide +kernel
theorem dX6_removesVictims_11 : decode cX6_removesVictims 11 = .ok (.iadd, 1) := by decide +kernel
theorem dX6_removesVictims_12 : decode cX6_removesVictims 12 = .ok (.istore_n 3, 1) := by decide +kernel
theorem dX6_removesVictims_13 : decode cX6_removesVictims 13 = .ok (.iload_n 2, 1) := by decide +kernel
theorem dX6_removesVictims_14 : decode cX6_removesVictims 14 = .ok (.ifCond .le 69, 3) := by decide +kernel
theorem dX6_removesVictims_17 : decode cX6_removesVictims 17 = .ok (.iload_n 2, 1) := by decide +kernel
theorem dX6_removesVictims_18 : decode cX6_removesVictims 18 = .ok (.ifCond .le 59, 3) := by decide +kernel
theorem dX6_removesVictims_21 : decode cX6_removesVictims 21 = .ok (.aload_n 0, 1) := by decide +kernel
theorem dX6_removesVictims_22 : decode cX6_removesVictims 22 = .ok (.getfield 7, 3) := by decide +kernel
theorem dX6_removesVictims_25 : decode cX6_removesVictims 25 = .ok (.iload_n 3, 1) := by decide +kernel
theorem dX6_removesVictims_26 : decode cX6_removesVictims 26 = .ok (.bipush 12, 2) := by decide +kernel
theorem dX6_removesVictims_28 : decode cX6_removesVictims 28 = .ok (.invokestatic 48, 3) := by decide +kernel
theorem dX6_removesVictims_31 : decode cX6_removesVictims 31 = .ok (.iaload, 1) := by decide +kernel
theorem dX6_removesVictims_32 : decode cX6_removesVictims 32 = .ok (.ifCond .le 45, 3) := by decide +kernel
theorem dX6_removesVictims_35 : decode cX6_removesVictims 35 = .ok (.aload_n 0, 1) := by decide +kernel
theorem dX6_removesVictims_36 : decode cX6_removesVictims 36 = .ok (.iload_n 3, 1) := by decide +kernel
theorem dX6_removesVictims_37 : decode cX6_removesVictims 37 = .ok (.aload_n 0, 1) := by decide +kernel
theorem dX6_removesVictims_38 : decode cX6_removesVictims 38 = .ok (.getfield 7, 3) := by decide +kernel
theorem dX6_removesVictims_41 : decode cX6_removesVictims 41 = .ok (.iload_n 3, 1) := by decide +kernel
theorem dX6_removesVictims_42 : decode cX6_removesVictims 42 = .ok (.bipush 12, 2) := by decide +kernel
theorem dX6_removesVictims_44 : decode cX6_removesVictims 44 = .ok (.invokestatic 48, 3) := by decide +kernel
theorem dX6_removesVictims_47 : decode cX6_removesVictims 47 = .ok (.iaload, 1) := by decide +kernel
theorem dX6_removesVictims_48 : decode cX6_removesVictims 48 = .ok (.iconst 1, 1) := by decide +kernel
theorem dX6_removesVictims_49 : decode cX6_removesVictims 49 = .ok (.isub, 1) := by decide +kernel
theorem dX6_removesVictims_50 : decode cX6_removesVictims 50 = .ok (.invokevirtual 132, 3) := by decide +kernel
theorem dX6_removesVictims_53 : decode cX6_removesVictims 53 = .ok (.istore 4, 2) := by decide +kernel
theorem dX6_removesVictims_55 : decode cX6_removesVictims 55 = .ok (.aload_n 0, 1) := by decide +kernel
theorem dX6_removesVictims_56 : decode cX6_removesVictims 56 = .ok (.iload_n 3, 1) := by decide +kernel
theorem dX6_removesVictims_57 : decode cX6_removesVictims 57 = .ok (.invokevirtual 135, 3) := by decide +kernel
theorem dX6_removesVictims_60 : decode cX6_removesVictims 60 = .ok (.aload_n 0, 1) := by decide +kernel
theorem dX6_removesVictims_61 : decode cX6_removesVictims 61 = .ok (.iload_n 1, 1) := by decide +kernel
theorem dX6_removesVictims_62 : decode cX6_removesVictims 62 = .ok (.iconst 3, 1) := by decide +kernel
theorem dX6_removesVictims_63 : decode cX6_removesVictims 63 = .ok (.idiv, 1) := by decide +kernel
theorem dX6_removesVictims_64 : decode cX6_removesVictims 64 = .ok (.bipush 8, 2) := by decide +kernel
theorem dX6_removesVictims_66 : decode cX6_removesVictims 66 = .ok (.iload 4, 2) := by decide +kernel
theorem dX6_removesVictims_68 : decode cX6_removesVictims 68 = .ok (.invokevirtual 138, 3) := by decide +kernel
theorem dX6_removesVictims_71 : decode cX6_removesVictims 71 = .ok (.iinc 2 (-1), 3) := by decide +kernel
theorem dX6_removesVictims_74 : decode cX6_removesVictims 74 = .ok (.goto (-57), 3) := by decide +kernel
theorem dX6_removesVictims_77 : decode cX6_removesVictims 77 = .ok (.iinc 3 (-1), 3) := by decide +kernel
theorem dX6_removesVictims_80 : decode cX6_removesVictims 80 = .ok (.goto (-67), 3) := by decide +kernel
theorem dX6_removesVictims_83 : decode cX6_removesVictims 83 = .ok (.return_, 1) := by decide +kernel
theorem dX6_arrives_0 : decode cX6_arrives 0 = .ok (.aload_n 0, 1) := by decide +kernel
theorem dX6_arrives_1 : decode cX6_arrives 1 = .ok (.iload_n 1, 1) := by decide +kernel
theorem dX6_arrives_2 : decode cX6_arrives 2 = .ok (.iload_n 2, 1) := by decide +kernel
theorem dX6_arrives_3 : decode cX6_arrives 3 = .ok (.invokevirtual 142, 3) := by decide +kernel
theorem dX6_arrives_6 : decode cX6_arrives 6 = .ok (.istore_n 3, 1) := by decide +kernel
theorem dX6_arrives_7 : decode cX6_arrives 7 = .ok (.iload_n 3, 1) := by decide +kernel
theorem dX6_arrives_8 : decode cX6_arrives 8 = .ok (.ifCond .ne 80, 3) := by decide +kernel
theorem dX6_arrives_11 : decode cX6_arrives 11 = .ok (.aload_n 0, 1) := by decide +kernel
theorem dX6_arrives_12 : decode cX6_arrives 12 = .ok (.getfield 7, 3) := by decide +kernel
theorem dX6_arrives_15 : decode cX6_arrives 15 = .ok (.iconst 5, 1) := by decide +kernel
theorem dX6_arrives_16 : decode cX6_arrives 16 = .ok (.iconst 1, 1) := by decide +kernel
theorem dX6_arrives_17 : decode cX6_arrives 17 = .ok (.iastore, 1) := by decide +kernel
theorem dX6_arrives_18 : decode cX6_arrives 18 = .ok (.iconst 0, 1) := by decide +kernel
theorem dX6_arrives_19 : decode cX6_arrives 19 = .ok (.istore 4, 2) := by decide +kernel
theorem dX6_arrives_21 : decode cX6_arrives 21 = .ok (.iload 4, 2) := by decide +kernel
theorem dX6_arrives_23 : decode cX6_arrives 23 = .ok (.iconst 4, 1) := by decide +kernel
theorem dX6_arrives_24 : decode cX6_arrives 24 = .ok (.if_icmp .ge 28, 3) := by decide +kernel
theorem dX6_arrives_27 : decode cX6_arrives 27 = .ok (.aload_n 0, 1) := by decide +kernel
theorem dX6_arrives_28 : decode cX6_arrives 28 = .ok (.getfield 7, 3) := by decide +kernel
theorem dX6_arrives_31 : decode cX6_arrives 31 = .ok (.bipush 6, 2) := by decide +kernel
theorem dX6_arrives_33 : decode cX6_arrives 33 = .ok (.iload 4, 2) := by decide +kernel
theorem dX6_arrives_35 : decode cX6_arrives 35 = .ok (.iadd, 1) := by decide +kernel
theorem dX6_arrives_36 : decode cX6_arrives 36 = .ok (.aload_n 0, 1) := by decide +kernel
theorem dX6_arrives_37 : decode cX6_arrives 37 = .ok (.getfield 26, 3) := by decide +kernel
theorem dX6_arrives_40 : decode cX6_arrives 40 = .ok (.iconst 4, 1) := by decide +kernel
theorem dX6_arrives_41 : decode cX6_arrives 41 = .ok (.iload 4, 2) := by decide +kernel
theorem dX6_arrives_43 : decode cX6_arrives 43 = .ok (.isub, 1) := by decide +kernel
theorem dX6_arrives_44 : decode cX6_arrives 44 = .ok (.iaload, 1) := by decide +kernel
theorem dX6_arrives_45 : decode cX6_arrives 45 = .ok (.iastore, 1) := by decide +kernel
theorem dX6_arrives_46 : decode cX6_arrives 46 = .ok (.iinc 4 1, 3) := by decide +kernel
theorem dX6_arrives_49 : decode cX6_arrives 49 = .ok (.goto (-28), 3) := by decide +kernel
theorem dX6_arrives_52 : decode cX6_arrives 52 = .ok (.aload_n 0, 1) := by decide +kernel
theorem dX6_arrives_53 : decode cX6_arrives 53 = .ok (.iload_n 1, 1) := by decide +kernel
theorem dX6_arrives_54 : decode cX6_arrives 54 = .ok (.iconst 3, 1) := by decide +kernel
theorem dX6_arrives_55 : decode cX6_arrives 55 = .ok (.idiv, 1) := by decide +kernel
theorem dX6_arrives_56 : decode cX6_arrives 56 = .ok (.aload_n 0, 1) := by decide +kernel
theorem dX6_arrives_57 : decode cX6_arrives 57 = .ok (.getfield 7, 3) := by decide +kernel
theorem dX6_arrives_60 : decode cX6_arrives 60 = .ok (.iload_n 1, 1) := by decide +kernel
theorem dX6_arrives_61 : decode cX6_arrives 61 = .ok (.bipush 9, 2) := by decide +kernel
theorem dX6_arrives_63 : decode cX6_arrives 63 = .ok (.invokestatic 48, 3) := by decide +kernel
theorem dX6_arrives_66 : decode cX6_arrives 66 = .ok (.iaload, 1) := by decide +kernel
theorem dX6_arrives_67 : decode cX6_arrives 67 = .ok (.iconst 1, 1) := by decide +kernel
theorem dX6_arrives_68 : decode cX6_arrives 68 = .ok (.if_icmp .ne 7, 3) := by decide +kernel
theorem dX6_arrives_71 : decode cX6_arrives 71 = .ok (.iconst 5, 1) := by decide +kernel
theorem dX6_arrives_72 : decode cX6_arrives 72 = .ok (.goto 9, 3) := by decide +kernel
theorem dX6_arrives_75 : decode cX6_arrives 75 = .ok (.aload_n 0, 1) := by decide +kernel
theorem dX6_arrives_76 : decode cX6_arrives 76 = .ok (.getfield 26, 3) := by decide +kernel
theorem dX6_arrives_79 : decode cX6_arrives 79 = .ok (.iconst 2, 1) := by decide +kernel
theorem dX6_arrives_80 : decode cX6_arrives 80 = .ok (.iaload, 1) := by decide +kernel
theorem dX6_arrives_81 : decode cX6_arrives 81 = .ok (.iload_n 2, 1) := by decide +kernel
theorem dX6_arrives_82 : decode cX6_arrives 82 = .ok (.invokevirtual 138, 3) := by decide +kernel
theorem dX6_arrives_85 : decode cX6_arrives 85 = .ok (.bipush (-6), 2) := by decide +kernel
theorem dX6_arrives_87 : decode cX6_arrives 87 = .ok (.ireturn, 1) := by decide +kernel
theorem dX6_arrives_88 : decode cX6_arrives 88 = .ok (.iload_n 3, 1) := by decide +kernel
theorem dX6_arrives_89 : decode cX6_arrives 89 = .ok (.iconst 4, 1) := by decide +kernel
theorem dX6_arrives_90 : decode cX6_arrives 90 = .ok (.if_icmp .ne 15, 3) := by decide +kernel
theorem dX6_arrives_93 : decode cX6_arrives 93 = .ok (.aload_n 0, 1) := by decide +kernel
theorem dX6_arrives_94 : decode cX6_arrives 94 = .ok (.iload_n 1, 1) := by decide +kernel
theorem dX6_arrives_95 : decode cX6_arrives 95 = .ok (.invokevirtual 145, 3) := by decide +kernel
theorem dX6_arrives_98 : decode cX6_arrives 98 = .ok (.aload_n 0, 1) := by decide +kernel
theorem dX6_arrives_99 : decode cX6_arrives 99 = .ok (.iload_n 1, 1) := by decide +kernel
theorem dX6_arrives_100 : decode cX6_arrives 100 = .ok (.iload_n 2, 1) := by decide +kernel
theorem dX6_arrives_101 : decode cX6_arrives 101 = .ok (.invokevirtual 116, 3) := by decide +kernel
theorem dX6_arrives_104 : decode cX6_arrives 104 = .ok (.istore_n 3, 1) := by decide +kernel
theorem dX6_arrives_105 : decode cX6_arrives 105 = .ok (.aload_n 0, 1) := by decide +kernel
theorem dX6_arrives_106 : decode cX6_arrives 106 = .ok (.iload_n 1, 1) := by decide +kernel
theorem dX6_arrives_107 : decode cX6_arrives 107 = .ok (.iload_n 2, 1) := by decide +kernel
