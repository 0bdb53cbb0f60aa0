theorem dX0_init_0 : decode cX0_init 0 = .ok (.aload_n 0, 1) := by decide +kernel
theorem dX0_init_1 : decode cX0_init 1 = .ok (.invokespecial 3, 3) := by decide +kernel
theorem dX0_init_4 : decode cX0_init 4 = .ok (.aload_n 0, 1) := by decide +kernel
theorem dX0_init_5 : decode cX0_init 5 = .ok (.bipush 15, 2) := by decide +kernel
theorem dX0_init_7 : decode cX0_init 7 = .ok (.newarray .int, 2) := by decide +kernel
theorem dX0_init_9 : decode cX0_init 9 = .ok (.putfield 9, 3) := by decide +kernel
theorem dX0_init_12 : decode cX0_init 12 = .ok (.aload_n 0, 1) := by decide +kernel
theorem dX0_init_13 : decode cX0_init 13 = .ok (.bipush 15, 2) := by decide +kernel
theorem dX0_init_15 : decode cX0_init 15 = .ok (.newarray .int, 2) := by decide +kernel
theorem dX0_init_17 : decode cX0_init 17 = .ok (.putfield 15, 3) := by decide +kernel
theorem dX0_init_20 : decode cX0_init 20 = .ok (.return_, 1) := by decide +kernel
theorem dX0_add_0 : decode cX0_add 0 = .ok (.aload_n 0, 1) := by decide +kernel
theorem dX0_add_1 : decode cX0_add 1 = .ok (.getfield 9, 3) := by decide +kernel
theorem dX0_add_4 : decode cX0_add 4 = .ok (.aload_n 0, 1) := by decide +kernel
theorem dX0_add_5 : decode cX0_add 5 = .ok (.getfield 18, 3) := by decide +kernel
theorem dX0_add_8 : decode cX0_add 8 = .ok (.iload_n 1, 1) := by decide +kernel
theorem dX0_add_9 : decode cX0_add 9 = .ok (.iastore, 1) := by decide +kernel
theorem dX0_add_10 : decode cX0_add 10 = .ok (.aload_n 0, 1) := by decide +kernel
theorem dX0_add_11 : decode cX0_add 11 = .ok (.getfield 15, 3) := by decide +kernel
theorem dX0_add_14 : decode cX0_add 14 = .ok (.aload_n 0, 1) := by decide +kernel
theorem dX0_add_15 : decode cX0_add 15 = .ok (.getfield 18, 3) := by decide +kernel
theorem dX0_add_18 : decode cX0_add 18 = .ok (.iload_n 2, 1) := by decide +kernel
theorem dX0_add_19 : decode cX0_add 19 = .ok (.iastore, 1) := by decide +kernel
theorem dX0_add_20 : decode cX0_add 20 = .ok (.aload_n 0, 1) := by decide +kernel
theorem dX0_add_21 : decode cX0_add 21 = .ok (.dup, 1) := by decide +kernel
theorem dX0_add_22 : decode cX0_add 22 = .ok (.getfield 18, 3) := by decide +kernel
theorem dX0_add_25 : decode cX0_add 25 = .ok (.iconst 1, 1) := by decide +kernel
theorem dX0_add_26 : decode cX0_add 26 = .ok (.iadd, 1) := by decide +kernel
theorem dX0_add_27 : decode cX0_add 27 = .ok (.putfield 18, 3) := by decide +kernel
theorem dX0_add_30 : decode cX0_add 30 = .ok (.return_, 1) := by decide +kernel
theorem dX0_firstWrong_0 : decode cX0_firstWrong 0 = .ok (.iconst 0, 1) := by decide +kernel
theorem dX0_firstWrong_1 : decode cX0_firstWrong 1 = .ok (.istore_n 2, 1) := by decide +kernel
theorem dX0_firstWrong_2 : decode cX0_firstWrong 2 = .ok (.iload_n 2, 1) := by decide +kernel
theorem dX0_firstWrong_3 : decode cX0_firstWrong 3 = .ok (.aload_n 0, 1) := by decide +kernel
theorem dX0_firstWrong_4 : decode cX0_firstWrong 4 = .ok (.getfield 18, 3) := by decide +kernel
theorem dX0_firstWrong_7 : decode cX0_firstWrong 7 = .ok (.if_icmp .ge 31, 3) := by decide +kernel
theorem dX0_firstWrong_10 : decode cX0_firstWrong 10 = .ok (.aload_n 1, 1) := by decide +kernel
theorem dX0_firstWrong_11 : decode cX0_firstWrong 11 = .ok (.getfield 22, 3) := by decide +kernel
theorem dX0_firstWrong_14 : decode cX0_firstWrong 14 = .ok (.aload_n 0, 1) := by decide +kernel
theorem dX0_firstWrong_15 : decode cX0_firstWrong 15 = .ok (.getfield 9, 3) := by decide +kernel
theorem dX0_firstWrong_18 : decode cX0_firstWrong 18 = .ok (.iload_n 2, 1) := by decide +kernel
theorem dX0_firstWrong_19 : decode cX0_firstWrong 19 = .ok (.iaload, 1) := by decide +kernel
theorem dX0_firstWrong_20 : decode cX0_firstWrong 20 = .ok (.iaload, 1) := by decide +kernel
theorem dX0_firstWrong_21 : decode cX0_firstWrong 21 = .ok (.aload_n 0, 1) := by decide +kernel
theorem dX0_firstWrong_22 : decode cX0_firstWrong 22 = .ok (.getfield 15, 3) := by decide +kernel
theorem dX0_firstWrong_25 : decode cX0_firstWrong 25 = .ok (.iload_n 2, 1) := by decide +kernel
theorem dX0_firstWrong_26 : decode cX0_firstWrong 26 = .ok (.iaload, 1) := by decide +kernel
theorem dX0_firstWrong_27 : decode cX0_firstWrong 27 = .ok (.if_icmp .eq 5, 3) := by decide +kernel
theorem dX0_firstWrong_30 : decode cX0_firstWrong 30 = .ok (.iload_n 2, 1) := by decide +kernel
theorem dX0_firstWrong_31 : decode cX0_firstWrong 31 = .ok (.ireturn, 1) := by decide +kernel
theorem dX0_firstWrong_32 : decode cX0_firstWrong 32 = .ok (.iinc 2 1, 3) := by decide +kernel
theorem dX0_firstWrong_35 : decode cX0_firstWrong 35 = .ok (.goto (-33), 3) := by decide +kernel
theorem dX0_firstWrong_38 : decode cX0_firstWrong 38 = .ok (.iconst (-1), 1) := by decide +kernel
theorem dX0_firstWrong_39 : decode cX0_firstWrong 39 = .ok (.ireturn, 1) := by decide +kernel
theorem dX1_init_0 : decode cX1_init 0 = .ok (.aload_n 0, 1) := by decide +kernel
theorem dX1_init_1 : decode cX1_init 1 = .ok (.invokespecial 3, 3) := by decide +kernel
theorem dX1_init_4 : decode cX1_init 4 = .ok (.aload_n 0, 1) := by decide +kernel
theorem dX1_init_5 : decode cX1_init 5 = .ok (.new 9, 3) := by decide +kernel
theorem dX1_init_8 : decode cX1_init 8 = .ok (.dup, 1) := by decide +kernel
theorem dX1_init_9 : decode cX1_init 9 = .ok (.invokespecial 11, 3) := by decide +kernel
theorem dX1_init_12 : decode cX1_init 12 = .ok (.putfield 12, 3) := by decide +kernel
theorem dX1_init_15 : decode cX1_init 15 = .ok (.aload_n 0, 1) := by decide +kernel
theorem dX1_init_16 : decode cX1_init 16 = .ok (.new 18, 3) := by decide +kernel
theorem dX1_init_19 : decode cX1_init 19 = .ok (.dup, 1) := by decide +kernel
theorem dX1_init_20 : decode cX1_init 20 = .ok (.invokespecial 20, 3) := by decide +kernel
theorem dX1_init_23 : decode cX1_init 23 = .ok (.putfield 21, 3) := by decide +kernel
theorem dX1_init_26 : decode cX1_init 26 = .ok (.return_, 1) := by decide +kernel
theorem dX1_timeOf_0 : decode cX1_timeOf 0 = .ok (.aload_n 0, 1) := by decide +kernel
theorem dX1_timeOf_1 : decode cX1_timeOf 1 = .ok (.iload_n 1, 1) := by decide +kernel
theorem dX1_timeOf_2 : decode cX1_timeOf 2 = .ok (.aload_n 0, 1) := by decide +kernel
theorem dX1_timeOf_3 : decode cX1_timeOf 3 = .ok (.getfield 21, 3) := by decide +kernel
theorem dX1_timeOf_6 : decode cX1_timeOf 6 = .ok (.getfield 25, 3) := by decide +kernel
theorem dX1_timeOf_9 : decode cX1_timeOf 9 = .ok (.iload_n 1, 1) := by decide +kernel
theorem dX1_timeOf_10 : decode cX1_timeOf 10 = .ok (.iaload, 1) := by decide +kernel
theorem dX1_timeOf_11 : decode cX1_timeOf 11 = .ok (.invokevirtual 29, 3) := by decide +kernel
theorem dX1_timeOf_14 : decode cX1_timeOf 14 = .ok (.ireturn, 1) := by decide +kernel
theorem dX1_timeIfTired_0 : decode cX1_timeIfTired 0 = .ok (.aload_n 0, 1) := by decide +kernel
theorem dX1_timeIfTired_1 : decode cX1_timeIfTired 1 = .ok (.getfield 21, 3) := by decide +kernel
theorem dX1_timeIfTired_4 : decode cX1_timeIfTired 4 = .ok (.getfield 33, 3) := by decide +kernel
theorem dX1_timeIfTired_7 : decode cX1_timeIfTired 7 = .ok (.iload_n 1, 1) := by decide +kernel
theorem dX1_timeIfTired_8 : decode cX1_timeIfTired 8 = .ok (.iaload, 1) := by decide +kernel
theorem dX1_timeIfTired_9 : decode cX1_timeIfTired 9 = .ok (.istore_n 3, 1) := by decide +kernel
theorem dX1_timeIfTired_10 : decode cX1_timeIfTired 10 = .ok (.aload_n 0, 1) := by decide +kernel
theorem dX1_timeIfTired_11 : decode cX1_timeIfTired 11 = .ok (.getfield 12, 3) := by decide +kernel
theorem dX1_timeIfTired_14 : decode cX1_timeIfTired 14 = .ok (.getfield 36, 3) := by decide +kernel
theorem dX1_timeIfTired_17 : decode cX1_timeIfTired 17 = .ok (.iload_n 1, 1) := by decide +kernel
theorem dX1_timeIfTired_18 : decode cX1_timeIfTired 18 = .ok (.iaload, 1) := by decide +kernel
theorem dX1_timeIfTired_19 : decode cX1_timeIfTired 19 = .ok (.tableswitch 49 1 3 #[25, 39, 43], 25) := by decide +kernel
theorem dX1_timeIfTired_44 : decode cX1_timeIfTired 44 = .ok (.iload_n 3, 1) := by decide +kernel
theorem dX1_timeIfTired_45 : decode cX1_timeIfTired 45 = .ok (.aload_n 0, 1) := by decide +kernel
theorem dX1_timeIfTired_46 : decode cX1_timeIfTired 46 = .ok (.getfield 21, 3) := by decide +kernel
theorem dX1_timeIfTired_49 : decode cX1_timeIfTired 49 = .ok (.getfield 39, 3) := by decide +kernel
theorem dX1_timeIfTired_52 : decode cX1_timeIfTired 52 = .ok (.iconst 2, 1) := by decide +kernel
theorem dX1_timeIfTired_53 : decode cX1_timeIfTired 53 = .ok (.irem, 1) := by decide +kernel
theorem dX1_timeIfTired_54 : decode cX1_timeIfTired 54 = .ok (.iconst 2, 1) := by decide +kernel
theorem dX1_timeIfTired_55 : decode cX1_timeIfTired 55 = .ok (.imul, 1) := by decide +kernel
theorem dX1_timeIfTired_56 : decode cX1_timeIfTired 56 = .ok (.iadd, 1) := by decide +kernel
theorem dX1_timeIfTired_57 : decode cX1_timeIfTired 57 = .ok (.ireturn, 1) := by decide +kernel
theorem dX1_timeIfTired_58 : decode cX1_timeIfTired 58 = .ok (.iload_n 3, 1) := by decide +kernel
theorem dX1_timeIfTired_59 : decode cX1_timeIfTired 59 = .ok (.iload_n 2, 1) := by decide +kernel
theorem dX1_timeIfTired_60 : decode cX1_timeIfTired 60 = .ok (.iadd, 1) := by decide +kernel
theorem dX1_timeIfTired_61 : decode cX1_timeIfTired 61 = .ok (.ireturn, 1) := by decide +kernel
theorem dX1_timeIfTired_62 : decode cX1_timeIfTired 62 = .ok (.iload_n 3, 1) := by decide +kernel
theorem dX1_timeIfTired_63 : decode cX1_timeIfTired 63 = .ok (.iload_n 2, 1) := by decide +kernel
theorem dX1_timeIfTired_64 : decode cX1_timeIfTired 64 = .ok (.iconst 3, 1) := by decide +kernel
theorem dX1_timeIfTired_65 : decode cX1_timeIfTired 65 = .ok (.idiv, 1) := by decide +kernel
theorem dX1_timeIfTired_66 : decode cX1_timeIfTired 66 = .ok (.iadd, 1) := by decide +kernel
theorem dX1_timeIfTired_67 : decode cX1_timeIfTired 67 = .ok (.ireturn, 1) := by decide +kernel
theorem dX1_timeIfTired_68 : decode cX1_timeIfTired 68 = .ok (.iload_n 3, 1) := by decide +kernel
theorem dX1_timeIfTired_69 : decode cX1_timeIfTired 69 = .ok (.ireturn, 1) := by decide +kernel
theorem dX1_flightOver_0 : decode cX1_flightOver 0 = .ok (.aload_n 0, 1) := by decide +kernel
theorem dX1_flightOver_1 : decode cX1_flightOver 1 = .ok (.getfield 12, 3) := by decide +kernel
theorem dX1_flightOver_4 : decode cX1_flightOver 4 = .ok (.getfield 43, 3) := by decide +kernel
theorem dX1_flightOver_7 : decode cX1_flightOver 7 = .ok (.iload_n 2, 1) := by decide +kernel
theorem dX1_flightOver_8 : decode cX1_flightOver 8 = .ok (.iaload, 1) := by decide +kernel
theorem dX1_flightOver_9 : decode cX1_flightOver 9 = .ok (.istore_n 3, 1) := by decide +kernel
theorem dX1_flightOver_10 : decode cX1_flightOver 10 = .ok (.aload_n 0, 1) := by decide +kernel
theorem dX1_flightOver_11 : decode cX1_flightOver 11 = .ok (.getfield 21, 3) := by decide +kernel
theorem dX1_flightOver_14 : decode cX1_flightOver 14 = .ok (.getfield 46, 3) := by decide +kernel
theorem dX1_flightOver_17 : decode cX1_flightOver 17 = .ok (.iload_n 1, 1) := by decide +kernel
theorem dX1_flightOver_18 : decode cX1_flightOver 18 = .ok (.iaload, 1) := by decide +kernel
theorem dX1_flightOver_19 : decode cX1_flightOver 19 = .ok (.istore 4, 2) := by decide +kernel
theorem dX1_flightOver_21 : decode cX1_flightOver 21 = .ok (.aload_n 0, 1) := by decide +kernel
theorem dX1_flightOver_22 : decode cX1_flightOver 22 = .ok (.getfield 12, 3) := by decide +kernel
theorem dX1_flightOver_25 : decode cX1_flightOver 25 = .ok (.getfield 49, 3) := by decide +kernel
theorem dX1_flightOver_28 : decode cX1_flightOver 28 = .ok (.iload_n 1, 1) := by decide +kernel
theorem dX1_flightOver_29 : decode cX1_flightOver 29 = .ok (.iaload, 1) := by decide +kernel
theorem dX1_flightOver_30 : decode cX1_flightOver 30 = .ok (.tableswitch 60 1 3 #[26, 35, 56], 26) := by decide +kernel
theorem dX1_flightOver_56 : decode cX1_flightOver 56 = .ok (.iconst 0, 1) := by decide +kernel
theorem dX1_flightOver_57 : decode cX1_flightOver 57 = .ok (.iload_n 3, 1) := by decide +kernel
theorem dX1_flightOver_58 : decode cX1_flightOver 58 = .ok (.iload 4, 2) := by decide +kernel
theorem dX1_flightOver_60 : decode cX1_flightOver 60 = .ok (.isub, 1) := by decide +kernel
theorem dX1_flightOver_61 : decode cX1_flightOver 61 = .ok (.invokestatic 52, 3) := by decide +kernel
theorem dX1_flightOver_64 : decode cX1_flightOver 64 = .ok (.ireturn, 1) := by decide +kernel
theorem dX1_flightOver_65 : decode cX1_flightOver 65 = .ok (.iconst 0, 1) := by decide +kernel
theorem dX1_flightOver_66 : decode cX1_flightOver 66 = .ok (.iload_n 3, 1) := by decide +kernel
theorem dX1_flightOver_67 : decode cX1_flightOver 67 = .ok (.iload 4, 2) := by decide +kernel
theorem dX1_flightOver_69 : decode cX1_flightOver 69 = .ok (.iconst 2, 1) := by decide +kernel
theorem dX1_flightOver_70 : decode cX1_flightOver 70 = .ok (.idiv, 1) := by decide +kernel
theorem dX1_flightOver_71 : decode cX1_flightOver 71 = .ok (.isub, 1) := by decide +kernel
theorem dX1_flightOver_72 : decode cX1_flightOver 72 = .ok (.aload_n 0, 1) := by decide +kernel
theorem dX1_flightOver_73 : decode cX1_flightOver 73 = .ok (.getfield 21, 3) := by decide +kernel
theorem dX1_flightOver_76 : decode cX1_flightOver 76 = .ok (.getfield 39, 3) := by decide +kernel
theorem dX1_flightOver_79 : decode cX1_flightOver 79 = .ok (.iconst 2, 1) := by decide +kernel
theorem dX1_flightOver_80 : decode cX1_flightOver 80 = .ok (.irem, 1) := by decide +kernel
theorem dX1_flightOver_81 : decode cX1_flightOver 81 = .ok (.isub, 1) := by decide +kernel
theorem dX1_flightOver_82 : decode cX1_flightOver 82 = .ok (.invokestatic 52, 3) := by decide +kernel
theorem dX1_flightOver_85 : decode cX1_flightOver 85 = .ok (.ireturn, 1) := by decide +kernel
theorem dX1_flightOver_86 : decode cX1_flightOver 86 = .ok (.iload_n 3, 1) := by decide +kernel
theorem dX1_flightOver_87 : decode cX1_flightOver 87 = .ok (.iconst 2, 1) := by decide +kernel
theorem dX1_flightOver_88 : decode cX1_flightOver 88 = .ok (.idiv, 1) := by decide +kernel
theorem dX1_flightOver_89 : decode cX1_flightOver 89 = .ok (.ireturn, 1) := by decide +kernel
theorem dX1_flightOver_90 : decode cX1_flightOver 90 = .ok (.iload_n 3, 1) := by decide +kernel
theorem dX1_flightOver_91 : decode cX1_flightOver 91 = .ok (.ireturn, 1) := by decide +kernel
theorem dX1_keeperAt_0 : decode cX1_keeperAt 0 = .ok (.iconst 0, 1) := by decide +kernel
theorem dX1_keeperAt_1 : decode cX1_keeperAt 1 = .ok (.istore_n 2, 1) := by decide +kernel
theorem dX1_keeperAt_2 : decode cX1_keeperAt 2 = .ok (.iload_n 2, 1) := by decide +kernel
theorem dX1_keeperAt_3 : decode cX1_keeperAt 3 = .ok (.aload_n 0, 1) := by decide +kernel
theorem dX1_keeperAt_4 : decode cX1_keeperAt 4 = .ok (.getfield 12, 3) := by decide +kernel
theorem dX1_keeperAt_7 : decode cX1_keeperAt 7 = .ok (.getfield 57, 3) := by decide +kernel
theorem dX1_keeperAt_10 : decode cX1_keeperAt 10 = .ok (.if_icmp .ge 24, 3) := by decide +kernel
theorem dX1_keeperAt_13 : decode cX1_keeperAt 13 = .ok (.aload_n 0, 1) := by decide +kernel
theorem dX1_keeperAt_14 : decode cX1_keeperAt 14 = .ok (.getfield 21, 3) := by decide +kernel
theorem dX1_keeperAt_17 : decode cX1_keeperAt 17 = .ok (.getfield 60, 3) := by decide +kernel
theorem dX1_keeperAt_20 : decode cX1_keeperAt 20 = .ok (.iload_n 2, 1) := by decide +kernel
theorem dX1_keeperAt_21 : decode cX1_keeperAt 21 = .ok (.iaload, 1) := by decide +kernel
theorem dX1_keeperAt_22 : decode cX1_keeperAt 22 = .ok (.iload_n 1, 1) := by decide +kernel
theorem dX1_keeperAt_23 : decode cX1_keeperAt 23 = .ok (.if_icmp .ne 5, 3) := by decide +kernel
theorem dX1_keeperAt_26 : decode cX1_keeperAt 26 = .ok (.iload_n 2, 1) := by decide +kernel
theorem dX1_keeperAt_27 : decode cX1_keeperAt 27 = .ok (.ireturn, 1) := by decide +kernel
theorem dX1_keeperAt_28 : decode cX1_keeperAt 28 = .ok (.iinc 2 1, 3) := by decide +kernel
theorem dX1_keeperAt_31 : decode cX1_keeperAt 31 = .ok (.goto (-29), 3) := by decide +kernel
theorem dX1_keeperAt_34 : decode cX1_keeperAt 34 = .ok (.iconst (-1), 1) := by decide +kernel
theorem dX1_keeperAt_35 : decode cX1_keeperAt 35 = .ok (.ireturn, 1) := by decide +kernel
theorem dX1_timeAt_0 : decode cX1_timeAt 0 = .ok (.aload_n 0, 1) := by decide +kernel
theorem dX1_timeAt_1 : decode cX1_timeAt 1 = .ok (.iload_n 1, 1) := by decide +kernel
theorem dX1_timeAt_2 : decode cX1_timeAt 2 = .ok (.invokevirtual 63, 3) := by decide +kernel
theorem dX1_timeAt_5 : decode cX1_timeAt 5 = .ok (.istore_n 2, 1) := by decide +kernel
theorem dX1_timeAt_6 : decode cX1_timeAt 6 = .ok (.iload_n 2, 1) := by decide +kernel
theorem dX1_timeAt_7 : decode cX1_timeAt 7 = .ok (.iconst (-1), 1) := by decide +kernel
theorem dX1_timeAt_8 : decode cX1_timeAt 8 = .ok (.if_icmp .ne 7, 3) := by decide +kernel
theorem dX1_timeAt_11 : decode cX1_timeAt 11 = .ok (.iconst (-1), 1) := by decide +kernel
theorem dX1_timeAt_12 : decode cX1_timeAt 12 = .ok (.goto 8, 3) := by decide +kernel
theorem dX1_timeAt_15 : decode cX1_timeAt 15 = .ok (.aload_n 0, 1) := by decide +kernel
theorem dX1_timeAt_16 : decode cX1_timeAt 16 = .ok (.iload_n 2, 1) := by decide +kernel
theorem dX1_timeAt_17 : decode cX1_timeAt 17 = .ok (.invokevirtual 67, 3) := by decide +kernel
theorem dX1_timeAt_20 : decode cX1_timeAt 20 = .ok (.ireturn, 1) := by decide +kernel
theorem dX1_keptBridges_0 : decode cX1_keptBridges 0 = .ok (.iconst 0, 1) := by decide +kernel
theorem dX1_keptBridges_1 : decode cX1_keptBridges 1 = .ok (.istore_n 1, 1) := by decide +kernel
theorem dX1_keptBridges_2 : decode cX1_keptBridges 2 = .ok (.iconst 0, 1) := by decide +kernel
theorem dX1_keptBridges_3 : decode cX1_keptBridges 3 = .ok (.istore_n 2, 1) := by decide +kernel
theorem dX1_keptBridges_4 : decode cX1_keptBridges 4 = .ok (.iload_n 2, 1) := by decide +kernel
theorem dX1_keptBridges_5 : decode cX1_keptBridges 5 = .ok (.aload_n 0, 1) := by decide +kernel
theorem dX1_keptBridges_6 : decode cX1_keptBridges 6 = .ok (.getfield 12, 3) := by decide +kernel
theorem dX1_keptBridges_9 : decode cX1_keptBridges 9 = .ok (.getfield 57, 3) := by decide +kernel
theorem dX1_keptBridges_12 : decode cX1_keptBridges 12 = .ok (.if_icmp .ge 25, 3) := by decide +kernel
theorem dX1_keptBridges_15 : decode cX1_keptBridges 15 = .ok (.aload_n 0, 1) := by decide +kernel
theorem dX1_keptBridges_16 : decode cX1_keptBridges 16 = .ok (.getfield 21, 3) := by decide +kernel
theorem dX1_keptBridges_19 : decode cX1_keptBridges 19 = .ok (.getfield 60, 3) := by decide +kernel
theorem dX1_keptBridges_22 : decode cX1_keptBridges 22 = .ok (.iload_n 2, 1) := by decide +kernel
theorem dX1_keptBridges_23 : decode cX1_keptBridges 23 = .ok (.iaload, 1) := by decide +kernel
theorem dX1_keptBridges_24 : decode cX1_keptBridges 24 = .ok (.iconst (-1), 1) := by decide +kernel
theorem dX1_keptBridges_25 : decode cX1_keptBridges 25 = .ok (.if_icmp .eq 6, 3) := by decide +kernel
theorem dX1_keptBridges_28 : decode cX1_keptBridges 28 = .ok (.iinc 1 1, 3) := by decide +kernel
theorem dX1_keptBridges_31 : decode cX1_keptBridges 31 = .ok (.iinc 2 1, 3) := by decide +kernel
theorem dX1_keptBridges_34 : decode cX1_keptBridges 34 = .ok (.goto (-30), 3) := by decide +kernel
theorem dX1_keptBridges_37 : decode cX1_keptBridges 37 = .ok (.iload_n 1, 1) := by decide +kernel
theorem dX1_keptBridges_38 : decode cX1_keptBridges 38 = .ok (.ireturn, 1) := by decide +kernel
theorem dX1_comesOver_0 : decode cX1_comesOver 0 = .ok (.aload_n 0, 1) := by decide +kernel
theorem dX1_comesOver_1 : decode cX1_comesOver 1 = .ok (.iload_n 2, 1) := by decide +kernel
theorem dX1_comesOver_2 : decode cX1_comesOver 2 = .ok (.invokevirtual 63, 3) := by decide +kernel
theorem dX1_comesOver_5 : decode cX1_comesOver 5 = .ok (.istore_n 3, 1) := by decide +kernel
theorem dX1_comesOver_6 : decode cX1_comesOver 6 = .ok (.iload_n 3, 1) := by decide +kernel
theorem dX1_comesOver_7 : decode cX1_comesOver 7 = .ok (.iconst (-1), 1) := by decide +kernel
theorem dX1_comesOver_8 : decode cX1_comesOver 8 = .ok (.if_icmp .eq 21, 3) := by decide +kernel
theorem dX1_comesOver_11 : decode cX1_comesOver 11 = .ok (.aload_n 0, 1) := by decide +kernel
theorem dX1_comesOver_12 : decode cX1_comesOver 12 = .ok (.iload_n 3, 1) := by decide +kernel
theorem dX1_comesOver_13 : decode cX1_comesOver 13 = .ok (.invokevirtual 67, 3) := by decide +kernel
theorem dX1_comesOver_16 : decode cX1_comesOver 16 = .ok (.aload_n 0, 1) := by decide +kernel
theorem dX1_comesOver_17 : decode cX1_comesOver 17 = .ok (.iload_n 1, 1) := by decide +kernel
theorem dX1_comesOver_18 : decode cX1_comesOver 18 = .ok (.iload_n 2, 1) := by decide +kernel
theorem dX1_comesOver_19 : decode cX1_comesOver 19 = .ok (.invokevirtual 70, 3) := by decide +kernel
theorem dX1_comesOver_22 : decode cX1_comesOver 22 = .ok (.if_icmp .gt 7, 3) := by decide +kernel
theorem dX1_comesOver_25 : decode cX1_comesOver 25 = .ok (.iconst 1, 1) := by decide +kernel
theorem dX1_comesOver_26 : decode cX1_comesOver 26 = .ok (.goto 4, 3) := by decide +kernel
theorem dX1_comesOver_29 : decode cX1_comesOver 29 = .ok (.iconst 0, 1) := by decide +kernel
theorem dX1_comesOver_30 : decode cX1_comesOver 30 = .ok (.ireturn, 1) := by decide +kernel
theorem dX1_dares_0 : decode cX1_dares 0 = .ok (.iconst 0, 1) := by decide +kernel
theorem dX1_dares_1 : decode cX1_dares 1 = .ok (.istore_n 2, 1) := by decide +kernel
theorem dX1_dares_2 : decode cX1_dares 2 = .ok (.iconst 0, 1) := by decide +kernel
theorem dX1_dares_3 : decode cX1_dares 3 = .ok (.istore_n 3, 1) := by decide +kernel
theorem dX1_dares_4 : decode cX1_dares 4 = .ok (.iload_n 3, 1) := by decide +kernel
theorem dX1_dares_5 : decode cX1_dares 5 = .ok (.aload_n 0, 1) := by decide +kernel
theorem dX1_dares_6 : decode cX1_dares 6 = .ok (.getfield 12, 3) := by decide +kernel
theorem dX1_dares_9 : decode cX1_dares 9 = .ok (.getfield 73, 3) := by decide +kernel
theorem dX1_dares_12 : decode cX1_dares 12 = .ok (.if_icmp .ge 24, 3) := by decide +kernel
theorem dX1_dares_15 : decode cX1_dares 15 = .ok (.aload_n 0, 1) := by decide +kernel
theorem dX1_dares_16 : decode cX1_dares 16 = .ok (.iload_n 1, 1) := by decide +kernel
theorem dX1_dares_17 : decode cX1_dares 17 = .ok (.iload_n 3, 1) := by decide +kernel
theorem dX1_dares_18 : decode cX1_dares 18 = .ok (.invokevirtual 76, 3) := by decide +kernel
theorem dX1_dares_21 : decode cX1_dares 21 = .ok (.ifCond .eq 9, 3) := by decide +kernel
theorem dX1_dares_24 : decode cX1_dares 24 = .ok (.iload_n 2, 1) := by decide +kernel
theorem dX1_dares_25 : decode cX1_dares 25 = .ok (.iconst 1, 1) := by decide +kernel
theorem dX1_dares_26 : decode cX1_dares 26 = .ok (.iload_n 3, 1) := by decide +kernel
theorem dX1_dares_27 : decode cX1_dares 27 = .ok (.ishl, 1) := by decide +kernel
theorem dX1_dares_28 : decode cX1_dares 28 = .ok (.ior, 1) := by decide +kernel
theorem dX1_dares_29 : decode cX1_dares 29 = .ok (.istore_n 2, 1) := by decide +kernel
theorem dX1_dares_30 : decode cX1_dares 30 = .ok (.iinc 3 1, 3) := by decide +kernel
theorem dX1_dares_33 : decode cX1_dares 33 = .ok (.goto (-29), 3) := by decide +kernel
theorem dX1_dares_36 : decode cX1_dares 36 = .ok (.iload_n 2, 1) := by decide +kernel
theorem dX1_dares_37 : decode cX1_dares 37 = .ok (.ireturn, 1) := by decide +kernel
theorem dX1_trusted_0 : decode cX1_trusted 0 = .ok (.iconst 0, 1) := by decide +kernel
theorem dX1_trusted_1 : decode cX1_trusted 1 = .ok (.istore_n 1, 1) := by decide +kernel
theorem dX1_trusted_2 : decode cX1_trusted 2 = .ok (.iconst 0, 1) := by decide +kernel
theorem dX1_trusted_3 : decode cX1_trusted 3 = .ok (.istore_n 2, 1) := by decide +kernel
theorem dX1_trusted_4 : decode cX1_trusted 4 = .ok (.iload_n 2, 1) := by decide +kernel
theorem dX1_trusted_5 : decode cX1_trusted 5 = .ok (.aload_n 0, 1) := by decide +kernel
theorem dX1_trusted_6 : decode cX1_trusted 6 = .ok (.getfield 12, 3) := by decide +kernel
theorem dX1_trusted_9 : decode cX1_trusted 9 = .ok (.getfield 80, 3) := by decide +kernel
theorem dX1_trusted_12 : decode cX1_trusted 12 = .ok (.if_icmp .ge 36, 3) := by decide +kernel
theorem dX1_trusted_15 : decode cX1_trusted 15 = .ok (.aload_n 0, 1) := by decide +kernel
theorem dX1_trusted_16 : decode cX1_trusted 16 = .ok (.getfield 21, 3) := by decide +kernel
theorem dX1_trusted_19 : decode cX1_trusted 19 = .ok (.getfield 83, 3) := by decide +kernel
theorem dX1_trusted_22 : decode cX1_trusted 22 = .ok (.iload_n 2, 1) := by decide +kernel
theorem dX1_trusted_23 : decode cX1_trusted 23 = .ok (.iaload, 1) := by decide +kernel
theorem dX1_trusted_24 : decode cX1_trusted 24 = .ok (.aload_n 0, 1) := by decide +kernel
theorem dX1_trusted_25 : decode cX1_trusted 25 = .ok (.getfield 21, 3) := by decide +kernel
theorem dX1_trusted_28 : decode cX1_trusted 28 = .ok (.getfield 86, 3) := by decide +kernel
theorem dX1_trusted_31 : decode cX1_trusted 31 = .ok (.iload_n 2, 1) := by decide +kernel
theorem dX1_trusted_32 : decode cX1_trusted 32 = .ok (.iaload, 1) := by decide +kernel
theorem dX1_trusted_33 : decode cX1_trusted 33 = .ok (.if_icmp .le 9, 3) := by decide +kernel
theorem dX1_trusted_36 : decode cX1_trusted 36 = .ok (.iload_n 1, 1) := by decide +kernel
theorem dX1_trusted_37 : decode cX1_trusted 37 = .ok (.iconst 1, 1) := by decide +kernel
theorem dX1_trusted_38 : decode cX1_trusted 38 = .ok (.iload_n 2, 1) := by decide +kernel
theorem dX1_trusted_39 : decode cX1_trusted 39 = .ok (.ishl, 1) := by decide +kernel
theorem dX1_trusted_40 : decode cX1_trusted 40 = .ok (.ior, 1) := by decide +kernel
theorem dX1_trusted_41 : decode cX1_trusted 41 = .ok (.istore_n 1, 1) := by decide +kernel
theorem dX1_trusted_42 : decode cX1_trusted 42 = .ok (.iinc 2 1, 3) := by decide +kernel
theorem dX1_trusted_45 : decode cX1_trusted 45 = .ok (.goto (-41), 3) := by decide +kernel
theorem dX1_trusted_48 : decode cX1_trusted 48 = .ok (.iload_n 1, 1) := by decide +kernel
theorem dX1_trusted_49 : decode cX1_trusted 49 = .ok (.ireturn, 1) := by decide +kernel
theorem dX1_driest_0 : decode cX1_driest 0 = .ok (.iconst (-1), 1) := by decide +kernel
theorem dX1_driest_1 : decode cX1_driest 1 = .ok (.istore_n 1, 1) := by decide +kernel
theorem dX1_driest_2 : decode cX1_driest 2 = .ok (.iconst 0, 1) := by decide +kernel
theorem dX1_driest_3 : decode cX1_driest 3 = .ok (.istore_n 2, 1) := by decide +kernel
theorem dX1_driest_4 : decode cX1_driest 4 = .ok (.iload_n 2, 1) := by decide +kernel
theorem dX1_driest_5 : decode cX1_driest 5 = .ok (.aload_n 0, 1) := by decide +kernel
theorem dX1_driest_6 : decode cX1_driest 6 = .ok (.getfield 12, 3) := by decide +kernel
theorem dX1_driest_9 : decode cX1_driest 9 = .ok (.getfield 80, 3) := by decide +kernel
theorem dX1_driest_12 : decode cX1_driest 12 = .ok (.if_icmp .ge 37, 3) := by decide +kernel
theorem dX1_driest_15 : decode cX1_driest 15 = .ok (.iload_n 1, 1) := by decide +kernel
theorem dX1_driest_16 : decode cX1_driest 16 = .ok (.iconst (-1), 1) := by decide +kernel
theorem dX1_driest_17 : decode cX1_driest 17 = .ok (.if_icmp .eq 24, 3) := by decide +kernel
theorem dX1_driest_20 : decode cX1_driest 20 = .ok (.aload_n 0, 1) := by decide +kernel
theorem dX1_driest_21 : decode cX1_driest 21 = .ok (.getfield 21, 3) := by decide +kernel
theorem dX1_driest_24 : decode cX1_driest 24 = .ok (.getfield 86, 3) := by decide +kernel
theorem dX1_driest_27 : decode cX1_driest 27 = .ok (.iload_n 2, 1) := by decide +kernel
theorem dX1_driest_28 : decode cX1_driest 28 = .ok (.iaload, 1) := by decide +kernel
theorem dX1_driest_29 : decode cX1_driest 29 = .ok (.aload_n 0, 1) := by decide +kernel
theorem dX1_driest_30 : decode cX1_driest 30 = .ok (.getfield 21, 3) := by decide +kernel
theorem dX1_driest_33 : decode cX1_driest 33 = .ok (.getfield 86, 3) := by decide +kernel
theorem dX1_driest_36 : decode cX1_driest 36 = .ok (.iload_n 1, 1) := by decide +kernel
theorem dX1_driest_37 : decode cX1_driest 37 = .ok (.iaload, 1) := by decide +kernel
theorem dX1_driest_38 : decode cX1_driest 38 = .ok (.if_icmp .ge 5, 3) := by decide +kernel
theorem dX1_driest_41 : decode cX1_driest 41 = .ok (.iload_n 2, 1) := by decide +kernel
theorem dX1_driest_42 : decode cX1_driest 42 = .ok (.istore_n 1, 1) := by decide +kernel
theorem dX1_driest_43 : decode cX1_driest 43 = .ok (.iinc 2 1, 3) := by decide +kernel
theorem dX1_driest_46 : decode cX1_driest 46 = .ok (.goto (-42), 3) := by decide +kernel
theorem dX1_driest_49 : decode cX1_driest 49 = .ok (.iload_n 1, 1) := by decide +kernel
theorem dX1_driest_50 : decode cX1_driest 50 = .ok (.ireturn, 1) := by decide +kernel
theorem dX1_jump_0 : decode cX1_jump 0 = .ok (.iload_n 3, 1) := by decide +kernel
theorem dX1_jump_1 : decode cX1_jump 1 = .ok (.ifCond .ne 16, 3) := by decide +kernel
theorem dX1_jump_4 : decode cX1_jump 4 = .ok (.aload_n 0, 1) := by decide +kernel
theorem dX1_jump_5 : decode cX1_jump 5 = .ok (.iload_n 1, 1) := by decide +kernel
theorem dX1_jump_6 : decode cX1_jump 6 = .ok (.iload_n 2, 1) := by decide +kernel
theorem dX1_jump_7 : decode cX1_jump 7 = .ok (.invokevirtual 76, 3) := by decide +kernel
theorem dX1_jump_10 : decode cX1_jump 10 = .ok (.ifCond .eq 7, 3) := by decide +kernel
theorem dX1_jump_13 : decode cX1_jump 13 = .ok (.iconst 1, 1) := by decide +kernel
theorem dX1_jump_14 : decode cX1_jump 14 = .ok (.goto 4, 3) := by decide +kernel
theorem dX1_jump_17 : decode cX1_jump 17 = .ok (.iconst 0, 1) := by decide +kernel
theorem dX1_jump_18 : decode cX1_jump 18 = .ok (.istore 4, 2) := by decide +kernel
theorem dX1_jump_20 : decode cX1_jump 20 = .ok (.iload 4, 2) := by decide +kernel
theorem dX1_jump_22 : decode cX1_jump 22 = .ok (.ifCond .eq 81, 3) := by decide +kernel
theorem dX1_jump_25 : decode cX1_jump 25 = .ok (.aload_n 0, 1) := by decide +kernel
theorem dX1_jump_26 : decode cX1_jump 26 = .ok (.getfield 21, 3) := by decide +kernel
theorem dX1_jump_29 : decode cX1_jump 29 = .ok (.getfield 89, 3) := by decide +kernel
theorem dX1_jump_32 : decode cX1_jump 32 = .ok (.iload_n 1, 1) := by decide +kernel
theorem dX1_jump_33 : decode cX1_jump 33 = .ok (.aload_n 0, 1) := by decide +kernel
theorem dX1_jump_34 : decode cX1_jump 34 = .ok (.getfield 12, 3) := by decide +kernel
theorem dX1_jump_37 : decode cX1_jump 37 = .ok (.iload_n 2, 1) := by decide +kernel
theorem dX1_jump_38 : decode cX1_jump 38 = .ok (.aload_n 0, 1) := by decide +kernel
theorem dX1_jump_39 : decode cX1_jump 39 = .ok (.getfield 21, 3) := by decide +kernel
theorem dX1_jump_42 : decode cX1_jump 42 = .ok (.getfield 89, 3) := by decide +kernel
theorem dX1_jump_45 : decode cX1_jump 45 = .ok (.iload_n 1, 1) := by decide +kernel
theorem dX1_jump_46 : decode cX1_jump 46 = .ok (.iaload, 1) := by decide +kernel
theorem dX1_jump_47 : decode cX1_jump 47 = .ok (.invokevirtual 92, 3) := by decide +kernel
theorem dX1_jump_50 : decode cX1_jump 50 = .ok (.iastore, 1) := by decide +kernel
theorem dX1_jump_51 : decode cX1_jump 51 = .ok (.aload_n 0, 1) := by decide +kernel
theorem dX1_jump_52 : decode cX1_jump 52 = .ok (.getfield 21, 3) := by decide +kernel
theorem dX1_jump_55 : decode cX1_jump 55 = .ok (.getfield 46, 3) := by decide +kernel
theorem dX1_jump_58 : decode cX1_jump 58 = .ok (.iload_n 1, 1) := by decide +kernel
theorem dX1_jump_59 : decode cX1_jump 59 = .ok (.iconst 0, 1) := by decide +kernel
theorem dX1_jump_60 : decode cX1_jump 60 = .ok (.aload_n 0, 1) := by decide +kernel
theorem dX1_jump_61 : decode cX1_jump 61 = .ok (.getfield 21, 3) := by decide +kernel
theorem dX1_jump_64 : decode cX1_jump 64 = .ok (.getfield 46, 3) := by decide +kernel
theorem dX1_jump_67 : decode cX1_jump 67 = .ok (.iload_n 1, 1) := by decide +kernel
theorem dX1_jump_68 : decode cX1_jump 68 = .ok (.iaload, 1) := by decide +kernel
theorem dX1_jump_69 : decode cX1_jump 69 = .ok (.iconst 1, 1) := by decide +kernel
theorem dX1_jump_70 : decode cX1_jump 70 = .ok (.isub, 1) := by decide +kernel
theorem dX1_jump_71 : decode cX1_jump 71 = .ok (.invokestatic 52, 3) := by decide +kernel
theorem dX1_jump_74 : decode cX1_jump 74 = .ok (.iastore, 1) := by decide +kernel
theorem dX1_jump_75 : decode cX1_jump 75 = .ok (.aload_n 0, 1) := by decide +kernel
theorem dX1_jump_76 : decode cX1_jump 76 = .ok (.getfield 21, 3) := by decide +kernel
theorem dX1_jump_79 : decode cX1_jump 79 = .ok (.getfield 83, 3) := by decide +kernel
theorem dX1_jump_82 : decode cX1_jump 82 = .ok (.iload_n 1, 1) := by decide +kernel
theorem dX1_jump_83 : decode cX1_jump 83 = .ok (.ldc 95, 2) := by decide +kernel
theorem dX1_jump_85 : decode cX1_jump 85 = .ok (.aload_n 0, 1) := by decide +kernel
theorem dX1_jump_86 : decode cX1_jump 86 = .ok (.getfield 21, 3) := by decide +kernel
theorem dX1_jump_89 : decode cX1_jump 89 = .ok (.getfield 83, 3) := by decide +kernel
theorem dX1_jump_92 : decode cX1_jump 92 = .ok (.iload_n 1, 1) := by decide +kernel
theorem dX1_jump_93 : decode cX1_jump 93 = .ok (.iaload, 1) := by decide +kernel
theorem dX1_jump_94 : decode cX1_jump 94 = .ok (.iconst 1, 1) := by decide +kernel
theorem dX1_jump_95 : decode cX1_jump 95 = .ok (.iadd, 1) := by decide +kernel
theorem dX1_jump_96 : decode cX1_jump 96 = .ok (.invokestatic 96, 3) := by decide +kernel
theorem dX1_jump_99 : decode cX1_jump 99 = .ok (.iastore, 1) := by decide +kernel
theorem dX1_jump_100 : decode cX1_jump 100 = .ok (.goto 53, 3) := by decide +kernel
theorem dX1_jump_103 : decode cX1_jump 103 = .ok (.aload_n 0, 1) := by decide +kernel
theorem dX1_jump_104 : decode cX1_jump 104 = .ok (.getfield 21, 3) := by decide +kernel
theorem dX1_jump_107 : decode cX1_jump 107 = .ok (.getfield 46, 3) := by decide +kernel
theorem dX1_jump_110 : decode cX1_jump 110 = .ok (.iload_n 1, 1) := by decide +kernel
theorem dX1_jump_111 : decode cX1_jump 111 = .ok (.bipush 30, 2) := by decide +kernel
theorem dX1_jump_113 : decode cX1_jump 113 = .ok (.aload_n 0, 1) := by decide +kernel
theorem dX1_jump_114 : decode cX1_jump 114 = .ok (.getfield 21, 3) := by decide +kernel
theorem dX1_jump_117 : decode cX1_jump 117 = .ok (.getfield 46, 3) := by decide +kernel
theorem dX1_jump_120 : decode cX1_jump 120 = .ok (.iload_n 1, 1) := by decide +kernel
theorem dX1_jump_121 : decode cX1_jump 121 = .ok (.iaload, 1) := by decide +kernel
theorem dX1_jump_122 : decode cX1_jump 122 = .ok (.iconst 2, 1) := by decide +kernel
theorem dX1_jump_123 : decode cX1_jump 123 = .ok (.iadd, 1) := by decide +kernel
theorem dX1_jump_124 : decode cX1_jump 124 = .ok (.invokestatic 96, 3) := by decide +kernel
theorem dX1_jump_127 : decode cX1_jump 127 = .ok (.iastore, 1) := by decide +kernel
theorem dX1_jump_128 : decode cX1_jump 128 = .ok (.aload_n 0, 1) := by decide +kernel
theorem dX1_jump_129 : decode cX1_jump 129 = .ok (.getfield 21, 3) := by decide +kernel
theorem dX1_jump_132 : decode cX1_jump 132 = .ok (.getfield 86, 3) := by decide +kernel
theorem dX1_jump_135 : decode cX1_jump 135 = .ok (.iload_n 1, 1) := by decide +kernel
theorem dX1_jump_136 : decode cX1_jump 136 = .ok (.ldc 95, 2) := by decide +kernel
theorem dX1_jump_138 : decode cX1_jump 138 = .ok (.aload_n 0, 1) := by decide +kernel
theorem dX1_jump_139 : decode cX1_jump 139 = .ok (.getfield 21, 3) := by decide +kernel
theorem dX1_jump_142 : decode cX1_jump 142 = .ok (.getfield 86, 3) := by decide +kernel
theorem dX1_jump_145 : decode cX1_jump 145 = .ok (.iload_n 1, 1) := by decide +kernel
theorem dX1_jump_146 : decode cX1_jump 146 = .ok (.iaload, 1) := by decide +kernel
theorem dX1_jump_147 : decode cX1_jump 147 = .ok (.iconst 1, 1) := by decide +kernel
theorem dX1_jump_148 : decode cX1_jump 148 = .ok (.iadd, 1) := by decide +kernel
theorem dX1_jump_149 : decode cX1_jump 149 = .ok (.invokestatic 96, 3) := by decide +kernel
theorem dX1_jump_152 : decode cX1_jump 152 = .ok (.iastore, 1) := by decide +kernel
theorem dX1_jump_153 : decode cX1_jump 153 = .ok (.aload_n 0, 1) := by decide +kernel
theorem dX1_jump_154 : decode cX1_jump 154 = .ok (.iload_n 2, 1) := by decide +kernel
theorem dX1_jump_155 : decode cX1_jump 155 = .ok (.invokevirtual 63, 3) := by decide +kernel
theorem dX1_jump_158 : decode cX1_jump 158 = .ok (.istore 5, 2) := by decide +kernel
theorem dX1_jump_160 : decode cX1_jump 160 = .ok (.iload 5, 2) := by decide +kernel
theorem dX1_jump_162 : decode cX1_jump 162 = .ok (.iconst (-1), 1) := by decide +kernel
theorem dX1_jump_163 : decode cX1_jump 163 = .ok (.if_icmp .eq 30, 3) := by decide +kernel
theorem dX1_jump_166 : decode cX1_jump 166 = .ok (.aload_n 0, 1) := by decide +kernel
theorem dX1_jump_167 : decode cX1_jump 167 = .ok (.getfield 21, 3) := by decide +kernel
theorem dX1_jump_170 : decode cX1_jump 170 = .ok (.getfield 25, 3) := by decide +kernel
theorem dX1_jump_173 : decode cX1_jump 173 = .ok (.iload 5, 2) := by decide +kernel
theorem dX1_jump_175 : decode cX1_jump 175 = .ok (.bipush 99, 2) := by decide +kernel
theorem dX1_jump_177 : decode cX1_jump 177 = .ok (.aload_n 0, 1) := by decide +kernel
theorem dX1_jump_178 : decode cX1_jump 178 = .ok (.getfield 21, 3) := by decide +kernel
theorem dX1_jump_181 : decode cX1_jump 181 = .ok (.getfield 25, 3) := by decide +kernel
theorem dX1_jump_184 : decode cX1_jump 184 = .ok (.iload 5, 2) := by decide +kernel
theorem dX1_jump_186 : decode cX1_jump 186 = .ok (.iaload, 1) := by decide +kernel
theorem dX1_jump_187 : decode cX1_jump 187 = .ok (.iconst 1, 1) := by decide +kernel
theorem dX1_jump_188 : decode cX1_jump 188 = .ok (.iadd, 1) := by decide +kernel
theorem dX1_jump_189 : decode cX1_jump 189 = .ok (.invokestatic 96, 3) := by decide +kernel
theorem dX1_jump_192 : decode cX1_jump 192 = .ok (.iastore, 1) := by decide +kernel
theorem dX1_jump_193 : decode cX1_jump 193 = .ok (.aload_n 0, 1) := by decide +kernel
theorem dX1_jump_194 : decode cX1_jump 194 = .ok (.getfield 21, 3) := by decide +kernel
theorem dX1_jump_197 : decode cX1_jump 197 = .ok (.iload_n 1, 1) := by decide +kernel
theorem dX1_jump_198 : decode cX1_jump 198 = .ok (.iload_n 2, 1) := by decide +kernel
theorem dX1_jump_199 : decode cX1_jump 199 = .ok (.iload 4, 2) := by decide +kernel
theorem dX1_jump_201 : decode cX1_jump 201 = .ok (.invokevirtual 99, 3) := by decide +kernel
theorem dX1_jump_204 : decode cX1_jump 204 = .ok (.iload 4, 2) := by decide +kernel
theorem dX1_jump_206 : decode cX1_jump 206 = .ok (.ireturn, 1) := by decide +kernel
theorem dX1_oneHour_0 : decode cX1_oneHour 0 = .ok (.iconst 0, 1) := by decide +kernel
theorem dX1_oneHour_1 : decode cX1_oneHour 1 = .ok (.istore_n 1, 1) := by decide +kernel
theorem dX1_oneHour_2 : decode cX1_oneHour 2 = .ok (.iload_n 1, 1) := by decide +kernel
theorem dX1_oneHour_3 : decode cX1_oneHour 3 = .ok (.aload_n 0, 1) := by decide +kernel
theorem dX1_oneHour_4 : decode cX1_oneHour 4 = .ok (.getfield 12, 3) := by decide +kernel
theorem dX1_oneHour_7 : decode cX1_oneHour 7 = .ok (.getfield 57, 3) := by decide +kernel
theorem dX1_oneHour_10 : decode cX1_oneHour 10 = .ok (.if_icmp .ge 52, 3) := by decide +kernel
theorem dX1_oneHour_13 : decode cX1_oneHour 13 = .ok (.aload_n 0, 1) := by decide +kernel
theorem dX1_oneHour_14 : decode cX1_oneHour 14 = .ok (.getfield 21, 3) := by decide +kernel
theorem dX1_oneHour_17 : decode cX1_oneHour 17 = .ok (.getfield 60, 3) := by decide +kernel
theorem dX1_oneHour_20 : decode cX1_oneHour 20 = .ok (.iload_n 1, 1) := by decide +kernel
theorem dX1_oneHour_21 : decode cX1_oneHour 21 = .ok (.iaload, 1) := by decide +kernel
theorem dX1_oneHour_22 : decode cX1_oneHour 22 = .ok (.iconst (-1), 1) := by decide +kernel
theorem dX1_oneHour_23 : decode cX1_oneHour 23 = .ok (.if_icmp .ne 7, 3) := by decide +kernel
theorem dX1_oneHour_26 : decode cX1_oneHour 26 = .ok (.iconst 3, 1) := by decide +kernel
theorem dX1_oneHour_27 : decode cX1_oneHour 27 = .ok (.goto 4, 3) := by decide +kernel
theorem dX1_oneHour_30 : decode cX1_oneHour 30 = .ok (.iconst 1, 1) := by decide +kernel
theorem dX1_oneHour_31 : decode cX1_oneHour 31 = .ok (.istore_n 2, 1) := by decide +kernel
theorem dX1_oneHour_32 : decode cX1_oneHour 32 = .ok (.aload_n 0, 1) := by decide +kernel
theorem dX1_oneHour_33 : decode cX1_oneHour 33 = .ok (.getfield 21, 3) := by decide +kernel
theorem dX1_oneHour_36 : decode cX1_oneHour 36 = .ok (.getfield 25, 3) := by decide +kernel
theorem dX1_oneHour_39 : decode cX1_oneHour 39 = .ok (.iload_n 1, 1) := by decide +kernel
theorem dX1_oneHour_40 : decode cX1_oneHour 40 = .ok (.iconst 0, 1) := by decide +kernel
theorem dX1_oneHour_41 : decode cX1_oneHour 41 = .ok (.aload_n 0, 1) := by decide +kernel
theorem dX1_oneHour_42 : decode cX1_oneHour 42 = .ok (.getfield 21, 3) := by decide +kernel
theorem dX1_oneHour_45 : decode cX1_oneHour 45 = .ok (.getfield 25, 3) := by decide +kernel
theorem dX1_oneHour_48 : decode cX1_oneHour 48 = .ok (.iload_n 1, 1) := by decide +kernel
theorem dX1_oneHour_49 : decode cX1_oneHour 49 = .ok (.iaload, 1) := by decide +kernel
theorem dX1_oneHour_50 : decode cX1_oneHour 50 = .ok (.iload_n 2, 1) := by decide +kernel
theorem dX1_oneHour_51 : decode cX1_oneHour 51 = .ok (.isub, 1) := by decide +kernel
theorem dX1_oneHour_52 : decode cX1_oneHour 52 = .ok (.invokestatic 52, 3) := by decide +kernel
theorem dX1_oneHour_55 : decode cX1_oneHour 55 = .ok (.iastore, 1) := by decide +kernel
theorem dX1_oneHour_56 : decode cX1_oneHour 56 = .ok (.iinc 1 1, 3) := by decide +kernel
theorem dX1_oneHour_59 : decode cX1_oneHour 59 = .ok (.goto (-57), 3) := by decide +kernel
theorem dX1_oneHour_62 : decode cX1_oneHour 62 = .ok (.iconst 0, 1) := by decide +kernel
theorem dX1_oneHour_63 : decode cX1_oneHour 63 = .ok (.istore_n 1, 1) := by decide +kernel
theorem dX1_oneHour_64 : decode cX1_oneHour 64 = .ok (.iload_n 1, 1) := by decide +kernel
theorem dX1_oneHour_65 : decode cX1_oneHour 65 = .ok (.aload_n 0, 1) := by decide +kernel
theorem dX1_oneHour_66 : decode cX1_oneHour 66 = .ok (.getfield 12, 3) := by decide +kernel
theorem dX1_oneHour_69 : decode cX1_oneHour 69 = .ok (.getfield 80, 3) := by decide +kernel
theorem dX1_oneHour_72 : decode cX1_oneHour 72 = .ok (.if_icmp .ge 37, 3) := by decide +kernel
theorem dX1_oneHour_75 : decode cX1_oneHour 75 = .ok (.aload_n 0, 1) := by decide +kernel
theorem dX1_oneHour_76 : decode cX1_oneHour 76 = .ok (.getfield 21, 3) := by decide +kernel
theorem dX1_oneHour_79 : decode cX1_oneHour 79 = .ok (.getfield 46, 3) := by decide +kernel
theorem dX1_oneHour_82 : decode cX1_oneHour 82 = .ok (.iload_n 1, 1) := by decide +kernel
theorem dX1_oneHour_83 : decode cX1_oneHour 83 = .ok (.iaload, 1) := by decide +kernel
theorem dX1_oneHour_84 : decode cX1_oneHour 84 = .ok (.iconst 2, 1) := by decide +kernel
theorem dX1_oneHour_85 : decode cX1_oneHour 85 = .ok (.irem, 1) := by decide +kernel
theorem dX1_oneHour_86 : decode cX1_oneHour 86 = .ok (.iconst 1, 1) := by decide +kernel
theorem dX1_oneHour_87 : decode cX1_oneHour 87 = .ok (.if_icmp .ne 16, 3) := by decide +kernel
theorem dX1_oneHour_90 : decode cX1_oneHour 90 = .ok (.aload_n 0, 1) := by decide +kernel
theorem dX1_oneHour_91 : decode cX1_oneHour 91 = .ok (.getfield 21, 3) := by decide +kernel
theorem dX1_oneHour_94 : decode cX1_oneHour 94 = .ok (.getfield 46, 3) := by decide +kernel
theorem dX1_oneHour_97 : decode cX1_oneHour 97 = .ok (.iload_n 1, 1) := by decide +kernel
theorem dX1_oneHour_98 : decode cX1_oneHour 98 = .ok (.dup2, 1) := by decide +kernel
theorem dX1_oneHour_99 : decode cX1_oneHour 99 = .ok (.iaload, 1) := by decide +kernel
theorem dX1_oneHour_100 : decode cX1_oneHour 100 = .ok (.iconst 1, 1) := by decide +kernel
theorem dX1_oneHour_101 : decode cX1_oneHour 101 = .ok (.isub, 1) := by decide +kernel
theorem dX1_oneHour_102 : decode cX1_oneHour 102 = .ok (.iastore, 1) := by decide +kernel
theorem dX1_oneHour_103 : decode cX1_oneHour 103 = .ok (.iinc 1 1, 3) := by decide +kernel
theorem dX1_oneHour_106 : decode cX1_oneHour 106 = .ok (.goto (-42), 3) := by decide +kernel
theorem dX1_oneHour_109 : decode cX1_oneHour 109 = .ok (.aload_n 0, 1) := by decide +kernel
theorem dX1_oneHour_110 : decode cX1_oneHour 110 = .ok (.getfield 21, 3) := by decide +kernel
theorem dX1_oneHour_113 : decode cX1_oneHour 113 = .ok (.dup, 1) := by decide +kernel
theorem dX1_oneHour_114 : decode cX1_oneHour 114 = .ok (.getfield 39, 3) := by decide +kernel
theorem dX1_oneHour_117 : decode cX1_oneHour 117 = .ok (.iconst 1, 1) := by decide +kernel
theorem dX1_oneHour_118 : decode cX1_oneHour 118 = .ok (.iadd, 1) := by decide +kernel
theorem dX1_oneHour_119 : decode cX1_oneHour 119 = .ok (.putfield 39, 3) := by decide +kernel
theorem dX1_oneHour_122 : decode cX1_oneHour 122 = .ok (.return_, 1) := by decide +kernel
theorem dX1_drawnJump_0 : decode cX1_drawnJump 0 = .ok (.aload_n 0, 1) := by decide +kernel
theorem dX1_drawnJump_1 : decode cX1_drawnJump 1 = .ok (.getfield 12, 3) := by decide +kernel
theorem dX1_drawnJump_4 : decode cX1_drawnJump 4 = .ok (.getfield 80, 3) := by decide +kernel
theorem dX1_drawnJump_7 : decode cX1_drawnJump 7 = .ok (.ifCond .eq 13, 3) := by decide +kernel
theorem dX1_drawnJump_10 : decode cX1_drawnJump 10 = .ok (.aload_n 0, 1) := by decide +kernel
theorem dX1_drawnJump_11 : decode cX1_drawnJump 11 = .ok (.getfield 12, 3) := by decide +kernel
theorem dX1_drawnJump_14 : decode cX1_drawnJump 14 = .ok (.getfield 73, 3) := by decide +kernel
theorem dX1_drawnJump_17 : decode cX1_drawnJump 17 = .ok (.ifCond .ne 4, 3) := by decide +kernel
theorem dX1_drawnJump_20 : decode cX1_drawnJump 20 = .ok (.return_, 1) := by decide +kernel
theorem dX1_drawnJump_21 : decode cX1_drawnJump 21 = .ok (.aload_n 0, 1) := by decide +kernel
theorem dX1_drawnJump_22 : decode cX1_drawnJump 22 = .ok (.aload_n 0, 1) := by decide +kernel
theorem dX1_drawnJump_23 : decode cX1_drawnJump 23 = .ok (.getfield 12, 3) := by decide +kernel
theorem dX1_drawnJump_26 : decode cX1_drawnJump 26 = .ok (.getfield 80, 3) := by decide +kernel
theorem dX1_drawnJump_29 : decode cX1_drawnJump 29 = .ok (.invokevirtual 103, 3) := by decide +kernel
theorem dX1_drawnJump_32 : decode cX1_drawnJump 32 = .ok (.istore_n 1, 1) := by decide +kernel
theorem dX1_drawnJump_33 : decode cX1_drawnJump 33 = .ok (.aload_n 0, 1) := by decide +kernel
theorem dX1_drawnJump_34 : decode cX1_drawnJump 34 = .ok (.aload_n 0, 1) := by decide +kernel
theorem dX1_drawnJump_35 : decode cX1_drawnJump 35 = .ok (.getfield 12, 3) := by decide +kernel
theorem dX1_drawnJump_38 : decode cX1_drawnJump 38 = .ok (.getfield 73, 3) := by decide +kernel
theorem dX1_drawnJump_41 : decode cX1_drawnJump 41 = .ok (.invokevirtual 103, 3) := by decide +kernel
theorem dX1_drawnJump_44 : decode cX1_drawnJump 44 = .ok (.istore_n 2, 1) := by decide +kernel
theorem dX1_drawnJump_45 : decode cX1_drawnJump 45 = .ok (.aload_n 0, 1) := by decide +kernel
theorem dX1_drawnJump_46 : decode cX1_drawnJump 46 = .ok (.bipush 100, 2) := by decide +kernel
theorem dX1_drawnJump_48 : decode cX1_drawnJump 48 = .ok (.invokevirtual 103, 3) := by decide +kernel
theorem dX1_drawnJump_51 : decode cX1_drawnJump 51 = .ok (.istore_n 3, 1) := by decide +kernel
theorem dX1_drawnJump_52 : decode cX1_drawnJump 52 = .ok (.aload_n 0, 1) := by decide +kernel
theorem dX1_drawnJump_53 : decode cX1_drawnJump 53 = .ok (.getfield 12, 3) := by decide +kernel
theorem dX1_drawnJump_56 : decode cX1_drawnJump 56 = .ok (.iload_n 2, 1) := by decide +kernel
theorem dX1_drawnJump_57 : decode cX1_drawnJump 57 = .ok (.aload_n 0, 1) := by decide +kernel
theorem dX1_drawnJump_58 : decode cX1_drawnJump 58 = .ok (.getfield 21, 3) := by decide +kernel
theorem dX1_drawnJump_61 : decode cX1_drawnJump 61 = .ok (.getfield 89, 3) := by decide +kernel
theorem dX1_drawnJump_64 : decode cX1_drawnJump 64 = .ok (.iload_n 1, 1) := by decide +kernel
theorem dX1_drawnJump_65 : decode cX1_drawnJump 65 = .ok (.iaload, 1) := by decide +kernel
theorem dX1_drawnJump_66 : decode cX1_drawnJump 66 = .ok (.invokevirtual 106, 3) := by decide +kernel
theorem dX1_drawnJump_69 : decode cX1_drawnJump 69 = .ok (.ifCond .eq 28, 3) := by decide +kernel
theorem dX1_drawnJump_72 : decode cX1_drawnJump 72 = .ok (.aload_n 0, 1) := by decide +kernel
theorem dX1_drawnJump_73 : decode cX1_drawnJump 73 = .ok (.iload_n 1, 1) := by decide +kernel
theorem dX1_drawnJump_74 : decode cX1_drawnJump 74 = .ok (.iload_n 2, 1) := by decide +kernel
theorem dX1_drawnJump_75 : decode cX1_drawnJump 75 = .ok (.iload_n 3, 1) := by decide +kernel
theorem dX1_drawnJump_76 : decode cX1_drawnJump 76 = .ok (.aload_n 0, 1) := by decide +kernel
theorem dX1_drawnJump_77 : decode cX1_drawnJump 77 = .ok (.getfield 12, 3) := by decide +kernel
theorem dX1_drawnJump_80 : decode cX1_drawnJump 80 = .ok (.getfield 109, 3) := by decide +kernel
theorem dX1_drawnJump_83 : decode cX1_drawnJump 83 = .ok (.iload_n 2, 1) := by decide +kernel
theorem dX1_drawnJump_84 : decode cX1_drawnJump 84 = .ok (.iaload, 1) := by decide +kernel
theorem dX1_drawnJump_85 : decode cX1_drawnJump 85 = .ok (.if_icmp .ge 7, 3) := by decide +kernel
theorem dX1_drawnJump_88 : decode cX1_drawnJump 88 = .ok (.iconst 1, 1) := by decide +kernel
theorem dX1_drawnJump_89 : decode cX1_drawnJump 89 = .ok (.goto 4, 3) := by decide +kernel
theorem dX1_drawnJump_92 : decode cX1_drawnJump 92 = .ok (.iconst 0, 1) := by decide +kernel
theorem dX1_drawnJump_93 : decode cX1_drawnJump 93 = .ok (.invokevirtual 112, 3) := by decide +kernel
theorem dX1_drawnJump_96 : decode cX1_drawnJump 96 = .ok (.pop, 1) := by decide +kernel
theorem dX1_drawnJump_97 : decode cX1_drawnJump 97 = .ok (.return_, 1) := by decide +kernel
theorem dX1_draw_0 : decode cX1_draw 0 = .ok (.aload_n 0, 1) := by decide +kernel
theorem dX1_draw_1 : decode cX1_draw 1 = .ok (.aload_n 0, 1) := by decide +kernel
theorem dX1_draw_2 : decode cX1_draw 2 = .ok (.getfield 116, 3) := by decide +kernel
theorem dX1_draw_5 : decode cX1_draw 5 = .ok (.i2l, 1) := by decide +kernel
theorem dX1_draw_6 : decode cX1_draw 6 = .ok (.ldc2_w 119, 3) := by decide +kernel
theorem dX1_draw_9 : decode cX1_draw 9 = .ok (.lmul, 1) := by decide +kernel
theorem dX1_draw_10 : decode cX1_draw 10 = .ok (.ldc2_w 121, 3) := by decide +kernel
theorem dX1_draw_13 : decode cX1_draw 13 = .ok (.ladd, 1) := by decide +kernel
theorem dX1_draw_14 : decode cX1_draw 14 = .ok (.ldc2_w 123, 3) := by decide +kernel
theorem dX1_draw_17 : decode cX1_draw 17 = .ok (.land, 1) := by decide +kernel
theorem dX1_draw_18 : decode cX1_draw 18 = .ok (.l2i, 1) := by decide +kernel
theorem dX1_draw_19 : decode cX1_draw 19 = .ok (.putfield 116, 3) := by decide +kernel
theorem dX1_draw_22 : decode cX1_draw 22 = .ok (.iload_n 1, 1) := by decide +kernel
theorem dX1_draw_23 : decode cX1_draw 23 = .ok (.ifCond .le 15, 3) := by decide +kernel
theorem dX1_draw_26 : decode cX1_draw 26 = .ok (.aload_n 0, 1) := by decide +kernel
theorem dX1_draw_27 : decode cX1_draw 27 = .ok (.getfield 116, 3) := by decide +kernel
theorem dX1_draw_30 : decode cX1_draw 30 = .ok (.ldc 125, 2) := by decide +kernel
theorem dX1_draw_32 : decode cX1_draw 32 = .ok (.idiv, 1) := by decide +kernel
theorem dX1_draw_33 : decode cX1_draw 33 = .ok (.iload_n 1, 1) := by decide +kernel
theorem dX1_draw_34 : decode cX1_draw 34 = .ok (.irem, 1) := by decide +kernel
theorem dX1_draw_35 : decode cX1_draw 35 = .ok (.goto 4, 3) := by decide +kernel
theorem dX1_draw_38 : decode cX1_draw 38 = .ok (.iconst 0, 1) := by decide +kernel
theorem dX1_draw_39 : decode cX1_draw 39 = .ok (.ireturn, 1) := by decide +kernel
theorem dX2_init_0 : decode cX2_init 0 = .ok (.aload_n 0, 1) := by decide +kernel
theorem dX2_init_1 : decode cX2_init 1 = .ok (.invokespecial 1, 3) := by decide +kernel
theorem dX2_init_4 : decode cX2_init 4 = .ok (.aload_n 0, 1) := by decide +kernel
theorem dX2_init_5 : decode cX2_init 5 = .ok (.new 7, 3) := by decide +kernel
theorem dX2_init_8 : decode cX2_init 8 = .ok (.dup, 1) := by decide +kernel
theorem dX2_init_9 : decode cX2_init 9 = .ok (.invokespecial 9, 3) := by decide +kernel
theorem dX2_init_12 : decode cX2_init 12 = .ok (.putfield 10, 3) := by decide +kernel
theorem dX2_init_15 : decode cX2_init 15 = .ok (.return_, 1) := by decide +kernel
theorem dX3_init_0 : decode cX3_init 0 = .ok (.aload_n 0, 1) := by decide +kernel
theorem dX3_init_1 : decode cX3_init 1 = .ok (.invokespecial 3, 3) := by decide +kernel
theorem dX3_init_4 : decode cX3_init 4 = .ok (.aload_n 0, 1) := by decide +kernel
theorem dX3_init_5 : decode cX3_init 5 = .ok (.bipush 16, 2) := by decide +kernel
theorem dX3_init_7 : decode cX3_init 7 = .ok (.anewarray 9, 3) := by decide +kernel
theorem dX3_init_10 : decode cX3_init 10 = .ok (.putfield 11, 3) := by decide +kernel
theorem dX3_init_13 : decode cX3_init 13 = .ok (.iconst 0, 1) := by decide +kernel
theorem dX3_init_14 : decode cX3_init 14 = .ok (.istore_n 1, 1) := by decide +kernel
theorem dX3_init_15 : decode cX3_init 15 = .ok (.iload_n 1, 1) := by decide +kernel
theorem dX3_init_16 : decode cX3_init 16 = .ok (.bipush 16, 2) := by decide +kernel
theorem dX3_init_18 : decode cX3_init 18 = .ok (.if_icmp .ge 22, 3) := by decide +kernel
theorem dX3_init_21 : decode cX3_init 21 = .ok (.aload_n 0, 1) := by decide +kernel
theorem dX3_init_22 : decode cX3_init 22 = .ok (.getfield 11, 3) := by decide +kernel
theorem dX3_init_25 : decode cX3_init 25 = .ok (.iload_n 1, 1) := by decide +kernel
theorem dX3_init_26 : decode cX3_init 26 = .ok (.new 9, 3) := by decide +kernel
theorem dX3_init_29 : decode cX3_init 29 = .ok (.dup, 1) := by decide +kernel
theorem dX3_init_30 : decode cX3_init 30 = .ok (.invokespecial 17, 3) := by decide +kernel
theorem dX3_init_33 : decode cX3_init 33 = .ok (.aastore, 1) := by decide +kernel
theorem dX3_init_34 : decode cX3_init 34 = .ok (.iinc 1 1, 3) := by decide +kernel
theorem dX3_init_37 : decode cX3_init 37 = .ok (.goto (-22), 3) := by decide +kernel
theorem dX3_init_40 : decode cX3_init 40 = .ok (.return_, 1) := by decide +kernel
theorem dX3_forget_0 : decode cX3_forget 0 = .ok (.aload_n 0, 1) := by decide +kernel
theorem dX3_forget_1 : decode cX3_forget 1 = .ok (.iconst 0, 1) := by decide +kernel
theorem dX3_forget_2 : decode cX3_forget 2 = .ok (.putfield 18, 3) := by decide +kernel
theorem dX3_forget_5 : decode cX3_forget 5 = .ok (.return_, 1) := by decide +kernel
theorem dX3_remember_0 : decode cX3_remember 0 = .ok (.aload_n 0, 1) := by decide +kernel
theorem dX3_remember_1 : decode cX3_remember 1 = .ok (.getfield 11, 3) := by decide +kernel
theorem dX3_remember_4 : decode cX3_remember 4 = .ok (.aload_n 0, 1) := by decide +kernel
theorem dX3_remember_5 : decode cX3_remember 5 = .ok (.getfield 22, 3) := by decide +kernel
theorem dX3_remember_8 : decode cX3_remember 8 = .ok (.aaload, 1) := by decide +kernel
theorem dX3_remember_9 : decode cX3_remember 9 = .ok (.aload_n 1, 1) := by decide +kernel
theorem dX3_remember_10 : decode cX3_remember 10 = .ok (.invokevirtual 25, 3) := by decide +kernel
theorem dX3_remember_13 : decode cX3_remember 13 = .ok (.aload_n 0, 1) := by decide +kernel
theorem dX3_remember_14 : decode cX3_remember 14 = .ok (.aload_n 0, 1) := by decide +kernel
theorem dX3_remember_15 : decode cX3_remember 15 = .ok (.getfield 22, 3) := by decide +kernel
theorem dX3_remember_18 : decode cX3_remember 18 = .ok (.iconst 1, 1) := by decide +kernel
theorem dX3_remember_19 : decode cX3_remember 19 = .ok (.iadd, 1) := by decide +kernel
theorem dX3_remember_20 : decode cX3_remember 20 = .ok (.bipush 16, 2) := by decide +kernel
theorem dX3_remember_22 : decode cX3_remember 22 = .ok (.irem, 1) := by decide +kernel
theorem dX3_remember_23 : decode cX3_remember 23 = .ok (.putfield 22, 3) := by decide +kernel
theorem dX3_remember_26 : decode cX3_remember 26 = .ok (.aload_n 0, 1) := by decide +kernel
theorem dX3_remember_27 : decode cX3_remember 27 = .ok (.aload_n 0, 1) := by decide +kernel
theorem dX3_remember_28 : decode cX3_remember 28 = .ok (.getfield 18, 3) := by decide +kernel
theorem dX3_remember_31 : decode cX3_remember 31 = .ok (.iconst 1, 1) := by decide +kernel
theorem dX3_remember_32 : decode cX3_remember 32 = .ok (.iadd, 1) := by decide +kernel
theorem dX3_remember_33 : decode cX3_remember 33 = .ok (.bipush 16, 2) := by decide +kernel
theorem dX3_remember_35 : decode cX3_remember 35 = .ok (.invokestatic 29, 3) := by decide +kernel
theorem dX3_remember_38 : decode cX3_remember 38 = .ok (.putfield 18, 3) := by decide +kernel
theorem dX3_remember_41 : decode cX3_remember 41 = .ok (.return_, 1) := by decide +kernel
theorem dX3_bringBack_0 : decode cX3_bringBack 0 = .ok (.aload_n 0, 1) := by decide +kernel
theorem dX3_bringBack_1 : decode cX3_bringBack 1 = .ok (.aload_n 0, 1) := by decide +kernel
theorem dX3_bringBack_2 : decode cX3_bringBack 2 = .ok (.getfield 22, 3) := by decide +kernel
theorem dX3_bringBack_5 : decode cX3_bringBack 5 = .ok (.bipush 16, 2) := by decide +kernel
theorem dX3_bringBack_7 : decode cX3_bringBack 7 = .ok (.iadd, 1) := by decide +kernel
theorem dX3_bringBack_8 : decode cX3_bringBack 8 = .ok (.iconst 1, 1) := by decide +kernel
theorem dX3_bringBack_9 : decode cX3_bringBack 9 = .ok (.isub, 1) := by decide +kernel
theorem dX3_bringBack_10 : decode cX3_bringBack 10 = .ok (.bipush 16, 2) := by decide +kernel
theorem dX3_bringBack_12 : decode cX3_bringBack 12 = .ok (.irem, 1) := by decide +kernel
theorem dX3_bringBack_13 : decode cX3_bringBack 13 = .ok (.putfield 22, 3) := by decide +kernel
theorem dX3_bringBack_16 : decode cX3_bringBack 16 = .ok (.aload_n 1, 1) := by decide +kernel
theorem dX3_bringBack_17 : decode cX3_bringBack 17 = .ok (.aload_n 0, 1) := by decide +kernel
theorem dX3_bringBack_18 : decode cX3_bringBack 18 = .ok (.getfield 11, 3) := by decide +kernel
theorem dX3_bringBack_21 : decode cX3_bringBack 21 = .ok (.aload_n 0, 1) := by decide +kernel
theorem dX3_bringBack_22 : decode cX3_bringBack 22 = .ok (.getfield 22, 3) := by decide +kernel
theorem dX3_bringBack_25 : decode cX3_bringBack 25 = .ok (.aaload, 1) := by decide +kernel
theorem dX3_bringBack_26 : decode cX3_bringBack 26 = .ok (.invokevirtual 25, 3) := by decide +kernel
theorem dX3_bringBack_29 : decode cX3_bringBack 29 = .ok (.aload_n 0, 1) := by decide +kernel
theorem dX3_bringBack_30 : decode cX3_bringBack 30 = .ok (.dup, 1) := by decide +kernel
theorem dX3_bringBack_31 : decode cX3_bringBack 31 = .ok (.getfield 18, 3) := by decide +kernel
theorem dX3_bringBack_34 : decode cX3_bringBack 34 = .ok (.iconst 1, 1) := by decide +kernel
theorem dX3_bringBack_35 : decode cX3_bringBack 35 = .ok (.isub, 1) := by decide +kernel
theorem dX3_bringBack_36 : decode cX3_bringBack 36 = .ok (.putfield 18, 3) := by decide +kernel
theorem dX3_bringBack_39 : decode cX3_bringBack 39 = .ok (.return_, 1) := by decide +kernel
theorem dX4_init_0 : decode cX4_init 0 = .ok (.aload_n 0, 1) := by decide +kernel
theorem dX4_init_1 : decode cX4_init 1 = .ok (.invokespecial 3, 3) := by decide +kernel
theorem dX4_init_4 : decode cX4_init 4 = .ok (.aload_n 0, 1) := by decide +kernel
theorem dX4_init_5 : decode cX4_init 5 = .ok (.bipush 9, 2) := by decide +kernel
theorem dX4_init_7 : decode cX4_init 7 = .ok (.newarray .int, 2) := by decide +kernel
theorem dX4_init_9 : decode cX4_init 9 = .ok (.putfield 9, 3) := by decide +kernel
theorem dX4_init_12 : decode cX4_init 12 = .ok (.aload_n 0, 1) := by decide +kernel
theorem dX4_init_13 : decode cX4_init 13 = .ok (.bipush 9, 2) := by decide +kernel
theorem dX4_init_15 : decode cX4_init 15 = .ok (.newarray .int, 2) := by decide +kernel
theorem dX4_init_17 : decode cX4_init 17 = .ok (.putfield 15, 3) := by decide +kernel
theorem dX4_init_20 : decode cX4_init 20 = .ok (.aload_n 0, 1) := by decide +kernel
theorem dX4_init_21 : decode cX4_init 21 = .ok (.bipush 9, 2) := by decide +kernel
theorem dX4_init_23 : decode cX4_init 23 = .ok (.newarray .int, 2) := by decide +kernel
theorem dX4_init_25 : decode cX4_init 25 = .ok (.putfield 18, 3) := by decide +kernel
theorem dX4_init_28 : decode cX4_init 28 = .ok (.aload_n 0, 1) := by decide +kernel
theorem dX4_init_29 : decode cX4_init 29 = .ok (.bipush 9, 2) := by decide +kernel
theorem dX4_init_31 : decode cX4_init 31 = .ok (.newarray .int, 2) := by decide +kernel
theorem dX4_init_33 : decode cX4_init 33 = .ok (.putfield 21, 3) := by decide +kernel
theorem dX4_init_36 : decode cX4_init 36 = .ok (.aload_n 0, 1) := by decide +kernel
theorem dX4_init_37 : decode cX4_init 37 = .ok (.aload_n 1, 1) := by decide +kernel
theorem dX4_init_38 : decode cX4_init 38 = .ok (.putfield 24, 3) := by decide +kernel
theorem dX4_init_41 : decode cX4_init 41 = .ok (.return_, 1) := by decide +kernel
theorem dX4_choose_0 : decode cX4_choose 0 = .ok (.aload_n 0, 1) := by decide +kernel
theorem dX4_choose_1 : decode cX4_choose 1 = .ok (.iload_n 1, 1) := by decide +kernel
theorem dX4_choose_2 : decode cX4_choose 2 = .ok (.invokevirtual 28, 3) := by decide +kernel
theorem dX4_choose_5 : decode cX4_choose 5 = .ok (.iconst 1, 1) := by decide +kernel
theorem dX4_choose_6 : decode cX4_choose 6 = .ok (.aload_n 0, 1) := by decide +kernel
theorem dX4_choose_7 : decode cX4_choose 7 = .ok (.getfield 24, 3) := by decide +kernel
theorem dX4_choose_10 : decode cX4_choose 10 = .ok (.getfield 32, 3) := by decide +kernel
theorem dX4_choose_13 : decode cX4_choose 13 = .ok (.getfield 38, 3) := by decide +kernel
theorem dX4_choose_16 : decode cX4_choose 16 = .ok (.ishl, 1) := by decide +kernel
theorem dX4_choose_17 : decode cX4_choose 17 = .ok (.iconst 1, 1) := by decide +kernel
theorem dX4_choose_18 : decode cX4_choose 18 = .ok (.isub, 1) := by decide +kernel
theorem dX4_choose_19 : decode cX4_choose 19 = .ok (.istore_n 2, 1) := by decide +kernel
theorem dX4_choose_20 : decode cX4_choose 20 = .ok (.aload_n 0, 1) := by decide +kernel
theorem dX4_choose_21 : decode cX4_choose 21 = .ok (.aload_n 0, 1) := by decide +kernel
theorem dX4_choose_22 : decode cX4_choose 22 = .ok (.iconst 0, 1) := by decide +kernel
theorem dX4_choose_23 : decode cX4_choose 23 = .ok (.iload_n 2, 1) := by decide +kernel
theorem dX4_choose_24 : decode cX4_choose 24 = .ok (.invokevirtual 44, 3) := by decide +kernel
theorem dX4_choose_27 : decode cX4_choose 27 = .ok (.putfield 48, 3) := by decide +kernel
theorem dX4_choose_30 : decode cX4_choose 30 = .ok (.aload_n 0, 1) := by decide +kernel
theorem dX4_choose_31 : decode cX4_choose 31 = .ok (.getfield 48, 3) := by decide +kernel
theorem dX4_choose_34 : decode cX4_choose 34 = .ok (.istore_n 3, 1) := by decide +kernel
theorem dX4_choose_35 : decode cX4_choose 35 = .ok (.iconst 0, 1) := by decide +kernel
theorem dX4_choose_36 : decode cX4_choose 36 = .ok (.istore 4, 2) := by decide +kernel
theorem dX4_choose_38 : decode cX4_choose 38 = .ok (.iload 4, 2) := by decide +kernel
theorem dX4_choose_40 : decode cX4_choose 40 = .ok (.aload_n 0, 1) := by decide +kernel
theorem dX4_choose_41 : decode cX4_choose 41 = .ok (.getfield 24, 3) := by decide +kernel
theorem dX4_choose_44 : decode cX4_choose 44 = .ok (.getfield 32, 3) := by decide +kernel
theorem dX4_choose_47 : decode cX4_choose 47 = .ok (.getfield 51, 3) := by decide +kernel
theorem dX4_choose_50 : decode cX4_choose 50 = .ok (.if_icmp .ge 52, 3) := by decide +kernel
theorem dX4_choose_53 : decode cX4_choose 53 = .ok (.aload_n 0, 1) := by decide +kernel
theorem dX4_choose_54 : decode cX4_choose 54 = .ok (.getfield 9, 3) := by decide +kernel
theorem dX4_choose_57 : decode cX4_choose 57 = .ok (.iload 4, 2) := by decide +kernel
theorem dX4_choose_59 : decode cX4_choose 59 = .ok (.aload_n 0, 1) := by decide +kernel
theorem dX4_choose_60 : decode cX4_choose 60 = .ok (.iload 4, 2) := by decide +kernel
theorem dX4_choose_62 : decode cX4_choose 62 = .ok (.iload_n 2, 1) := by decide +kernel
theorem dX4_choose_63 : decode cX4_choose 63 = .ok (.iload_n 3, 1) := by decide +kernel
theorem dX4_choose_64 : decode cX4_choose 64 = .ok (.invokevirtual 54, 3) := by decide +kernel
theorem dX4_choose_67 : decode cX4_choose 67 = .ok (.iastore, 1) := by decide +kernel
theorem dX4_choose_68 : decode cX4_choose 68 = .ok (.aload_n 0, 1) := by decide +kernel
theorem dX4_choose_69 : decode cX4_choose 69 = .ok (.getfield 9, 3) := by decide +kernel
theorem dX4_choose_72 : decode cX4_choose 72 = .ok (.iload 4, 2) := by decide +kernel
theorem dX4_choose_74 : decode cX4_choose 74 = .ok (.iaload, 1) := by decide +kernel
theorem dX4_choose_75 : decode cX4_choose 75 = .ok (.iconst (-1), 1) := by decide +kernel
theorem dX4_choose_76 : decode cX4_choose 76 = .ok (.if_icmp .eq 20, 3) := by decide +kernel
theorem dX4_choose_79 : decode cX4_choose 79 = .ok (.iload_n 2, 1) := by decide +kernel
theorem dX4_choose_80 : decode cX4_choose 80 = .ok (.iconst 1, 1) := by decide +kernel
theorem dX4_choose_81 : decode cX4_choose 81 = .ok (.aload_n 0, 1) := by decide +kernel
theorem dX4_choose_82 : decode cX4_choose 82 = .ok (.getfield 9, 3) := by decide +kernel
theorem dX4_choose_85 : decode cX4_choose 85 = .ok (.iload 4, 2) := by decide +kernel
theorem dX4_choose_87 : decode cX4_choose 87 = .ok (.iaload, 1) := by decide +kernel
theorem dX4_choose_88 : decode cX4_choose 88 = .ok (.ishl, 1) := by decide +kernel
theorem dX4_choose_89 : decode cX4_choose 89 = .ok (.iconst (-1), 1) := by decide +kernel
theorem dX4_choose_90 : decode cX4_choose 90 = .ok (.ixor, 1) := by decide +kernel
theorem dX4_choose_91 : decode cX4_choose 91 = .ok (.iand, 1) := by decide +kernel
theorem dX4_choose_92 : decode cX4_choose 92 = .ok (.istore_n 2, 1) := by decide +kernel
theorem dX4_choose_93 : decode cX4_choose 93 = .ok (.iinc 3 (-1), 3) := by decide +kernel
theorem dX4_choose_96 : decode cX4_choose 96 = .ok (.iinc 4 1, 3) := by decide +kernel
theorem dX4_choose_99 : decode cX4_choose 99 = .ok (.goto (-61), 3) := by decide +kernel
theorem dX4_choose_102 : decode cX4_choose 102 = .ok (.return_, 1) := by decide +kernel
theorem dX4_prepare_0 : decode cX4_prepare 0 = .ok (.iconst 0, 1) := by decide +kernel
theorem dX4_prepare_1 : decode cX4_prepare 1 = .ok (.istore_n 2, 1) := by decide +kernel
theorem dX4_prepare_2 : decode cX4_prepare 2 = .ok (.iload_n 2, 1) := by decide +kernel
theorem dX4_prepare_3 : decode cX4_prepare 3 = .ok (.aload_n 0, 1) := by decide +kernel
theorem dX4_prepare_4 : decode cX4_prepare 4 = .ok (.getfield 24, 3) := by decide +kernel
theorem dX4_prepare_7 : decode cX4_prepare 7 = .ok (.getfield 32, 3) := by decide +kernel
theorem dX4_prepare_10 : decode cX4_prepare 10 = .ok (.getfield 38, 3) := by decide +kernel
theorem dX4_prepare_13 : decode cX4_prepare 13 = .ok (.if_icmp .ge 23, 3) := by decide +kernel
theorem dX4_prepare_16 : decode cX4_prepare 16 = .ok (.aload_n 0, 1) := by decide +kernel
theorem dX4_prepare_17 : decode cX4_prepare 17 = .ok (.getfield 18, 3) := by decide +kernel
theorem dX4_prepare_20 : decode cX4_prepare 20 = .ok (.iload_n 2, 1) := by decide +kernel
theorem dX4_prepare_21 : decode cX4_prepare 21 = .ok (.aload_n 0, 1) := by decide +kernel
theorem dX4_prepare_22 : decode cX4_prepare 22 = .ok (.getfield 24, 3) := by decide +kernel
theorem dX4_prepare_25 : decode cX4_prepare 25 = .ok (.iload_n 2, 1) := by decide +kernel
theorem dX4_prepare_26 : decode cX4_prepare 26 = .ok (.invokevirtual 58, 3) := by decide +kernel
theorem dX4_prepare_29 : decode cX4_prepare 29 = .ok (.iastore, 1) := by decide +kernel
theorem dX4_prepare_30 : decode cX4_prepare 30 = .ok (.iinc 2 1, 3) := by decide +kernel
theorem dX4_prepare_33 : decode cX4_prepare 33 = .ok (.goto (-31), 3) := by decide +kernel
theorem dX4_prepare_36 : decode cX4_prepare 36 = .ok (.iconst 0, 1) := by decide +kernel
theorem dX4_prepare_37 : decode cX4_prepare 37 = .ok (.istore_n 2, 1) := by decide +kernel
theorem dX4_prepare_38 : decode cX4_prepare 38 = .ok (.iload_n 2, 1) := by decide +kernel
theorem dX4_prepare_39 : decode cX4_prepare 39 = .ok (.aload_n 0, 1) := by decide +kernel
theorem dX4_prepare_40 : decode cX4_prepare 40 = .ok (.getfield 24, 3) := by decide +kernel
theorem dX4_prepare_43 : decode cX4_prepare 43 = .ok (.getfield 32, 3) := by decide +kernel
theorem dX4_prepare_46 : decode cX4_prepare 46 = .ok (.getfield 51, 3) := by decide +kernel
theorem dX4_prepare_49 : decode cX4_prepare 49 = .ok (.if_icmp .ge 79, 3) := by decide +kernel
theorem dX4_prepare_52 : decode cX4_prepare 52 = .ok (.aload_n 0, 1) := by decide +kernel
theorem dX4_prepare_53 : decode cX4_prepare 53 = .ok (.getfield 15, 3) := by decide +kernel
theorem dX4_prepare_56 : decode cX4_prepare 56 = .ok (.iload_n 2, 1) := by decide +kernel
theorem dX4_prepare_57 : decode cX4_prepare 57 = .ok (.aload_n 0, 1) := by decide +kernel
theorem dX4_prepare_58 : decode cX4_prepare 58 = .ok (.getfield 24, 3) := by decide +kernel
theorem dX4_prepare_61 : decode cX4_prepare 61 = .ok (.iload_n 1, 1) := by decide +kernel
theorem dX4_prepare_62 : decode cX4_prepare 62 = .ok (.iload_n 2, 1) := by decide +kernel
theorem dX4_prepare_63 : decode cX4_prepare 63 = .ok (.invokevirtual 62, 3) := by decide +kernel
theorem dX4_prepare_66 : decode cX4_prepare 66 = .ok (.iastore, 1) := by decide +kernel
theorem dX4_prepare_67 : decode cX4_prepare 67 = .ok (.iload_n 2, 1) := by decide +kernel
theorem dX4_prepare_68 : decode cX4_prepare 68 = .ok (.istore_n 3, 1) := by decide +kernel
theorem dX4_prepare_69 : decode cX4_prepare 69 = .ok (.iload_n 3, 1) := by decide +kernel
theorem dX4_prepare_70 : decode cX4_prepare 70 = .ok (.ifCond .le 45, 3) := by decide +kernel
theorem dX4_prepare_73 : decode cX4_prepare 73 = .ok (.aload_n 0, 1) := by decide +kernel
theorem dX4_prepare_74 : decode cX4_prepare 74 = .ok (.getfield 15, 3) := by decide +kernel
theorem dX4_prepare_77 : decode cX4_prepare 77 = .ok (.aload_n 0, 1) := by decide +kernel
theorem dX4_prepare_78 : decode cX4_prepare 78 = .ok (.getfield 21, 3) := by decide +kernel
theorem dX4_prepare_81 : decode cX4_prepare 81 = .ok (.iload_n 3, 1) := by decide +kernel
theorem dX4_prepare_82 : decode cX4_prepare 82 = .ok (.iconst 1, 1) := by decide +kernel
theorem dX4_prepare_83 : decode cX4_prepare 83 = .ok (.isub, 1) := by decide +kernel
theorem dX4_prepare_84 : decode cX4_prepare 84 = .ok (.iaload, 1) := by decide +kernel
theorem dX4_prepare_85 : decode cX4_prepare 85 = .ok (.iaload, 1) := by decide +kernel
theorem dX4_prepare_86 : decode cX4_prepare 86 = .ok (.aload_n 0, 1) := by decide +kernel
theorem dX4_prepare_87 : decode cX4_prepare 87 = .ok (.getfield 15, 3) := by decide +kernel
theorem dX4_prepare_90 : decode cX4_prepare 90 = .ok (.iload_n 2, 1) := by decide +kernel
theorem dX4_prepare_91 : decode cX4_prepare 91 = .ok (.iaload, 1) := by decide +kernel
theorem dX4_prepare_92 : decode cX4_prepare 92 = .ok (.if_icmp .le 23, 3) := by decide +kernel
theorem dX4_prepare_95 : decode cX4_prepare 95 = .ok (.aload_n 0, 1) := by decide +kernel
theorem dX4_prepare_96 : decode cX4_prepare 96 = .ok (.getfield 21, 3) := by decide +kernel
theorem dX4_prepare_99 : decode cX4_prepare 99 = .ok (.iload_n 3, 1) := by decide +kernel
theorem dX4_prepare_100 : decode cX4_prepare 100 = .ok (.aload_n 0, 1) := by decide +kernel
theorem dX4_prepare_101 : decode cX4_prepare 101 = .ok (.getfield 21, 3) := by decide +kernel
theorem dX4_prepare_104 : decode cX4_prepare 104 = .ok (.iload_n 3, 1) := by decide +kernel
theorem dX4_prepare_105 : decode cX4_prepare 105 = .ok (.iconst 1, 1) := by decide +kernel
theorem dX4_prepare_106 : decode cX4_prepare 106 = .ok (.isub, 1) := by decide +kernel
theorem dX4_prepare_107 : decode cX4_prepare 107 = .ok (.iaload, 1) := by decide +kernel
theorem dX4_prepare_108 : decode cX4_prepare 108 = .ok (.iastore, 1) := by decide +kernel
theorem dX4_prepare_109 : decode cX4_prepare 109 = .ok (.iinc 3 (-1), 3) := by decide +kernel
theorem dX4_prepare_112 : decode cX4_prepare 112 = .ok (.goto (-43), 3) := by decide +kernel
theorem dX4_prepare_115 : decode cX4_prepare 115 = .ok (.aload_n 0, 1) := by decide +kernel
theorem dX4_prepare_116 : decode cX4_prepare 116 = .ok (.getfield 21, 3) := by decide +kernel
theorem dX4_prepare_119 : decode cX4_prepare 119 = .ok (.iload_n 3, 1) := by decide +kernel
theorem dX4_prepare_120 : decode cX4_prepare 120 = .ok (.iload_n 2, 1) := by decide +kernel
theorem dX4_prepare_121 : decode cX4_prepare 121 = .ok (.iastore, 1) := by decide +kernel
theorem dX4_prepare_122 : decode cX4_prepare 122 = .ok (.iinc 2 1, 3) := by decide +kernel
theorem dX4_prepare_125 : decode cX4_prepare 125 = .ok (.goto (-87), 3) := by decide +kernel
theorem dX4_prepare_128 : decode cX4_prepare 128 = .ok (.return_, 1) := by decide +kernel
theorem dX4_leastFor_0 : decode cX4_leastFor 0 = .ok (.iconst 0, 1) := by decide +kernel
theorem dX4_leastFor_1 : decode cX4_leastFor 1 = .ok (.istore 4, 2) := by decide +kernel
theorem dX4_leastFor_3 : decode cX4_leastFor 3 = .ok (.iload 4, 2) := by decide +kernel
theorem dX4_leastFor_5 : decode cX4_leastFor 5 = .ok (.aload_n 0, 1) := by decide +kernel
theorem dX4_leastFor_6 : decode cX4_leastFor 6 = .ok (.getfield 24, 3) := by decide +kernel
theorem dX4_leastFor_9 : decode cX4_leastFor 9 = .ok (.getfield 32, 3) := by decide +kernel
theorem dX4_leastFor_12 : decode cX4_leastFor 12 = .ok (.getfield 38, 3) := by decide +kernel
theorem dX4_leastFor_15 : decode cX4_leastFor 15 = .ok (.if_icmp .ge 71, 3) := by decide +kernel
theorem dX4_leastFor_18 : decode cX4_leastFor 18 = .ok (.iload_n 2, 1) := by decide +kernel
theorem dX4_leastFor_19 : decode cX4_leastFor 19 = .ok (.iload 4, 2) := by decide +kernel
theorem dX4_leastFor_21 : decode cX4_leastFor 21 = .ok (.ishr, 1) := by decide +kernel
theorem dX4_leastFor_22 : decode cX4_leastFor 22 = .ok (.iconst 1, 1) := by decide +kernel
theorem dX4_leastFor_23 : decode cX4_leastFor 23 = .ok (.iand, 1) := by decide +kernel
theorem dX4_leastFor_24 : decode cX4_leastFor 24 = .ok (.iconst 1, 1) := by decide +kernel
theorem dX4_leastFor_25 : decode cX4_leastFor 25 = .ok (.if_icmp .ne 23, 3) := by decide +kernel
theorem dX4_leastFor_28 : decode cX4_leastFor 28 = .ok (.aload_n 0, 1) := by decide +kernel
theorem dX4_leastFor_29 : decode cX4_leastFor 29 = .ok (.getfield 18, 3) := by decide +kernel
theorem dX4_leastFor_32 : decode cX4_leastFor 32 = .ok (.iload 4, 2) := by decide +kernel
theorem dX4_leastFor_34 : decode cX4_leastFor 34 = .ok (.iaload, 1) := by decide +kernel
theorem dX4_leastFor_35 : decode cX4_leastFor 35 = .ok (.aload_n 0, 1) := by decide +kernel
theorem dX4_leastFor_36 : decode cX4_leastFor 36 = .ok (.getfield 15, 3) := by decide +kernel
theorem dX4_leastFor_39 : decode cX4_leastFor 39 = .ok (.iload_n 1, 1) := by decide +kernel
theorem dX4_leastFor_40 : decode cX4_leastFor 40 = .ok (.iaload, 1) := by decide +kernel
theorem dX4_leastFor_41 : decode cX4_leastFor 41 = .ok (.if_icmp .gt 7, 3) := by decide +kernel
theorem dX4_leastFor_44 : decode cX4_leastFor 44 = .ok (.iconst 1, 1) := by decide +kernel
theorem dX4_leastFor_45 : decode cX4_leastFor 45 = .ok (.goto 4, 3) := by decide +kernel
theorem dX4_leastFor_48 : decode cX4_leastFor 48 = .ok (.iconst 0, 1) := by decide +kernel
theorem dX4_leastFor_49 : decode cX4_leastFor 49 = .ok (.istore 5, 2) := by decide +kernel
theorem dX4_leastFor_51 : decode cX4_leastFor 51 = .ok (.iload 5, 2) := by decide +kernel
theorem dX4_leastFor_53 : decode cX4_leastFor 53 = .ok (.ifCond .eq 27, 3) := by decide +kernel
theorem dX4_leastFor_56 : decode cX4_leastFor 56 = .ok (.aload_n 0, 1) := by decide +kernel
theorem dX4_leastFor_57 : decode cX4_leastFor 57 = .ok (.iload_n 1, 1) := by decide +kernel
theorem dX4_leastFor_58 : decode cX4_leastFor 58 = .ok (.iconst 1, 1) := by decide +kernel
theorem dX4_leastFor_59 : decode cX4_leastFor 59 = .ok (.iadd, 1) := by decide +kernel
theorem dX4_leastFor_60 : decode cX4_leastFor 60 = .ok (.iload_n 2, 1) := by decide +kernel
theorem dX4_leastFor_61 : decode cX4_leastFor 61 = .ok (.iconst 1, 1) := by decide +kernel
theorem dX4_leastFor_62 : decode cX4_leastFor 62 = .ok (.iload 4, 2) := by decide +kernel
theorem dX4_leastFor_64 : decode cX4_leastFor 64 = .ok (.ishl, 1) := by decide +kernel
theorem dX4_leastFor_65 : decode cX4_leastFor 65 = .ok (.iconst (-1), 1) := by decide +kernel
theorem dX4_leastFor_66 : decode cX4_leastFor 66 = .ok (.ixor, 1) := by decide +kernel
theorem dX4_leastFor_67 : decode cX4_leastFor 67 = .ok (.iand, 1) := by decide +kernel
theorem dX4_leastFor_68 : decode cX4_leastFor 68 = .ok (.invokevirtual 44, 3) := by decide +kernel
theorem dX4_leastFor_71 : decode cX4_leastFor 71 = .ok (.iload_n 3, 1) := by decide +kernel
theorem dX4_leastFor_72 : decode cX4_leastFor 72 = .ok (.iconst 1, 1) := by decide +kernel
theorem dX4_leastFor_73 : decode cX4_leastFor 73 = .ok (.isub, 1) := by decide +kernel
theorem dX4_leastFor_74 : decode cX4_leastFor 74 = .ok (.if_icmp .ne 6, 3) := by decide +kernel
theorem dX4_leastFor_77 : decode cX4_leastFor 77 = .ok (.iload 4, 2) := by decide +kernel
theorem dX4_leastFor_79 : decode cX4_leastFor 79 = .ok (.ireturn, 1) := by decide +kernel
theorem dX4_leastFor_80 : decode cX4_leastFor 80 = .ok (.iinc 4 1, 3) := by decide +kernel
theorem dX4_leastFor_83 : decode cX4_leastFor 83 = .ok (.goto (-80), 3) := by decide +kernel
theorem dX4_leastFor_86 : decode cX4_leastFor 86 = .ok (.iconst (-1), 1) := by decide +kernel
theorem dX4_leastFor_87 : decode cX4_leastFor 87 = .ok (.ireturn, 1) := by decide +kernel
theorem dX4_mostFrom_0 : decode cX4_mostFrom 0 = .ok (.iconst 0, 1) := by decide +kernel
theorem dX4_mostFrom_1 : decode cX4_mostFrom 1 = .ok (.istore_n 3, 1) := by decide +kernel
theorem dX4_mostFrom_2 : decode cX4_mostFrom 2 = .ok (.iconst 0, 1) := by decide +kernel
theorem dX4_mostFrom_3 : decode cX4_mostFrom 3 = .ok (.istore 4, 2) := by decide +kernel
theorem dX4_mostFrom_5 : decode cX4_mostFrom 5 = .ok (.iload 4, 2) := by decide +kernel
theorem dX4_mostFrom_7 : decode cX4_mostFrom 7 = .ok (.aload_n 0, 1) := by decide +kernel
theorem dX4_mostFrom_8 : decode cX4_mostFrom 8 = .ok (.getfield 24, 3) := by decide +kernel
theorem dX4_mostFrom_11 : decode cX4_mostFrom 11 = .ok (.getfield 32, 3) := by decide +kernel
theorem dX4_mostFrom_14 : decode cX4_mostFrom 14 = .ok (.getfield 51, 3) := by decide +kernel
theorem dX4_mostFrom_17 : decode cX4_mostFrom 17 = .ok (.if_icmp .ge 43, 3) := by decide +kernel
theorem dX4_mostFrom_20 : decode cX4_mostFrom 20 = .ok (.aload_n 0, 1) := by decide +kernel
theorem dX4_mostFrom_21 : decode cX4_mostFrom 21 = .ok (.getfield 21, 3) := by decide +kernel
theorem dX4_mostFrom_24 : decode cX4_mostFrom 24 = .ok (.iload 4, 2) := by decide +kernel
theorem dX4_mostFrom_26 : decode cX4_mostFrom 26 = .ok (.iaload, 1) := by decide +kernel
theorem dX4_mostFrom_27 : decode cX4_mostFrom 27 = .ok (.istore 5, 2) := by decide +kernel
theorem dX4_mostFrom_29 : decode cX4_mostFrom 29 = .ok (.iload 5, 2) := by decide +kernel
theorem dX4_mostFrom_31 : decode cX4_mostFrom 31 = .ok (.iload_n 1, 1) := by decide +kernel
theorem dX4_mostFrom_32 : decode cX4_mostFrom 32 = .ok (.if_icmp .lt 22, 3) := by decide +kernel
theorem dX4_mostFrom_35 : decode cX4_mostFrom 35 = .ok (.aload_n 0, 1) := by decide +kernel
theorem dX4_mostFrom_36 : decode cX4_mostFrom 36 = .ok (.aload_n 0, 1) := by decide +kernel
theorem dX4_mostFrom_37 : decode cX4_mostFrom 37 = .ok (.getfield 15, 3) := by decide +kernel
theorem dX4_mostFrom_40 : decode cX4_mostFrom 40 = .ok (.iload 5, 2) := by decide +kernel
theorem dX4_mostFrom_42 : decode cX4_mostFrom 42 = .ok (.iaload, 1) := by decide +kernel
theorem dX4_mostFrom_43 : decode cX4_mostFrom 43 = .ok (.iload_n 2, 1) := by decide +kernel
theorem dX4_mostFrom_44 : decode cX4_mostFrom 44 = .ok (.invokevirtual 65, 3) := by decide +kernel
theorem dX4_mostFrom_47 : decode cX4_mostFrom 47 = .ok (.iload_n 3, 1) := by decide +kernel
theorem dX4_mostFrom_48 : decode cX4_mostFrom 48 = .ok (.if_icmp .le 6, 3) := by decide +kernel
theorem dX4_mostFrom_51 : decode cX4_mostFrom 51 = .ok (.iinc 3 1, 3) := by decide +kernel
theorem dX4_mostFrom_54 : decode cX4_mostFrom 54 = .ok (.iinc 4 1, 3) := by decide +kernel
theorem dX4_mostFrom_57 : decode cX4_mostFrom 57 = .ok (.goto (-52), 3) := by decide +kernel
theorem dX4_mostFrom_60 : decode cX4_mostFrom 60 = .ok (.iload_n 3, 1) := by decide +kernel
theorem dX4_mostFrom_61 : decode cX4_mostFrom 61 = .ok (.ireturn, 1) := by decide +kernel
theorem dX4_quickEnough_0 : decode cX4_quickEnough 0 = .ok (.iconst 0, 1) := by decide +kernel
theorem dX4_quickEnough_1 : decode cX4_quickEnough 1 = .ok (.istore_n 3, 1) := by decide +kernel
theorem dX4_quickEnough_2 : decode cX4_quickEnough 2 = .ok (.iconst 0, 1) := by decide +kernel
theorem dX4_quickEnough_3 : decode cX4_quickEnough 3 = .ok (.istore 4, 2) := by decide +kernel
theorem dX4_quickEnough_5 : decode cX4_quickEnough 5 = .ok (.iload 4, 2) := by decide +kernel
theorem dX4_quickEnough_7 : decode cX4_quickEnough 7 = .ok (.aload_n 0, 1) := by decide +kernel
theorem dX4_quickEnough_8 : decode cX4_quickEnough 8 = .ok (.getfield 24, 3) := by decide +kernel
theorem dX4_quickEnough_11 : decode cX4_quickEnough 11 = .ok (.getfield 32, 3) := by decide +kernel
theorem dX4_quickEnough_14 : decode cX4_quickEnough 14 = .ok (.getfield 38, 3) := by decide +kernel
theorem dX4_quickEnough_17 : decode cX4_quickEnough 17 = .ok (.if_icmp .ge 33, 3) := by decide +kernel
theorem dX4_quickEnough_20 : decode cX4_quickEnough 20 = .ok (.iload_n 2, 1) := by decide +kernel
theorem dX4_quickEnough_21 : decode cX4_quickEnough 21 = .ok (.iload 4, 2) := by decide +kernel
theorem dX4_quickEnough_23 : decode cX4_quickEnough 23 = .ok (.ishr, 1) := by decide +kernel
theorem dX4_quickEnough_24 : decode cX4_quickEnough 24 = .ok (.iconst 1, 1) := by decide +kernel
theorem dX4_quickEnough_25 : decode cX4_quickEnough 25 = .ok (.iand, 1) := by decide +kernel
theorem dX4_quickEnough_26 : decode cX4_quickEnough 26 = .ok (.iconst 1, 1) := by decide +kernel
theorem dX4_quickEnough_27 : decode cX4_quickEnough 27 = .ok (.if_icmp .ne 17, 3) := by decide +kernel
theorem dX4_quickEnough_30 : decode cX4_quickEnough 30 = .ok (.aload_n 0, 1) := by decide +kernel
theorem dX4_quickEnough_31 : decode cX4_quickEnough 31 = .ok (.getfield 18, 3) := by decide +kernel
theorem dX4_quickEnough_34 : decode cX4_quickEnough 34 = .ok (.iload 4, 2) := by decide +kernel
theorem dX4_quickEnough_36 : decode cX4_quickEnough 36 = .ok (.iaload, 1) := by decide +kernel
theorem dX4_quickEnough_37 : decode cX4_quickEnough 37 = .ok (.iload_n 1, 1) := by decide +kernel
theorem dX4_quickEnough_38 : decode cX4_quickEnough 38 = .ok (.if_icmp .gt 6, 3) := by decide +kernel
theorem dX4_quickEnough_41 : decode cX4_quickEnough 41 = .ok (.iinc 3 1, 3) := by decide +kernel
theorem dX4_quickEnough_44 : decode cX4_quickEnough 44 = .ok (.iinc 4 1, 3) := by decide +kernel
theorem dX4_quickEnough_47 : decode cX4_quickEnough 47 = .ok (.goto (-42), 3) := by decide +kernel
theorem dX4_quickEnough_50 : decode cX4_quickEnough 50 = .ok (.iload_n 3, 1) := by decide +kernel
theorem dX4_quickEnough_51 : decode cX4_quickEnough 51 = .ok (.ireturn, 1) := by decide +kernel
theorem dX5_init_0 : decode cX5_init 0 = .ok (.aload_n 0, 1) := by decide +kernel
theorem dX5_init_1 : decode cX5_init 1 = .ok (.invokespecial 3, 3) := by decide +kernel
theorem dX5_init_4 : decode cX5_init 4 = .ok (.aload_n 0, 1) := by decide +kernel
theorem dX5_init_5 : decode cX5_init 5 = .ok (.iconst 1, 1) := by decide +kernel
theorem dX5_init_6 : decode cX5_init 6 = .ok (.putfield 9, 3) := by decide +kernel
theorem dX5_init_9 : decode cX5_init 9 = .ok (.aload_n 0, 1) := by decide +kernel
theorem dX5_init_10 : decode cX5_init 10 = .ok (.bipush 40, 2) := by decide +kernel
theorem dX5_init_12 : decode cX5_init 12 = .ok (.putfield 15, 3) := by decide +kernel
theorem dX5_init_15 : decode cX5_init 15 = .ok (.return_, 1) := by decide +kernel
theorem dX5_forget_0 : decode cX5_forget 0 = .ok (.aload_n 0, 1) := by decide +kernel
theorem dX5_forget_1 : decode cX5_forget 1 = .ok (.iconst 0, 1) := by decide +kernel
theorem dX5_forget_2 : decode cX5_forget 2 = .ok (.putfield 18, 3) := by decide +kernel
theorem dX5_forget_5 : decode cX5_forget 5 = .ok (.aload_n 0, 1) := by decide +kernel
theorem dX5_forget_6 : decode cX5_forget 6 = .ok (.iconst 1, 1) := by decide +kernel
theorem dX5_forget_7 : decode cX5_forget 7 = .ok (.putfield 9, 3) := by decide +kernel
theorem dX5_forget_10 : decode cX5_forget 10 = .ok (.aload_n 0, 1) := by decide +kernel
theorem dX5_forget_11 : decode cX5_forget 11 = .ok (.bipush 40, 2) := by decide +kernel
theorem dX5_forget_13 : decode cX5_forget 13 = .ok (.putfield 15, 3) := by decide +kernel
theorem dX5_forget_16 : decode cX5_forget 16 = .ok (.return_, 1) := by decide +kernel
theorem dX5_add_0 : decode cX5_add 0 = .ok (.aload_n 0, 1) := by decide +kernel
theorem dX5_add_1 : decode cX5_add 1 = .ok (.dup, 1) := by decide +kernel
theorem dX5_add_2 : decode cX5_add 2 = .ok (.getfield 18, 3) := by decide +kernel
theorem dX5_add_5 : decode cX5_add 5 = .ok (.iconst 1, 1) := by decide +kernel
theorem dX5_add_6 : decode cX5_add 6 = .ok (.iadd, 1) := by decide +kernel
theorem dX5_add_7 : decode cX5_add 7 = .ok (.putfield 18, 3) := by decide +kernel
theorem dX5_add_10 : decode cX5_add 10 = .ok (.iload_n 2, 1) := by decide +kernel
theorem dX5_add_11 : decode cX5_add 11 = .ok (.ifCond .eq 18, 3) := by decide +kernel
theorem dX5_add_14 : decode cX5_add 14 = .ok (.aload_n 0, 1) := by decide +kernel
theorem dX5_add_15 : decode cX5_add 15 = .ok (.aload_n 0, 1) := by decide +kernel
theorem dX5_add_16 : decode cX5_add 16 = .ok (.getfield 15, 3) := by decide +kernel
theorem dX5_add_19 : decode cX5_add 19 = .ok (.iload_n 1, 1) := by decide +kernel
theorem dX5_add_20 : decode cX5_add 20 = .ok (.invokestatic 21, 3) := by decide +kernel
theorem dX5_add_23 : decode cX5_add 23 = .ok (.putfield 15, 3) := by decide +kernel
theorem dX5_add_26 : decode cX5_add 26 = .ok (.goto 17, 3) := by decide +kernel
theorem dX5_add_29 : decode cX5_add 29 = .ok (.aload_n 0, 1) := by decide +kernel
theorem dX5_add_30 : decode cX5_add 30 = .ok (.aload_n 0, 1) := by decide +kernel
theorem dX5_add_31 : decode cX5_add 31 = .ok (.getfield 9, 3) := by decide +kernel
theorem dX5_add_34 : decode cX5_add 34 = .ok (.iload_n 1, 1) := by decide +kernel
theorem dX5_add_35 : decode cX5_add 35 = .ok (.iconst 1, 1) := by decide +kernel
theorem dX5_add_36 : decode cX5_add 36 = .ok (.iadd, 1) := by decide +kernel
theorem dX5_add_37 : decode cX5_add 37 = .ok (.invokestatic 27, 3) := by decide +kernel
theorem dX5_add_40 : decode cX5_add 40 = .ok (.putfield 9, 3) := by decide +kernel
theorem dX5_add_43 : decode cX5_add 43 = .ok (.return_, 1) := by decide +kernel
theorem dX5_fitting_0 : decode cX5_fitting 0 = .ok (.iconst 0, 1) := by decide +kernel
theorem dX5_fitting_1 : decode cX5_fitting 1 = .ok (.aload_n 0, 1) := by decide +kernel
theorem dX5_fitting_2 : decode cX5_fitting 2 = .ok (.getfield 15, 3) := by decide +kernel
theorem dX5_fitting_5 : decode cX5_fitting 5 = .ok (.aload_n 0, 1) := by decide +kernel
theorem dX5_fitting_6 : decode cX5_fitting 6 = .ok (.getfield 9, 3) := by decide +kernel
theorem dX5_fitting_9 : decode cX5_fitting 9 = .ok (.isub, 1) := by decide +kernel
theorem dX5_fitting_10 : decode cX5_fitting 10 = .ok (.iconst 1, 1) := by decide +kernel
theorem dX5_fitting_11 : decode cX5_fitting 11 = .ok (.iadd, 1) := by decide +kernel
theorem dX5_fitting_12 : decode cX5_fitting 12 = .ok (.invokestatic 27, 3) := by decide +kernel
theorem dX5_fitting_15 : decode cX5_fitting 15 = .ok (.ireturn, 1) := by decide +kernel
theorem dX5_bestFlight_0 : decode cX5_bestFlight 0 = .ok (.aload_n 0, 1) := by decide +kernel
theorem dX5_bestFlight_1 : decode cX5_bestFlight 1 = .ok (.invokevirtual 30, 3) := by decide +kernel
theorem dX5_bestFlight_4 : decode cX5_bestFlight 4 = .ok (.istore_n 1, 1) := by decide +kernel
theorem dX5_bestFlight_5 : decode cX5_bestFlight 5 = .ok (.iload_n 1, 1) := by decide +kernel
theorem dX5_bestFlight_6 : decode cX5_bestFlight 6 = .ok (.iconst 2, 1) := by decide +kernel
theorem dX5_bestFlight_7 : decode cX5_bestFlight 7 = .ok (.if_icmp .ge 7, 3) := by decide +kernel
theorem dX5_bestFlight_10 : decode cX5_bestFlight 10 = .ok (.iconst (-1), 1) := by decide +kernel
theorem dX5_bestFlight_11 : decode cX5_bestFlight 11 = .ok (.goto 13, 3) := by decide +kernel
theorem dX5_bestFlight_14 : decode cX5_bestFlight 14 = .ok (.aload_n 0, 1) := by decide +kernel
theorem dX5_bestFlight_15 : decode cX5_bestFlight 15 = .ok (.getfield 9, 3) := by decide +kernel
theorem dX5_bestFlight_18 : decode cX5_bestFlight 18 = .ok (.iload_n 1, 1) := by decide +kernel
theorem dX5_bestFlight_19 : decode cX5_bestFlight 19 = .ok (.iconst 2, 1) := by decide +kernel
theorem dX5_bestFlight_20 : decode cX5_bestFlight 20 = .ok (.idiv, 1) := by decide +kernel
theorem dX5_bestFlight_21 : decode cX5_bestFlight 21 = .ok (.iadd, 1) := by decide +kernel
theorem dX5_bestFlight_22 : decode cX5_bestFlight 22 = .ok (.iconst 1, 1) := by decide +kernel
theorem dX5_bestFlight_23 : decode cX5_bestFlight 23 = .ok (.isub, 1) := by decide +kernel
theorem dX5_bestFlight_24 : decode cX5_bestFlight 24 = .ok (.ireturn, 1) := by decide +kernel
theorem dX6_init_0 : decode cX6_init 0 = .ok (.aload_n 0, 1) := by decide +kernel
theorem dX6_init_1 : decode cX6_init 1 = .ok (.invokespecial 3, 3) := by decide +kernel
theorem dX6_init_4 : decode cX6_init 4 = .ok (.aload_n 0, 1) := by decide +kernel
theorem dX6_init_5 : decode cX6_init 5 = .ok (.bipush 9, 2) := by decide +kernel
theorem dX6_init_7 : decode cX6_init 7 = .ok (.newarray .int, 2) := by decide +kernel
theorem dX6_init_9 : decode cX6_init 9 = .ok (.putfield 9, 3) := by decide +kernel
theorem dX6_init_12 : decode cX6_init 12 = .ok (.aload_n 0, 1) := by decide +kernel
theorem dX6_init_13 : decode cX6_init 13 = .ok (.bipush 9, 2) := by decide +kernel
theorem dX6_init_15 : decode cX6_init 15 = .ok (.newarray .int, 2) := by decide +kernel
theorem dX6_init_17 : decode cX6_init 17 = .ok (.putfield 15, 3) := by decide +kernel
theorem dX6_init_20 : decode cX6_init 20 = .ok (.aload_n 0, 1) := by decide +kernel
theorem dX6_init_21 : decode cX6_init 21 = .ok (.bipush 9, 2) := by decide +kernel
theorem dX6_init_23 : decode cX6_init 23 = .ok (.newarray .int, 2) := by decide +kernel
theorem dX6_init_25 : decode cX6_init 25 = .ok (.putfield 18, 3) := by decide +kernel
theorem dX6_init_28 : decode cX6_init 28 = .ok (.aload_n 0, 1) := by decide +kernel
theorem dX6_init_29 : decode cX6_init 29 = .ok (.bipush 6, 2) := by decide +kernel
theorem dX6_init_31 : decode cX6_init 31 = .ok (.newarray .int, 2) := by decide +kernel
theorem dX6_init_33 : decode cX6_init 33 = .ok (.putfield 21, 3) := by decide +kernel
theorem dX6_init_36 : decode cX6_init 36 = .ok (.aload_n 0, 1) := by decide +kernel
theorem dX6_init_37 : decode cX6_init 37 = .ok (.bipush 6, 2) := by decide +kernel
theorem dX6_init_39 : decode cX6_init 39 = .ok (.newarray .int, 2) := by decide +kernel
theorem dX6_init_41 : decode cX6_init 41 = .ok (.putfield 24, 3) := by decide +kernel
theorem dX6_init_44 : decode cX6_init 44 = .ok (.aload_n 0, 1) := by decide +kernel
theorem dX6_init_45 : decode cX6_init 45 = .ok (.bipush 6, 2) := by decide +kernel
theorem dX6_init_47 : decode cX6_init 47 = .ok (.newarray .int, 2) := by decide +kernel
theorem dX6_init_49 : decode cX6_init 49 = .ok (.putfield 27, 3) := by decide +kernel
theorem dX6_init_52 : decode cX6_init 52 = .ok (.aload_n 0, 1) := by decide +kernel
theorem dX6_init_53 : decode cX6_init 53 = .ok (.bipush 6, 2) := by decide +kernel
theorem dX6_init_55 : decode cX6_init 55 = .ok (.newarray .int, 2) := by decide +kernel
theorem dX6_init_57 : decode cX6_init 57 = .ok (.putfield 30, 3) := by decide +kernel
theorem dX6_init_60 : decode cX6_init 60 = .ok (.aload_n 0, 1) := by decide +kernel
theorem dX6_init_61 : decode cX6_init 61 = .ok (.bipush 20, 2) := by decide +kernel
theorem dX6_init_63 : decode cX6_init 63 = .ok (.newarray .int, 2) := by decide +kernel
theorem dX6_init_65 : decode cX6_init 65 = .ok (.putfield 33, 3) := by decide +kernel
theorem dX6_init_68 : decode cX6_init 68 = .ok (.return_, 1) := by decide +kernel
theorem dX6_begin_0 : decode cX6_begin 0 = .ok (.aload_n 0, 1) := by decide +kernel
theorem dX6_begin_1 : decode cX6_begin 1 = .ok (.iconst 0, 1) := by decide +kernel
theorem dX6_begin_2 : decode cX6_begin 2 = .ok (.putfield 36, 3) := by decide +kernel
theorem dX6_begin_5 : decode cX6_begin 5 = .ok (.aload_n 0, 1) := by decide +kernel
theorem dX6_begin_6 : decode cX6_begin 6 = .ok (.iconst 0, 1) := by decide +kernel
theorem dX6_begin_7 : decode cX6_begin 7 = .ok (.putfield 40, 3) := by decide +kernel
theorem dX6_begin_10 : decode cX6_begin 10 = .ok (.iconst 0, 1) := by decide +kernel
theorem dX6_begin_11 : decode cX6_begin 11 = .ok (.istore_n 2, 1) := by decide +kernel
theorem dX6_begin_12 : decode cX6_begin 12 = .ok (.iload_n 2, 1) := by decide +kernel
theorem dX6_begin_13 : decode cX6_begin 13 = .ok (.aload_n 1, 1) := by decide +kernel
theorem dX6_begin_14 : decode cX6_begin 14 = .ok (.getfield 43, 3) := by decide +kernel
theorem dX6_begin_17 : decode cX6_begin 17 = .ok (.if_icmp .ge 47, 3) := by decide +kernel
theorem dX6_begin_20 : decode cX6_begin 20 = .ok (.aload_n 0, 1) := by decide +kernel
theorem dX6_begin_21 : decode cX6_begin 21 = .ok (.getfield 9, 3) := by decide +kernel
theorem dX6_begin_24 : decode cX6_begin 24 = .ok (.iload_n 2, 1) := by decide +kernel
theorem dX6_begin_25 : decode cX6_begin 25 = .ok (.aload_n 1, 1) := by decide +kernel
theorem dX6_begin_26 : decode cX6_begin 26 = .ok (.getfield 48, 3) := by decide +kernel
theorem dX6_begin_29 : decode cX6_begin 29 = .ok (.iload_n 2, 1) := by decide +kernel
theorem dX6_begin_30 : decode cX6_begin 30 = .ok (.iaload, 1) := by decide +kernel
theorem dX6_begin_31 : decode cX6_begin 31 = .ok (.iastore, 1) := by decide +kernel
theorem dX6_begin_32 : decode cX6_begin 32 = .ok (.aload_n 0, 1) := by decide +kernel
theorem dX6_begin_33 : decode cX6_begin 33 = .ok (.getfield 15, 3) := by decide +kernel
theorem dX6_begin_36 : decode cX6_begin 36 = .ok (.iload_n 2, 1) := by decide +kernel
theorem dX6_begin_37 : decode cX6_begin 37 = .ok (.iload_n 2, 1) := by decide +kernel
theorem dX6_begin_38 : decode cX6_begin 38 = .ok (.aload_n 1, 1) := by decide +kernel
theorem dX6_begin_39 : decode cX6_begin 39 = .ok (.getfield 51, 3) := by decide +kernel
theorem dX6_begin_42 : decode cX6_begin 42 = .ok (.if_icmp .ge 7, 3) := by decide +kernel
theorem dX6_begin_45 : decode cX6_begin 45 = .ok (.iload_n 2, 1) := by decide +kernel
theorem dX6_begin_46 : decode cX6_begin 46 = .ok (.goto 4, 3) := by decide +kernel
theorem dX6_begin_49 : decode cX6_begin 49 = .ok (.iconst (-1), 1) := by decide +kernel
theorem dX6_begin_50 : decode cX6_begin 50 = .ok (.iastore, 1) := by decide +kernel
theorem dX6_begin_51 : decode cX6_begin 51 = .ok (.aload_n 0, 1) := by decide +kernel
theorem dX6_begin_52 : decode cX6_begin 52 = .ok (.getfield 18, 3) := by decide +kernel
theorem dX6_begin_55 : decode cX6_begin 55 = .ok (.iload_n 2, 1) := by decide +kernel
theorem dX6_begin_56 : decode cX6_begin 56 = .ok (.iconst 0, 1) := by decide +kernel
theorem dX6_begin_57 : decode cX6_begin 57 = .ok (.iastore, 1) := by decide +kernel
theorem dX6_begin_58 : decode cX6_begin 58 = .ok (.iinc 2 1, 3) := by decide +kernel
theorem dX6_begin_61 : decode cX6_begin 61 = .ok (.goto (-49), 3) := by decide +kernel
theorem dX6_begin_64 : decode cX6_begin 64 = .ok (.iconst 0, 1) := by decide +kernel
theorem dX6_begin_65 : decode cX6_begin 65 = .ok (.istore_n 2, 1) := by decide +kernel
theorem dX6_begin_66 : decode cX6_begin 66 = .ok (.iload_n 2, 1) := by decide +kernel
theorem dX6_begin_67 : decode cX6_begin 67 = .ok (.aload_n 1, 1) := by decide +kernel
theorem dX6_begin_68 : decode cX6_begin 68 = .ok (.getfield 54, 3) := by decide +kernel
theorem dX6_begin_71 : decode cX6_begin 71 = .ok (.if_icmp .ge 42, 3) := by decide +kernel
theorem dX6_begin_74 : decode cX6_begin 74 = .ok (.aload_n 0, 1) := by decide +kernel
theorem dX6_begin_75 : decode cX6_begin 75 = .ok (.getfield 21, 3) := by decide +kernel
theorem dX6_begin_78 : decode cX6_begin 78 = .ok (.iload_n 2, 1) := by decide +kernel
theorem dX6_begin_79 : decode cX6_begin 79 = .ok (.aload_n 1, 1) := by decide +kernel
theorem dX6_begin_80 : decode cX6_begin 80 = .ok (.getfield 57, 3) := by decide +kernel
theorem dX6_begin_83 : decode cX6_begin 83 = .ok (.iload_n 2, 1) := by decide +kernel
theorem dX6_begin_84 : decode cX6_begin 84 = .ok (.iaload, 1) := by decide +kernel
theorem dX6_begin_85 : decode cX6_begin 85 = .ok (.iastore, 1) := by decide +kernel
theorem dX6_begin_86 : decode cX6_begin 86 = .ok (.aload_n 0, 1) := by decide +kernel
theorem dX6_begin_87 : decode cX6_begin 87 = .ok (.getfield 24, 3) := by decide +kernel
theorem dX6_begin_90 : decode cX6_begin 90 = .ok (.iload_n 2, 1) := by decide +kernel
theorem dX6_begin_91 : decode cX6_begin 91 = .ok (.iconst 0, 1) := by decide +kernel
theorem dX6_begin_92 : decode cX6_begin 92 = .ok (.iastore, 1) := by decide +kernel
theorem dX6_begin_93 : decode cX6_begin 93 = .ok (.aload_n 0, 1) := by decide +kernel
theorem dX6_begin_94 : decode cX6_begin 94 = .ok (.getfield 27, 3) := by decide +kernel
theorem dX6_begin_97 : decode cX6_begin 97 = .ok (.iload_n 2, 1) := by decide +kernel
theorem dX6_begin_98 : decode cX6_begin 98 = .ok (.iconst 0, 1) := by decide +kernel
theorem dX6_begin_99 : decode cX6_begin 99 = .ok (.iastore, 1) := by decide +kernel
theorem dX6_begin_100 : decode cX6_begin 100 = .ok (.aload_n 0, 1) := by decide +kernel
theorem dX6_begin_101 : decode cX6_begin 101 = .ok (.getfield 30, 3) := by decide +kernel
theorem dX6_begin_104 : decode cX6_begin 104 = .ok (.iload_n 2, 1) := by decide +kernel
theorem dX6_begin_105 : decode cX6_begin 105 = .ok (.iconst 0, 1) := by decide +kernel
theorem dX6_begin_106 : decode cX6_begin 106 = .ok (.iastore, 1) := by decide +kernel
theorem dX6_begin_107 : decode cX6_begin 107 = .ok (.iinc 2 1, 3) := by decide +kernel
theorem dX6_begin_110 : decode cX6_begin 110 = .ok (.goto (-44), 3) := by decide +kernel
theorem dX6_begin_113 : decode cX6_begin 113 = .ok (.return_, 1) := by decide +kernel
theorem dX6_copyFrom_0 : decode cX6_copyFrom 0 = .ok (.aload_n 0, 1) := by decide +kernel
theorem dX6_copyFrom_1 : decode cX6_copyFrom 1 = .ok (.aload_n 1, 1) := by decide +kernel
theorem dX6_copyFrom_2 : decode cX6_copyFrom 2 = .ok (.getfield 36, 3) := by decide +kernel
theorem dX6_copyFrom_5 : decode cX6_copyFrom 5 = .ok (.putfield 36, 3) := by decide +kernel
theorem dX6_copyFrom_8 : decode cX6_copyFrom 8 = .ok (.aload_n 0, 1) := by decide +kernel
theorem dX6_copyFrom_9 : decode cX6_copyFrom 9 = .ok (.aload_n 1, 1) := by decide +kernel
theorem dX6_copyFrom_10 : decode cX6_copyFrom 10 = .ok (.getfield 40, 3) := by decide +kernel
theorem dX6_copyFrom_13 : decode cX6_copyFrom 13 = .ok (.putfield 40, 3) := by decide +kernel
theorem dX6_copyFrom_16 : decode cX6_copyFrom 16 = .ok (.aload_n 1, 1) := by decide +kernel
theorem dX6_copyFrom_17 : decode cX6_copyFrom 17 = .ok (.getfield 9, 3) := by decide +kernel
theorem dX6_copyFrom_20 : decode cX6_copyFrom 20 = .ok (.iconst 0, 1) := by decide +kernel
theorem dX6_copyFrom_21 : decode cX6_copyFrom 21 = .ok (.aload_n 0, 1) := by decide +kernel
theorem dX6_copyFrom_22 : decode cX6_copyFrom 22 = .ok (.getfield 9, 3) := by decide +kernel
theorem dX6_copyFrom_25 : decode cX6_copyFrom 25 = .ok (.iconst 0, 1) := by decide +kernel
theorem dX6_copyFrom_26 : decode cX6_copyFrom 26 = .ok (.bipush 9, 2) := by decide +kernel
theorem dX6_copyFrom_28 : decode cX6_copyFrom 28 = .ok (.invokestatic 60, 3) := by decide +kernel
theorem dX6_copyFrom_31 : decode cX6_copyFrom 31 = .ok (.aload_n 1, 1) := by decide +kernel
theorem dX6_copyFrom_32 : decode cX6_copyFrom 32 = .ok (.getfield 15, 3) := by decide +kernel
theorem dX6_copyFrom_35 : decode cX6_copyFrom 35 = .ok (.iconst 0, 1) := by decide +kernel
theorem dX6_copyFrom_36 : decode cX6_copyFrom 36 = .ok (.aload_n 0, 1) := by decide +kernel
theorem dX6_copyFrom_37 : decode cX6_copyFrom 37 = .ok (.getfield 15, 3) := by decide +kernel
theorem dX6_copyFrom_40 : decode cX6_copyFrom 40 = .ok (.iconst 0, 1) := by decide +kernel
theorem dX6_copyFrom_41 : decode cX6_copyFrom 41 = .ok (.bipush 9, 2) := by decide +kernel
theorem dX6_copyFrom_43 : decode cX6_copyFrom 43 = .ok (.invokestatic 60, 3) := by decide +kernel
theorem dX6_copyFrom_46 : decode cX6_copyFrom 46 = .ok (.aload_n 1, 1) := by decide +kernel
theorem dX6_copyFrom_47 : decode cX6_copyFrom 47 = .ok (.getfield 18, 3) := by decide +kernel
theorem dX6_copyFrom_50 : decode cX6_copyFrom 50 = .ok (.iconst 0, 1) := by decide +kernel
theorem dX6_copyFrom_51 : decode cX6_copyFrom 51 = .ok (.aload_n 0, 1) := by decide +kernel
theorem dX6_copyFrom_52 : decode cX6_copyFrom 52 = .ok (.getfield 18, 3) := by decide +kernel
theorem dX6_copyFrom_55 : decode cX6_copyFrom 55 = .ok (.iconst 0, 1) := by decide +kernel
theorem dX6_copyFrom_56 : decode cX6_copyFrom 56 = .ok (.bipush 9, 2) := by decide +kernel
theorem dX6_copyFrom_58 : decode cX6_copyFrom 58 = .ok (.invokestatic 60, 3) := by decide +kernel
theorem dX6_copyFrom_61 : decode cX6_copyFrom 61 = .ok (.aload_n 1, 1) := by decide +kernel
theorem dX6_copyFrom_62 : decode cX6_copyFrom 62 = .ok (.getfield 21, 3) := by decide +kernel
theorem dX6_copyFrom_65 : decode cX6_copyFrom 65 = .ok (.iconst 0, 1) := by decide +kernel
theorem dX6_copyFrom_66 : decode cX6_copyFrom 66 = .ok (.aload_n 0, 1) := by decide +kernel
theorem dX6_copyFrom_67 : decode cX6_copyFrom 67 = .ok (.getfield 21, 3) := by decide +kernel
theorem dX6_copyFrom_70 : decode cX6_copyFrom 70 = .ok (.iconst 0, 1) := by decide +kernel
theorem dX6_copyFrom_71 : decode cX6_copyFrom 71 = .ok (.bipush 6, 2) := by decide +kernel
theorem dX6_copyFrom_73 : decode cX6_copyFrom 73 = .ok (.invokestatic 60, 3) := by decide +kernel
theorem dX6_copyFrom_76 : decode cX6_copyFrom 76 = .ok (.aload_n 1, 1) := by decide +kernel
theorem dX6_copyFrom_77 : decode cX6_copyFrom 77 = .ok (.getfield 24, 3) := by decide +kernel
theorem dX6_copyFrom_80 : decode cX6_copyFrom 80 = .ok (.iconst 0, 1) := by decide +kernel
theorem dX6_copyFrom_81 : decode cX6_copyFrom 81 = .ok (.aload_n 0, 1) := by decide +kernel
theorem dX6_copyFrom_82 : decode cX6_copyFrom 82 = .ok (.getfield 24, 3) := by decide +kernel
theorem dX6_copyFrom_85 : decode cX6_copyFrom 85 = .ok (.iconst 0, 1) := by decide +kernel
theorem dX6_copyFrom_86 : decode cX6_copyFrom 86 = .ok (.bipush 6, 2) := by decide +kernel
theorem dX6_copyFrom_88 : decode cX6_copyFrom 88 = .ok (.invokestatic 60, 3) := by decide +kernel
theorem dX6_copyFrom_91 : decode cX6_copyFrom 91 = .ok (.aload_n 1, 1) := by decide +kernel
theorem dX6_copyFrom_92 : decode cX6_copyFrom 92 = .ok (.getfield 27, 3) := by decide +kernel
theorem dX6_copyFrom_95 : decode cX6_copyFrom 95 = .ok (.iconst 0, 1) := by decide +kernel
theorem dX6_copyFrom_96 : decode cX6_copyFrom 96 = .ok (.aload_n 0, 1) := by decide +kernel
theorem dX6_copyFrom_97 : decode cX6_copyFrom 97 = .ok (.getfield 27, 3) := by decide +kernel
theorem dX6_copyFrom_100 : decode cX6_copyFrom 100 = .ok (.iconst 0, 1) := by decide +kernel
theorem dX6_copyFrom_101 : decode cX6_copyFrom 101 = .ok (.bipush 6, 2) := by decide +kernel
theorem dX6_copyFrom_103 : decode cX6_copyFrom 103 = .ok (.invokestatic 60, 3) := by decide +kernel
theorem dX6_copyFrom_106 : decode cX6_copyFrom 106 = .ok (.aload_n 1, 1) := by decide +kernel
theorem dX6_copyFrom_107 : decode cX6_copyFrom 107 = .ok (.getfield 30, 3) := by decide +kernel
theorem dX6_copyFrom_110 : decode cX6_copyFrom 110 = .ok (.iconst 0, 1) := by decide +kernel
theorem dX6_copyFrom_111 : decode cX6_copyFrom 111 = .ok (.aload_n 0, 1) := by decide +kernel
theorem dX6_copyFrom_112 : decode cX6_copyFrom 112 = .ok (.getfield 30, 3) := by decide +kernel
theorem dX6_copyFrom_115 : decode cX6_copyFrom 115 = .ok (.iconst 0, 1) := by decide +kernel
theorem dX6_copyFrom_116 : decode cX6_copyFrom 116 = .ok (.bipush 6, 2) := by decide +kernel
theorem dX6_copyFrom_118 : decode cX6_copyFrom 118 = .ok (.invokestatic 60, 3) := by decide +kernel
theorem dX6_copyFrom_121 : decode cX6_copyFrom 121 = .ok (.aload_n 1, 1) := by decide +kernel
theorem dX6_copyFrom_122 : decode cX6_copyFrom 122 = .ok (.getfield 33, 3) := by decide +kernel
theorem dX6_copyFrom_125 : decode cX6_copyFrom 125 = .ok (.iconst 0, 1) := by decide +kernel
theorem dX6_copyFrom_126 : decode cX6_copyFrom 126 = .ok (.aload_n 0, 1) := by decide +kernel
theorem dX6_copyFrom_127 : decode cX6_copyFrom 127 = .ok (.getfield 33, 3) := by decide +kernel
theorem dX6_copyFrom_130 : decode cX6_copyFrom 130 = .ok (.iconst 0, 1) := by decide +kernel
theorem dX6_copyFrom_131 : decode cX6_copyFrom 131 = .ok (.bipush 20, 2) := by decide +kernel
theorem dX6_copyFrom_133 : decode cX6_copyFrom 133 = .ok (.invokestatic 60, 3) := by decide +kernel
theorem dX6_copyFrom_136 : decode cX6_copyFrom 136 = .ok (.return_, 1) := by decide +kernel
theorem dX6_enter_0 : decode cX6_enter 0 = .ok (.bipush 19, 2) := by decide +kernel
theorem dX6_enter_2 : decode cX6_enter 2 = .ok (.istore 4, 2) := by decide +kernel
theorem dX6_enter_4 : decode cX6_enter 4 = .ok (.iload 4, 2) := by decide +kernel
theorem dX6_enter_6 : decode cX6_enter 6 = .ok (.ifCond .le 25, 3) := by decide +kernel
theorem dX6_enter_9 : decode cX6_enter 9 = .ok (.aload_n 0, 1) := by decide +kernel
theorem dX6_enter_10 : decode cX6_enter 10 = .ok (.getfield 33, 3) := by decide +kernel
theorem dX6_enter_13 : decode cX6_enter 13 = .ok (.iload 4, 2) := by decide +kernel
theorem dX6_enter_15 : decode cX6_enter 15 = .ok (.aload_n 0, 1) := by decide +kernel
theorem dX6_enter_16 : decode cX6_enter 16 = .ok (.getfield 33, 3) := by decide +kernel
theorem dX6_enter_19 : decode cX6_enter 19 = .ok (.iload 4, 2) := by decide +kernel
theorem dX6_enter_21 : decode cX6_enter 21 = .ok (.iconst 1, 1) := by decide +kernel
theorem dX6_enter_22 : decode cX6_enter 22 = .ok (.isub, 1) := by decide +kernel
theorem dX6_enter_23 : decode cX6_enter 23 = .ok (.iaload, 1) := by decide +kernel
theorem dX6_enter_24 : decode cX6_enter 24 = .ok (.iastore, 1) := by decide +kernel
theorem dX6_enter_25 : decode cX6_enter 25 = .ok (.iinc 4 (-1), 3) := by decide +kernel
theorem dX6_enter_28 : decode cX6_enter 28 = .ok (.goto (-24), 3) := by decide +kernel
theorem dX6_enter_31 : decode cX6_enter 31 = .ok (.aload_n 0, 1) := by decide +kernel
theorem dX6_enter_32 : decode cX6_enter 32 = .ok (.getfield 33, 3) := by decide +kernel
theorem dX6_enter_35 : decode cX6_enter 35 = .ok (.iconst 0, 1) := by decide +kernel
theorem dX6_enter_36 : decode cX6_enter 36 = .ok (.aload_n 0, 1) := by decide +kernel
theorem dX6_enter_37 : decode cX6_enter 37 = .ok (.getfield 36, 3) := by decide +kernel
theorem dX6_enter_40 : decode cX6_enter 40 = .ok (.bipush 8, 2) := by decide +kernel
theorem dX6_enter_42 : decode cX6_enter 42 = .ok (.ishl, 1) := by decide +kernel
theorem dX6_enter_43 : decode cX6_enter 43 = .ok (.iload_n 1, 1) := by decide +kernel
theorem dX6_enter_44 : decode cX6_enter 44 = .ok (.iconst 5, 1) := by decide +kernel
theorem dX6_enter_45 : decode cX6_enter 45 = .ok (.ishl, 1) := by decide +kernel
theorem dX6_enter_46 : decode cX6_enter 46 = .ok (.ior, 1) := by decide +kernel
theorem dX6_enter_47 : decode cX6_enter 47 = .ok (.iload_n 2, 1) := by decide +kernel
theorem dX6_enter_48 : decode cX6_enter 48 = .ok (.iconst 1, 1) := by decide +kernel
theorem dX6_enter_49 : decode cX6_enter 49 = .ok (.ishl, 1) := by decide +kernel
theorem dX6_enter_50 : decode cX6_enter 50 = .ok (.ior, 1) := by decide +kernel
theorem dX6_enter_51 : decode cX6_enter 51 = .ok (.iload_n 3, 1) := by decide +kernel
theorem dX6_enter_52 : decode cX6_enter 52 = .ok (.ifCond .eq 7, 3) := by decide +kernel
theorem dX6_enter_55 : decode cX6_enter 55 = .ok (.iconst 1, 1) := by decide +kernel
theorem dX6_enter_56 : decode cX6_enter 56 = .ok (.goto 4, 3) := by decide +kernel
theorem dX6_enter_59 : decode cX6_enter 59 = .ok (.iconst 0, 1) := by decide +kernel
theorem dX6_enter_60 : decode cX6_enter 60 = .ok (.ior, 1) := by decide +kernel
theorem dX6_enter_61 : decode cX6_enter 61 = .ok (.iastore, 1) := by decide +kernel
theorem dX6_enter_62 : decode cX6_enter 62 = .ok (.aload_n 0, 1) := by decide +kernel
theorem dX6_enter_63 : decode cX6_enter 63 = .ok (.aload_n 0, 1) := by decide +kernel
theorem dX6_enter_64 : decode cX6_enter 64 = .ok (.getfield 40, 3) := by decide +kernel
theorem dX6_enter_67 : decode cX6_enter 67 = .ok (.iconst 1, 1) := by decide +kernel
theorem dX6_enter_68 : decode cX6_enter 68 = .ok (.iadd, 1) := by decide +kernel
theorem dX6_enter_69 : decode cX6_enter 69 = .ok (.bipush 20, 2) := by decide +kernel
theorem dX6_enter_71 : decode cX6_enter 71 = .ok (.invokestatic 66, 3) := by decide +kernel
theorem dX6_enter_74 : decode cX6_enter 74 = .ok (.putfield 40, 3) := by decide +kernel
theorem dX6_enter_77 : decode cX6_enter 77 = .ok (.return_, 1) := by decide +kernel
theorem dX6_rollEntry_0 : decode cX6_rollEntry 0 = .ok (.iload_n 1, 1) := by decide +kernel
theorem dX6_rollEntry_1 : decode cX6_rollEntry 1 = .ok (.ifCond .lt 11, 3) := by decide +kernel
theorem dX6_rollEntry_4 : decode cX6_rollEntry 4 = .ok (.iload_n 1, 1) := by decide +kernel
theorem dX6_rollEntry_5 : decode cX6_rollEntry 5 = .ok (.aload_n 0, 1) := by decide +kernel
theorem dX6_rollEntry_6 : decode cX6_rollEntry 6 = .ok (.getfield 40, 3) := by decide +kernel
theorem dX6_rollEntry_9 : decode cX6_rollEntry 9 = .ok (.if_icmp .lt 5, 3) := by decide +kernel
theorem dX6_rollEntry_12 : decode cX6_rollEntry 12 = .ok (.iconst (-1), 1) := by decide +kernel
theorem dX6_rollEntry_13 : decode cX6_rollEntry 13 = .ok (.ireturn, 1) := by decide +kernel
theorem dX6_rollEntry_14 : decode cX6_rollEntry 14 = .ok (.aload_n 0, 1) := by decide +kernel
theorem dX6_rollEntry_15 : decode cX6_rollEntry 15 = .ok (.getfield 33, 3) := by decide +kernel
theorem dX6_rollEntry_18 : decode cX6_rollEntry 18 = .ok (.iload_n 1, 1) := by decide +kernel
theorem dX6_rollEntry_19 : decode cX6_rollEntry 19 = .ok (.iaload, 1) := by decide +kernel
theorem dX6_rollEntry_20 : decode cX6_rollEntry 20 = .ok (.istore_n 3, 1) := by decide +kernel
theorem dX6_rollEntry_21 : decode cX6_rollEntry 21 = .ok (.iload_n 2, 1) := by decide +kernel
theorem dX6_rollEntry_22 : decode cX6_rollEntry 22 = .ok (.tableswitch 45 0 2 #[26, 31, 38], 26) := by decide +kernel
theorem dX6_rollEntry_48 : decode cX6_rollEntry 48 = .ok (.iload_n 3, 1) := by decide +kernel
theorem dX6_rollEntry_49 : decode cX6_rollEntry 49 = .ok (.bipush 8, 2) := by decide +kernel
theorem dX6_rollEntry_51 : decode cX6_rollEntry 51 = .ok (.ishr, 1) := by decide +kernel
theorem dX6_rollEntry_52 : decode cX6_rollEntry 52 = .ok (.ireturn, 1) := by decide +kernel
theorem dX6_rollEntry_53 : decode cX6_rollEntry 53 = .ok (.iload_n 3, 1) := by decide +kernel
theorem dX6_rollEntry_54 : decode cX6_rollEntry 54 = .ok (.iconst 5, 1) := by decide +kernel
theorem dX6_rollEntry_55 : decode cX6_rollEntry 55 = .ok (.ishr, 1) := by decide +kernel
theorem dX6_rollEntry_56 : decode cX6_rollEntry 56 = .ok (.bipush 7, 2) := by decide +kernel
theorem dX6_rollEntry_58 : decode cX6_rollEntry 58 = .ok (.iand, 1) := by decide +kernel
theorem dX6_rollEntry_59 : decode cX6_rollEntry 59 = .ok (.ireturn, 1) := by decide +kernel
theorem dX6_rollEntry_60 : decode cX6_rollEntry 60 = .ok (.iload_n 3, 1) := by decide +kernel
theorem dX6_rollEntry_61 : decode cX6_rollEntry 61 = .ok (.iconst 1, 1) := by decide +kernel
theorem dX6_rollEntry_62 : decode cX6_rollEntry 62 = .ok (.ishr, 1) := by decide +kernel
theorem dX6_rollEntry_63 : decode cX6_rollEntry 63 = .ok (.bipush 15, 2) := by decide +kernel
theorem dX6_rollEntry_65 : decode cX6_rollEntry 65 = .ok (.iand, 1) := by decide +kernel
theorem dX6_rollEntry_66 : decode cX6_rollEntry 66 = .ok (.ireturn, 1) := by decide +kernel
theorem dX6_rollEntry_67 : decode cX6_rollEntry 67 = .ok (.iload_n 3, 1) := by decide +kernel
theorem dX6_rollEntry_68 : decode cX6_rollEntry 68 = .ok (.iconst 1, 1) := by decide +kernel
theorem dX6_rollEntry_69 : decode cX6_rollEntry 69 = .ok (.iand, 1) := by decide +kernel
theorem dX6_rollEntry_70 : decode cX6_rollEntry 70 = .ok (.ireturn, 1) := by decide +kernel
theorem dX7_init_0 : decode cX7_init 0 = .ok (.aload_n 0, 1) := by decide +kernel
theorem dX7_init_1 : decode cX7_init 1 = .ok (.invokespecial 3, 3) := by decide +kernel
theorem dX7_init_4 : decode cX7_init 4 = .ok (.aload_n 0, 1) := by decide +kernel
theorem dX7_init_5 : decode cX7_init 5 = .ok (.bipush 9, 2) := by decide +kernel
theorem dX7_init_7 : decode cX7_init 7 = .ok (.newarray .int, 2) := by decide +kernel
theorem dX7_init_9 : decode cX7_init 9 = .ok (.putfield 9, 3) := by decide +kernel
theorem dX7_init_12 : decode cX7_init 12 = .ok (.aload_n 0, 1) := by decide +kernel
theorem dX7_init_13 : decode cX7_init 13 = .ok (.bipush 9, 2) := by decide +kernel
theorem dX7_init_15 : decode cX7_init 15 = .ok (.newarray .int, 2) := by decide +kernel
theorem dX7_init_17 : decode cX7_init 17 = .ok (.putfield 15, 3) := by decide +kernel
theorem dX7_init_20 : decode cX7_init 20 = .ok (.aload_n 0, 1) := by decide +kernel
theorem dX7_init_21 : decode cX7_init 21 = .ok (.bipush 9, 2) := by decide +kernel
theorem dX7_init_23 : decode cX7_init 23 = .ok (.newarray .int, 2) := by decide +kernel
theorem dX7_init_25 : decode cX7_init 25 = .ok (.putfield 18, 3) := by decide +kernel
theorem dX7_init_28 : decode cX7_init 28 = .ok (.aload_n 0, 1) := by decide +kernel
theorem dX7_init_29 : decode cX7_init 29 = .ok (.bipush 9, 2) := by decide +kernel
theorem dX7_init_31 : decode cX7_init 31 = .ok (.newarray .int, 2) := by decide +kernel
theorem dX7_init_33 : decode cX7_init 33 = .ok (.putfield 21, 3) := by decide +kernel
theorem dX7_init_36 : decode cX7_init 36 = .ok (.aload_n 0, 1) := by decide +kernel
theorem dX7_init_37 : decode cX7_init 37 = .ok (.bipush 9, 2) := by decide +kernel
theorem dX7_init_39 : decode cX7_init 39 = .ok (.newarray .int, 2) := by decide +kernel
theorem dX7_init_41 : decode cX7_init 41 = .ok (.putfield 24, 3) := by decide +kernel
theorem dX7_init_44 : decode cX7_init 44 = .ok (.aload_n 0, 1) := by decide +kernel
theorem dX7_init_45 : decode cX7_init 45 = .ok (.bipush 9, 2) := by decide +kernel
theorem dX7_init_47 : decode cX7_init 47 = .ok (.newarray .int, 2) := by decide +kernel
theorem dX7_init_49 : decode cX7_init 49 = .ok (.putfield 27, 3) := by decide +kernel
theorem dX7_init_52 : decode cX7_init 52 = .ok (.aload_n 0, 1) := by decide +kernel
theorem dX7_init_53 : decode cX7_init 53 = .ok (.bipush 6, 2) := by decide +kernel
theorem dX7_init_55 : decode cX7_init 55 = .ok (.newarray .int, 2) := by decide +kernel
theorem dX7_init_57 : decode cX7_init 57 = .ok (.putfield 30, 3) := by decide +kernel
theorem dX7_init_60 : decode cX7_init 60 = .ok (.aload_n 0, 1) := by decide +kernel
theorem dX7_init_61 : decode cX7_init 61 = .ok (.bipush 6, 2) := by decide +kernel
theorem dX7_init_63 : decode cX7_init 63 = .ok (.newarray .int, 2) := by decide +kernel
theorem dX7_init_65 : decode cX7_init 65 = .ok (.putfield 33, 3) := by decide +kernel
theorem dX7_init_68 : decode cX7_init 68 = .ok (.return_, 1) := by decide +kernel
theorem dX7_clear_0 : decode cX7_clear 0 = .ok (.aload_n 0, 1) := by decide +kernel
theorem dX7_clear_1 : decode cX7_clear 1 = .ok (.iconst 0, 1) := by decide +kernel
theorem dX7_clear_2 : decode cX7_clear 2 = .ok (.putfield 36, 3) := by decide +kernel
theorem dX7_clear_5 : decode cX7_clear 5 = .ok (.aload_n 0, 1) := by decide +kernel
theorem dX7_clear_6 : decode cX7_clear 6 = .ok (.iconst 0, 1) := by decide +kernel
theorem dX7_clear_7 : decode cX7_clear 7 = .ok (.putfield 40, 3) := by decide +kernel
theorem dX7_clear_10 : decode cX7_clear 10 = .ok (.aload_n 0, 1) := by decide +kernel
theorem dX7_clear_11 : decode cX7_clear 11 = .ok (.iconst 0, 1) := by decide +kernel
theorem dX7_clear_12 : decode cX7_clear 12 = .ok (.putfield 43, 3) := by decide +kernel
theorem dX7_clear_15 : decode cX7_clear 15 = .ok (.aload_n 0, 1) := by decide +kernel
theorem dX7_clear_16 : decode cX7_clear 16 = .ok (.iconst 0, 1) := by decide +kernel
theorem dX7_clear_17 : decode cX7_clear 17 = .ok (.putfield 46, 3) := by decide +kernel
theorem dX7_clear_20 : decode cX7_clear 20 = .ok (.return_, 1) := by decide +kernel
theorem dX7_copyFrom_0 : decode cX7_copyFrom 0 = .ok (.aload_n 0, 1) := by decide +kernel
theorem dX7_copyFrom_1 : decode cX7_copyFrom 1 = .ok (.aload_n 1, 1) := by decide +kernel
theorem dX7_copyFrom_2 : decode cX7_copyFrom 2 = .ok (.getfield 36, 3) := by decide +kernel
theorem dX7_copyFrom_5 : decode cX7_copyFrom 5 = .ok (.putfield 36, 3) := by decide +kernel
theorem dX7_copyFrom_8 : decode cX7_copyFrom 8 = .ok (.aload_n 0, 1) := by decide +kernel
theorem dX7_copyFrom_9 : decode cX7_copyFrom 9 = .ok (.aload_n 1, 1) := by decide +kernel
theorem dX7_copyFrom_10 : decode cX7_copyFrom 10 = .ok (.getfield 40, 3) := by decide +kernel
theorem dX7_copyFrom_13 : decode cX7_copyFrom 13 = .ok (.putfield 40, 3) := by decide +kernel
theorem dX7_copyFrom_16 : decode cX7_copyFrom 16 = .ok (.aload_n 0, 1) := by decide +kernel
theorem dX7_copyFrom_17 : decode cX7_copyFrom 17 = .ok (.aload_n 1, 1) := by decide +kernel
theorem dX7_copyFrom_18 : decode cX7_copyFrom 18 = .ok (.getfield 43, 3) := by decide +kernel
theorem dX7_copyFrom_21 : decode cX7_copyFrom 21 = .ok (.putfield 43, 3) := by decide +kernel
theorem dX7_copyFrom_24 : decode cX7_copyFrom 24 = .ok (.aload_n 0, 1) := by decide +kernel
theorem dX7_copyFrom_25 : decode cX7_copyFrom 25 = .ok (.aload_n 1, 1) := by decide +kernel
theorem dX7_copyFrom_26 : decode cX7_copyFrom 26 = .ok (.getfield 46, 3) := by decide +kernel
theorem dX7_copyFrom_29 : decode cX7_copyFrom 29 = .ok (.putfield 46, 3) := by decide +kernel
theorem dX7_copyFrom_32 : decode cX7_copyFrom 32 = .ok (.aload_n 1, 1) := by decide +kernel
theorem dX7_copyFrom_33 : decode cX7_copyFrom 33 = .ok (.getfield 9, 3) := by decide +kernel
theorem dX7_copyFrom_36 : decode cX7_copyFrom 36 = .ok (.iconst 0, 1) := by decide +kernel
theorem dX7_copyFrom_37 : decode cX7_copyFrom 37 = .ok (.aload_n 0, 1) := by decide +kernel
theorem dX7_copyFrom_38 : decode cX7_copyFrom 38 = .ok (.getfield 9, 3) := by decide +kernel
theorem dX7_copyFrom_41 : decode cX7_copyFrom 41 = .ok (.iconst 0, 1) := by decide +kernel
theorem dX7_copyFrom_42 : decode cX7_copyFrom 42 = .ok (.bipush 9, 2) := by decide +kernel
theorem dX7_copyFrom_44 : decode cX7_copyFrom 44 = .ok (.invokestatic 49, 3) := by decide +kernel
theorem dX7_copyFrom_47 : decode cX7_copyFrom 47 = .ok (.aload_n 1, 1) := by decide +kernel
theorem dX7_copyFrom_48 : decode cX7_copyFrom 48 = .ok (.getfield 15, 3) := by decide +kernel
theorem dX7_copyFrom_51 : decode cX7_copyFrom 51 = .ok (.iconst 0, 1) := by decide +kernel
theorem dX7_copyFrom_52 : decode cX7_copyFrom 52 = .ok (.aload_n 0, 1) := by decide +kernel
theorem dX7_copyFrom_53 : decode cX7_copyFrom 53 = .ok (.getfield 15, 3) := by decide +kernel
theorem dX7_copyFrom_56 : decode cX7_copyFrom 56 = .ok (.iconst 0, 1) := by decide +kernel
theorem dX7_copyFrom_57 : decode cX7_copyFrom 57 = .ok (.bipush 9, 2) := by decide +kernel
theorem dX7_copyFrom_59 : decode cX7_copyFrom 59 = .ok (.invokestatic 49, 3) := by decide +kernel
theorem dX7_copyFrom_62 : decode cX7_copyFrom 62 = .ok (.aload_n 1, 1) := by decide +kernel
theorem dX7_copyFrom_63 : decode cX7_copyFrom 63 = .ok (.getfield 18, 3) := by decide +kernel
theorem dX7_copyFrom_66 : decode cX7_copyFrom 66 = .ok (.iconst 0, 1) := by decide +kernel
theorem dX7_copyFrom_67 : decode cX7_copyFrom 67 = .ok (.aload_n 0, 1) := by decide +kernel
theorem dX7_copyFrom_68 : decode cX7_copyFrom 68 = .ok (.getfield 18, 3) := by decide +kernel
theorem dX7_copyFrom_71 : decode cX7_copyFrom 71 = .ok (.iconst 0, 1) := by decide +kernel
theorem dX7_copyFrom_72 : decode cX7_copyFrom 72 = .ok (.bipush 9, 2) := by decide +kernel
theorem dX7_copyFrom_74 : decode cX7_copyFrom 74 = .ok (.invokestatic 49, 3) := by decide +kernel
theorem dX7_copyFrom_77 : decode cX7_copyFrom 77 = .ok (.aload_n 1, 1) := by decide +kernel
theorem dX7_copyFrom_78 : decode cX7_copyFrom 78 = .ok (.getfield 21, 3) := by decide +kernel
theorem dX7_copyFrom_81 : decode cX7_copyFrom 81 = .ok (.iconst 0, 1) := by decide +kernel
theorem dX7_copyFrom_82 : decode cX7_copyFrom 82 = .ok (.aload_n 0, 1) := by decide +kernel
theorem dX7_copyFrom_83 : decode cX7_copyFrom 83 = .ok (.getfield 21, 3) := by decide +kernel
theorem dX7_copyFrom_86 : decode cX7_copyFrom 86 = .ok (.iconst 0, 1) := by decide +kernel
theorem dX7_copyFrom_87 : decode cX7_copyFrom 87 = .ok (.bipush 9, 2) := by decide +kernel
theorem dX7_copyFrom_89 : decode cX7_copyFrom 89 = .ok (.invokestatic 49, 3) := by decide +kernel
theorem dX7_copyFrom_92 : decode cX7_copyFrom 92 = .ok (.aload_n 1, 1) := by decide +kernel
theorem dX7_copyFrom_93 : decode cX7_copyFrom 93 = .ok (.getfield 24, 3) := by decide +kernel
theorem dX7_copyFrom_96 : decode cX7_copyFrom 96 = .ok (.iconst 0, 1) := by decide +kernel
theorem dX7_copyFrom_97 : decode cX7_copyFrom 97 = .ok (.aload_n 0, 1) := by decide +kernel
theorem dX7_copyFrom_98 : decode cX7_copyFrom 98 = .ok (.getfield 24, 3) := by decide +kernel
theorem dX7_copyFrom_101 : decode cX7_copyFrom 101 = .ok (.iconst 0, 1) := by decide +kernel
theorem dX7_copyFrom_102 : decode cX7_copyFrom 102 = .ok (.bipush 9, 2) := by decide +kernel
theorem dX7_copyFrom_104 : decode cX7_copyFrom 104 = .ok (.invokestatic 49, 3) := by decide +kernel
theorem dX7_copyFrom_107 : decode cX7_copyFrom 107 = .ok (.aload_n 1, 1) := by decide +kernel
theorem dX7_copyFrom_108 : decode cX7_copyFrom 108 = .ok (.getfield 27, 3) := by decide +kernel
theorem dX7_copyFrom_111 : decode cX7_copyFrom 111 = .ok (.iconst 0, 1) := by decide +kernel
theorem dX7_copyFrom_112 : decode cX7_copyFrom 112 = .ok (.aload_n 0, 1) := by decide +kernel
theorem dX7_copyFrom_113 : decode cX7_copyFrom 113 = .ok (.getfield 27, 3) := by decide +kernel
theorem dX7_copyFrom_116 : decode cX7_copyFrom 116 = .ok (.iconst 0, 1) := by decide +kernel
theorem dX7_copyFrom_117 : decode cX7_copyFrom 117 = .ok (.bipush 9, 2) := by decide +kernel
theorem dX7_copyFrom_119 : decode cX7_copyFrom 119 = .ok (.invokestatic 49, 3) := by decide +kernel
theorem dX7_copyFrom_122 : decode cX7_copyFrom 122 = .ok (.aload_n 1, 1) := by decide +kernel
theorem dX7_copyFrom_123 : decode cX7_copyFrom 123 = .ok (.getfield 30, 3) := by decide +kernel
theorem dX7_copyFrom_126 : decode cX7_copyFrom 126 = .ok (.iconst 0, 1) := by decide +kernel
theorem dX7_copyFrom_127 : decode cX7_copyFrom 127 = .ok (.aload_n 0, 1) := by decide +kernel
theorem dX7_copyFrom_128 : decode cX7_copyFrom 128 = .ok (.getfield 30, 3) := by decide +kernel
theorem dX7_copyFrom_131 : decode cX7_copyFrom 131 = .ok (.iconst 0, 1) := by decide +kernel
theorem dX7_copyFrom_132 : decode cX7_copyFrom 132 = .ok (.bipush 6, 2) := by decide +kernel
theorem dX7_copyFrom_134 : decode cX7_copyFrom 134 = .ok (.invokestatic 49, 3) := by decide +kernel
theorem dX7_copyFrom_137 : decode cX7_copyFrom 137 = .ok (.aload_n 1, 1) := by decide +kernel
theorem dX7_copyFrom_138 : decode cX7_copyFrom 138 = .ok (.getfield 33, 3) := by decide +kernel
theorem dX7_copyFrom_141 : decode cX7_copyFrom 141 = .ok (.iconst 0, 1) := by decide +kernel
theorem dX7_copyFrom_142 : decode cX7_copyFrom 142 = .ok (.aload_n 0, 1) := by decide +kernel
theorem dX7_copyFrom_143 : decode cX7_copyFrom 143 = .ok (.getfield 33, 3) := by decide +kernel
theorem dX7_copyFrom_146 : decode cX7_copyFrom 146 = .ok (.iconst 0, 1) := by decide +kernel
theorem dX7_copyFrom_147 : decode cX7_copyFrom 147 = .ok (.bipush 6, 2) := by decide +kernel
theorem dX7_copyFrom_149 : decode cX7_copyFrom 149 = .ok (.invokestatic 49, 3) := by decide +kernel
theorem dX7_copyFrom_152 : decode cX7_copyFrom 152 = .ok (.return_, 1) := by decide +kernel
theorem dX7_hasPlace_0 : decode cX7_hasPlace 0 = .ok (.iload_n 1, 1) := by decide +kernel
theorem dX7_hasPlace_1 : decode cX7_hasPlace 1 = .ok (.ifCond .lt 15, 3) := by decide +kernel
theorem dX7_hasPlace_4 : decode cX7_hasPlace 4 = .ok (.iload_n 1, 1) := by decide +kernel
theorem dX7_hasPlace_5 : decode cX7_hasPlace 5 = .ok (.aload_n 0, 1) := by decide +kernel
theorem dX7_hasPlace_6 : decode cX7_hasPlace 6 = .ok (.getfield 36, 3) := by decide +kernel
theorem dX7_hasPlace_9 : decode cX7_hasPlace 9 = .ok (.if_icmp .ge 7, 3) := by decide +kernel
theorem dX7_hasPlace_12 : decode cX7_hasPlace 12 = .ok (.iconst 1, 1) := by decide +kernel
theorem dX7_hasPlace_13 : decode cX7_hasPlace 13 = .ok (.goto 4, 3) := by decide +kernel
theorem dX7_hasPlace_16 : decode cX7_hasPlace 16 = .ok (.iconst 0, 1) := by decide +kernel
theorem dX7_hasPlace_17 : decode cX7_hasPlace 17 = .ok (.ireturn, 1) := by decide +kernel
theorem dX7_hasBridge_0 : decode cX7_hasBridge 0 = .ok (.iload_n 1, 1) := by decide +kernel
theorem dX7_hasBridge_1 : decode cX7_hasBridge 1 = .ok (.ifCond .lt 15, 3) := by decide +kernel
theorem dX7_hasBridge_4 : decode cX7_hasBridge 4 = .ok (.iload_n 1, 1) := by decide +kernel
theorem dX7_hasBridge_5 : decode cX7_hasBridge 5 = .ok (.aload_n 0, 1) := by decide +kernel
theorem dX7_hasBridge_6 : decode cX7_hasBridge 6 = .ok (.getfield 40, 3) := by decide +kernel
theorem dX7_hasBridge_9 : decode cX7_hasBridge 9 = .ok (.if_icmp .ge 7, 3) := by decide +kernel
theorem dX7_hasBridge_12 : decode cX7_hasBridge 12 = .ok (.iconst 1, 1) := by decide +kernel
theorem dX7_hasBridge_13 : decode cX7_hasBridge 13 = .ok (.goto 4, 3) := by decide +kernel
theorem dX7_hasBridge_16 : decode cX7_hasBridge 16 = .ok (.iconst 0, 1) := by decide +kernel
theorem dX7_hasBridge_17 : decode cX7_hasBridge 17 = .ok (.ireturn, 1) := by decide +kernel
theorem dX7_hasKeeper_0 : decode cX7_hasKeeper 0 = .ok (.iload_n 1, 1) := by decide +kernel
theorem dX7_hasKeeper_1 : decode cX7_hasKeeper 1 = .ok (.ifCond .lt 15, 3) := by decide +kernel
theorem dX7_hasKeeper_4 : decode cX7_hasKeeper 4 = .ok (.iload_n 1, 1) := by decide +kernel
theorem dX7_hasKeeper_5 : decode cX7_hasKeeper 5 = .ok (.aload_n 0, 1) := by decide +kernel
theorem dX7_hasKeeper_6 : decode cX7_hasKeeper 6 = .ok (.getfield 43, 3) := by decide +kernel
theorem dX7_hasKeeper_9 : decode cX7_hasKeeper 9 = .ok (.if_icmp .ge 7, 3) := by decide +kernel
theorem dX7_hasKeeper_12 : decode cX7_hasKeeper 12 = .ok (.iconst 1, 1) := by decide +kernel
theorem dX7_hasKeeper_13 : decode cX7_hasKeeper 13 = .ok (.goto 4, 3) := by decide +kernel
theorem dX7_hasKeeper_16 : decode cX7_hasKeeper 16 = .ok (.iconst 0, 1) := by decide +kernel
theorem dX7_hasKeeper_17 : decode cX7_hasKeeper 17 = .ok (.ireturn, 1) := by decide +kernel
theorem dX7_hasJumper_0 : decode cX7_hasJumper 0 = .ok (.iload_n 1, 1) := by decide +kernel
theorem dX7_hasJumper_1 : decode cX7_hasJumper 1 = .ok (.ifCond .lt 15, 3) := by decide +kernel
theorem dX7_hasJumper_4 : decode cX7_hasJumper 4 = .ok (.iload_n 1, 1) := by decide +kernel
theorem dX7_hasJumper_5 : decode cX7_hasJumper 5 = .ok (.aload_n 0, 1) := by decide +kernel
theorem dX7_hasJumper_6 : decode cX7_hasJumper 6 = .ok (.getfield 46, 3) := by decide +kernel
theorem dX7_hasJumper_9 : decode cX7_hasJumper 9 = .ok (.if_icmp .ge 7, 3) := by decide +kernel
theorem dX7_hasJumper_12 : decode cX7_hasJumper 12 = .ok (.iconst 1, 1) := by decide +kernel
theorem dX7_hasJumper_13 : decode cX7_hasJumper 13 = .ok (.goto 4, 3) := by decide +kernel
theorem dX7_hasJumper_16 : decode cX7_hasJumper 16 = .ok (.iconst 0, 1) := by decide +kernel
theorem dX7_hasJumper_17 : decode cX7_hasJumper 17 = .ok (.ireturn, 1) := by decide +kernel
theorem dX7_touches_0 : decode cX7_touches 0 = .ok (.aload_n 0, 1) := by decide +kernel
theorem dX7_touches_1 : decode cX7_touches 1 = .ok (.getfield 9, 3) := by decide +kernel
theorem dX7_touches_4 : decode cX7_touches 4 = .ok (.iload_n 1, 1) := by decide +kernel
theorem dX7_touches_5 : decode cX7_touches 5 = .ok (.iaload, 1) := by decide +kernel
theorem dX7_touches_6 : decode cX7_touches 6 = .ok (.iload_n 2, 1) := by decide +kernel
theorem dX7_touches_7 : decode cX7_touches 7 = .ok (.if_icmp .eq 13, 3) := by decide +kernel
theorem dX7_touches_10 : decode cX7_touches 10 = .ok (.aload_n 0, 1) := by decide +kernel
theorem dX7_touches_11 : decode cX7_touches 11 = .ok (.getfield 15, 3) := by decide +kernel
theorem dX7_touches_14 : decode cX7_touches 14 = .ok (.iload_n 1, 1) := by decide +kernel
theorem dX7_touches_15 : decode cX7_touches 15 = .ok (.iaload, 1) := by decide +kernel
theorem dX7_touches_16 : decode cX7_touches 16 = .ok (.iload_n 2, 1) := by decide +kernel
theorem dX7_touches_17 : decode cX7_touches 17 = .ok (.if_icmp .ne 7, 3) := by decide +kernel
theorem dX7_touches_20 : decode cX7_touches 20 = .ok (.iconst 1, 1) := by decide +kernel
theorem dX7_touches_21 : decode cX7_touches 21 = .ok (.goto 4, 3) := by decide +kernel
theorem dX7_touches_24 : decode cX7_touches 24 = .ok (.iconst 0, 1) := by decide +kernel
theorem dX7_touches_25 : decode cX7_touches 25 = .ok (.ireturn, 1) := by decide +kernel
theorem dX7_beyond_0 : decode cX7_beyond 0 = .ok (.aload_n 0, 1) := by decide +kernel
theorem dX7_beyond_1 : decode cX7_beyond 1 = .ok (.getfield 9, 3) := by decide +kernel
theorem dX7_beyond_4 : decode cX7_beyond 4 = .ok (.iload_n 1, 1) := by decide +kernel
theorem dX7_beyond_5 : decode cX7_beyond 5 = .ok (.iaload, 1) := by decide +kernel
theorem dX7_beyond_6 : decode cX7_beyond 6 = .ok (.iload_n 2, 1) := by decide +kernel
theorem dX7_beyond_7 : decode cX7_beyond 7 = .ok (.if_icmp .ne 12, 3) := by decide +kernel
theorem dX7_beyond_10 : decode cX7_beyond 10 = .ok (.aload_n 0, 1) := by decide +kernel
theorem dX7_beyond_11 : decode cX7_beyond 11 = .ok (.getfield 15, 3) := by decide +kernel
theorem dX7_beyond_14 : decode cX7_beyond 14 = .ok (.iload_n 1, 1) := by decide +kernel
theorem dX7_beyond_15 : decode cX7_beyond 15 = .ok (.iaload, 1) := by decide +kernel
theorem dX7_beyond_16 : decode cX7_beyond 16 = .ok (.goto 9, 3) := by decide +kernel
theorem dX7_beyond_19 : decode cX7_beyond 19 = .ok (.aload_n 0, 1) := by decide +kernel
theorem dX7_beyond_20 : decode cX7_beyond 20 = .ok (.getfield 9, 3) := by decide +kernel
theorem dX7_beyond_23 : decode cX7_beyond 23 = .ok (.iload_n 1, 1) := by decide +kernel
theorem dX7_beyond_24 : decode cX7_beyond 24 = .ok (.iaload, 1) := by decide +kernel
theorem dX7_beyond_25 : decode cX7_beyond 25 = .ok (.ireturn, 1) := by decide +kernel
theorem dX7_joined_0 : decode cX7_joined 0 = .ok (.iconst 0, 1) := by decide +kernel
theorem dX7_joined_1 : decode cX7_joined 1 = .ok (.istore_n 3, 1) := by decide +kernel
theorem dX7_joined_2 : decode cX7_joined 2 = .ok (.iload_n 3, 1) := by decide +kernel
theorem dX7_joined_3 : decode cX7_joined 3 = .ok (.aload_n 0, 1) := by decide +kernel
theorem dX7_joined_4 : decode cX7_joined 4 = .ok (.getfield 40, 3) := by decide +kernel
theorem dX7_joined_7 : decode cX7_joined 7 = .ok (.if_icmp .ge 30, 3) := by decide +kernel
theorem dX7_joined_10 : decode cX7_joined 10 = .ok (.aload_n 0, 1) := by decide +kernel
theorem dX7_joined_11 : decode cX7_joined 11 = .ok (.iload_n 3, 1) := by decide +kernel
theorem dX7_joined_12 : decode cX7_joined 12 = .ok (.iload_n 1, 1) := by decide +kernel
theorem dX7_joined_13 : decode cX7_joined 13 = .ok (.invokevirtual 55, 3) := by decide +kernel
theorem dX7_joined_16 : decode cX7_joined 16 = .ok (.ifCond .eq 15, 3) := by decide +kernel
theorem dX7_joined_19 : decode cX7_joined 19 = .ok (.aload_n 0, 1) := by decide +kernel
theorem dX7_joined_20 : decode cX7_joined 20 = .ok (.iload_n 3, 1) := by decide +kernel
theorem dX7_joined_21 : decode cX7_joined 21 = .ok (.iload_n 1, 1) := by decide +kernel
theorem dX7_joined_22 : decode cX7_joined 22 = .ok (.invokevirtual 59, 3) := by decide +kernel
theorem dX7_joined_25 : decode cX7_joined 25 = .ok (.iload_n 2, 1) := by decide +kernel
theorem dX7_joined_26 : decode cX7_joined 26 = .ok (.if_icmp .ne 5, 3) := by decide +kernel
theorem dX7_joined_29 : decode cX7_joined 29 = .ok (.iconst 1, 1) := by decide +kernel
theorem dX7_joined_30 : decode cX7_joined 30 = .ok (.ireturn, 1) := by decide +kernel
theorem dX7_joined_31 : decode cX7_joined 31 = .ok (.iinc 3 1, 3) := by decide +kernel
theorem dX7_joined_34 : decode cX7_joined 34 = .ok (.goto (-32), 3) := by decide +kernel
theorem dX7_joined_37 : decode cX7_joined 37 = .ok (.iconst 0, 1) := by decide +kernel
theorem dX7_joined_38 : decode cX7_joined 38 = .ok (.ireturn, 1) := by decide +kernel
theorem dX7_allBridges_0 : decode cX7_allBridges 0 = .ok (.iconst 1, 1) := by decide +kernel
theorem dX7_allBridges_1 : decode cX7_allBridges 1 = .ok (.aload_n 0, 1) := by decide +kernel
theorem dX7_allBridges_2 : decode cX7_allBridges 2 = .ok (.getfield 40, 3) := by decide +kernel
theorem dX7_allBridges_5 : decode cX7_allBridges 5 = .ok (.ishl, 1) := by decide +kernel
theorem dX7_allBridges_6 : decode cX7_allBridges 6 = .ok (.iconst 1, 1) := by decide +kernel
theorem dX7_allBridges_7 : decode cX7_allBridges 7 = .ok (.isub, 1) := by decide +kernel
theorem dX7_allBridges_8 : decode cX7_allBridges 8 = .ok (.ireturn, 1) := by decide +kernel
theorem dX7_addBridge_0 : decode cX7_addBridge 0 = .ok (.aload_n 0, 1) := by decide +kernel
theorem dX7_addBridge_1 : decode cX7_addBridge 1 = .ok (.getfield 9, 3) := by decide +kernel
theorem dX7_addBridge_4 : decode cX7_addBridge 4 = .ok (.aload_n 0, 1) := by decide +kernel
theorem dX7_addBridge_5 : decode cX7_addBridge 5 = .ok (.getfield 40, 3) := by decide +kernel
theorem dX7_addBridge_8 : decode cX7_addBridge 8 = .ok (.iload_n 1, 1) := by decide +kernel
theorem dX7_addBridge_9 : decode cX7_addBridge 9 = .ok (.iastore, 1) := by decide +kernel
theorem dX7_addBridge_10 : decode cX7_addBridge 10 = .ok (.aload_n 0, 1) := by decide +kernel
theorem dX7_addBridge_11 : decode cX7_addBridge 11 = .ok (.getfield 15, 3) := by decide +kernel
theorem dX7_addBridge_14 : decode cX7_addBridge 14 = .ok (.aload_n 0, 1) := by decide +kernel
theorem dX7_addBridge_15 : decode cX7_addBridge 15 = .ok (.getfield 40, 3) := by decide +kernel
theorem dX7_addBridge_18 : decode cX7_addBridge 18 = .ok (.iload_n 2, 1) := by decide +kernel
theorem dX7_addBridge_19 : decode cX7_addBridge 19 = .ok (.iastore, 1) := by decide +kernel
theorem dX7_addBridge_20 : decode cX7_addBridge 20 = .ok (.aload_n 0, 1) := by decide +kernel
theorem dX7_addBridge_21 : decode cX7_addBridge 21 = .ok (.getfield 18, 3) := by decide +kernel
theorem dX7_addBridge_24 : decode cX7_addBridge 24 = .ok (.aload_n 0, 1) := by decide +kernel
theorem dX7_addBridge_25 : decode cX7_addBridge 25 = .ok (.getfield 40, 3) := by decide +kernel
theorem dX7_addBridge_28 : decode cX7_addBridge 28 = .ok (.iload_n 3, 1) := by decide +kernel
theorem dX7_addBridge_29 : decode cX7_addBridge 29 = .ok (.iastore, 1) := by decide +kernel
theorem dX7_addBridge_30 : decode cX7_addBridge 30 = .ok (.aload_n 0, 1) := by decide +kernel
theorem dX7_addBridge_31 : decode cX7_addBridge 31 = .ok (.getfield 21, 3) := by decide +kernel
theorem dX7_addBridge_34 : decode cX7_addBridge 34 = .ok (.aload_n 0, 1) := by decide +kernel
theorem dX7_addBridge_35 : decode cX7_addBridge 35 = .ok (.getfield 40, 3) := by decide +kernel
theorem dX7_addBridge_38 : decode cX7_addBridge 38 = .ok (.iload 4, 2) := by decide +kernel
theorem dX7_addBridge_40 : decode cX7_addBridge 40 = .ok (.iastore, 1) := by decide +kernel
theorem dX7_addBridge_41 : decode cX7_addBridge 41 = .ok (.aload_n 0, 1) := by decide +kernel
theorem dX7_addBridge_42 : decode cX7_addBridge 42 = .ok (.dup, 1) := by decide +kernel
theorem dX7_addBridge_43 : decode cX7_addBridge 43 = .ok (.getfield 40, 3) := by decide +kernel
theorem dX7_addBridge_46 : decode cX7_addBridge 46 = .ok (.iconst 1, 1) := by decide +kernel
theorem dX7_addBridge_47 : decode cX7_addBridge 47 = .ok (.iadd, 1) := by decide +kernel
theorem dX7_addBridge_48 : decode cX7_addBridge 48 = .ok (.putfield 40, 3) := by decide +kernel
theorem dX7_addBridge_51 : decode cX7_addBridge 51 = .ok (.return_, 1) := by decide +kernel
theorem dX7_addKeeper_0 : decode cX7_addKeeper 0 = .ok (.aload_n 0, 1) := by decide +kernel
theorem dX7_addKeeper_1 : decode cX7_addKeeper 1 = .ok (.getfield 24, 3) := by decide +kernel
theorem dX7_addKeeper_4 : decode cX7_addKeeper 4 = .ok (.aload_n 0, 1) := by decide +kernel
theorem dX7_addKeeper_5 : decode cX7_addKeeper 5 = .ok (.getfield 43, 3) := by decide +kernel
theorem dX7_addKeeper_8 : decode cX7_addKeeper 8 = .ok (.iload_n 1, 1) := by decide +kernel
theorem dX7_addKeeper_9 : decode cX7_addKeeper 9 = .ok (.iastore, 1) := by decide +kernel
theorem dX7_addKeeper_10 : decode cX7_addKeeper 10 = .ok (.aload_n 0, 1) := by decide +kernel
theorem dX7_addKeeper_11 : decode cX7_addKeeper 11 = .ok (.getfield 27, 3) := by decide +kernel
theorem dX7_addKeeper_14 : decode cX7_addKeeper 14 = .ok (.aload_n 0, 1) := by decide +kernel
theorem dX7_addKeeper_15 : decode cX7_addKeeper 15 = .ok (.getfield 43, 3) := by decide +kernel
theorem dX7_addKeeper_18 : decode cX7_addKeeper 18 = .ok (.iload_n 2, 1) := by decide +kernel
theorem dX7_addKeeper_19 : decode cX7_addKeeper 19 = .ok (.iastore, 1) := by decide +kernel
theorem dX7_addKeeper_20 : decode cX7_addKeeper 20 = .ok (.aload_n 0, 1) := by decide +kernel
theorem dX7_addKeeper_21 : decode cX7_addKeeper 21 = .ok (.dup, 1) := by decide +kernel
theorem dX7_addKeeper_22 : decode cX7_addKeeper 22 = .ok (.getfield 43, 3) := by decide +kernel
theorem dX7_addKeeper_25 : decode cX7_addKeeper 25 = .ok (.iconst 1, 1) := by decide +kernel
theorem dX7_addKeeper_26 : decode cX7_addKeeper 26 = .ok (.iadd, 1) := by decide +kernel
theorem dX7_addKeeper_27 : decode cX7_addKeeper 27 = .ok (.putfield 43, 3) := by decide +kernel
theorem dX7_addKeeper_30 : decode cX7_addKeeper 30 = .ok (.return_, 1) := by decide +kernel
theorem dX7_addJumper_0 : decode cX7_addJumper 0 = .ok (.aload_n 0, 1) := by decide +kernel
theorem dX7_addJumper_1 : decode cX7_addJumper 1 = .ok (.getfield 30, 3) := by decide +kernel
theorem dX7_addJumper_4 : decode cX7_addJumper 4 = .ok (.aload_n 0, 1) := by decide +kernel
theorem dX7_addJumper_5 : decode cX7_addJumper 5 = .ok (.getfield 46, 3) := by decide +kernel
theorem dX7_addJumper_8 : decode cX7_addJumper 8 = .ok (.iload_n 1, 1) := by decide +kernel
theorem dX7_addJumper_9 : decode cX7_addJumper 9 = .ok (.iastore, 1) := by decide +kernel
theorem dX7_addJumper_10 : decode cX7_addJumper 10 = .ok (.aload_n 0, 1) := by decide +kernel
theorem dX7_addJumper_11 : decode cX7_addJumper 11 = .ok (.getfield 33, 3) := by decide +kernel
theorem dX7_addJumper_14 : decode cX7_addJumper 14 = .ok (.aload_n 0, 1) := by decide +kernel
theorem dX7_addJumper_15 : decode cX7_addJumper 15 = .ok (.getfield 46, 3) := by decide +kernel
theorem dX7_addJumper_18 : decode cX7_addJumper 18 = .ok (.iload_n 2, 1) := by decide +kernel
theorem dX7_addJumper_19 : decode cX7_addJumper 19 = .ok (.iastore, 1) := by decide +kernel
theorem dX7_addJumper_20 : decode cX7_addJumper 20 = .ok (.aload_n 0, 1) := by decide +kernel
theorem dX7_addJumper_21 : decode cX7_addJumper 21 = .ok (.dup, 1) := by decide +kernel
theorem dX7_addJumper_22 : decode cX7_addJumper 22 = .ok (.getfield 46, 3) := by decide +kernel
theorem dX7_addJumper_25 : decode cX7_addJumper 25 = .ok (.iconst 1, 1) := by decide +kernel
theorem dX7_addJumper_26 : decode cX7_addJumper 26 = .ok (.iadd, 1) := by decide +kernel
theorem dX7_addJumper_27 : decode cX7_addJumper 27 = .ok (.putfield 46, 3) := by decide +kernel
theorem dX7_addJumper_30 : decode cX7_addJumper 30 = .ok (.return_, 1) := by decide +kernel
theorem dJ6_bitCount_0f7a4_0 : decode cJ6_bitCount_0f7a4 0 = .ok (.iload_n 0, 1) := by decide +kernel
theorem dJ6_bitCount_0f7a4_1 : decode cJ6_bitCount_0f7a4 1 = .ok (.iload_n 0, 1) := by decide +kernel
theorem dJ6_bitCount_0f7a4_2 : decode cJ6_bitCount_0f7a4 2 = .ok (.iconst 1, 1) := by decide +kernel
theorem dJ6_bitCount_0f7a4_3 : decode cJ6_bitCount_0f7a4 3 = .ok (.iushr, 1) := by decide +kernel
theorem dJ6_bitCount_0f7a4_4 : decode cJ6_bitCount_0f7a4 4 = .ok (.ldc_w 265, 3) := by decide +kernel
theorem dJ6_bitCount_0f7a4_7 : decode cJ6_bitCount_0f7a4 7 = .ok (.iand, 1) := by decide +kernel
theorem dJ6_bitCount_0f7a4_8 : decode cJ6_bitCount_0f7a4 8 = .ok (.isub, 1) := by decide +kernel
theorem dJ6_bitCount_0f7a4_9 : decode cJ6_bitCount_0f7a4 9 = .ok (.istore_n 0, 1) := by decide +kernel
theorem dJ6_bitCount_0f7a4_10 : decode cJ6_bitCount_0f7a4 10 = .ok (.iload_n 0, 1) := by decide +kernel
theorem dJ6_bitCount_0f7a4_11 : decode cJ6_bitCount_0f7a4 11 = .ok (.ldc_w 266, 3) := by decide +kernel
theorem dJ6_bitCount_0f7a4_14 : decode cJ6_bitCount_0f7a4 14 = .ok (.iand, 1) := by decide +kernel
theorem dJ6_bitCount_0f7a4_15 : decode cJ6_bitCount_0f7a4 15 = .ok (.iload_n 0, 1) := by decide +kernel
theorem dJ6_bitCount_0f7a4_16 : decode cJ6_bitCount_0f7a4 16 = .ok (.iconst 2, 1) := by decide +kernel
theorem dJ6_bitCount_0f7a4_17 : decode cJ6_bitCount_0f7a4 17 = .ok (.iushr, 1) := by decide +kernel
theorem dJ6_bitCount_0f7a4_18 : decode cJ6_bitCount_0f7a4 18 = .ok (.ldc_w 266, 3) := by decide +kernel
theorem dJ6_bitCount_0f7a4_21 : decode cJ6_bitCount_0f7a4 21 = .ok (.iand, 1) := by decide +kernel
theorem dJ6_bitCount_0f7a4_22 : decode cJ6_bitCount_0f7a4 22 = .ok (.iadd, 1) := by decide +kernel
theorem dJ6_bitCount_0f7a4_23 : decode cJ6_bitCount_0f7a4 23 = .ok (.istore_n 0, 1) := by decide +kernel
theorem dJ6_bitCount_0f7a4_24 : decode cJ6_bitCount_0f7a4 24 = .ok (.iload_n 0, 1) := by decide +kernel
theorem dJ6_bitCount_0f7a4_25 : decode cJ6_bitCount_0f7a4 25 = .ok (.iload_n 0, 1) := by decide +kernel
theorem dJ6_bitCount_0f7a4_26 : decode cJ6_bitCount_0f7a4 26 = .ok (.iconst 4, 1) := by decide +kernel
theorem dJ6_bitCount_0f7a4_27 : decode cJ6_bitCount_0f7a4 27 = .ok (.iushr, 1) := by decide +kernel
theorem dJ6_bitCount_0f7a4_28 : decode cJ6_bitCount_0f7a4 28 = .ok (.iadd, 1) := by decide +kernel
theorem dJ6_bitCount_0f7a4_29 : decode cJ6_bitCount_0f7a4 29 = .ok (.ldc_w 267, 3) := by decide +kernel
theorem dJ6_bitCount_0f7a4_32 : decode cJ6_bitCount_0f7a4 32 = .ok (.iand, 1) := by decide +kernel
theorem dJ6_bitCount_0f7a4_33 : decode cJ6_bitCount_0f7a4 33 = .ok (.istore_n 0, 1) := by decide +kernel
theorem dJ6_bitCount_0f7a4_34 : decode cJ6_bitCount_0f7a4 34 = .ok (.iload_n 0, 1) := by decide +kernel
theorem dJ6_bitCount_0f7a4_35 : decode cJ6_bitCount_0f7a4 35 = .ok (.iload_n 0, 1) := by decide +kernel
theorem dJ6_bitCount_0f7a4_36 : decode cJ6_bitCount_0f7a4 36 = .ok (.bipush 8, 2) := by decide +kernel
theorem dJ6_bitCount_0f7a4_38 : decode cJ6_bitCount_0f7a4 38 = .ok (.iushr, 1) := by decide +kernel
theorem dJ6_bitCount_0f7a4_39 : decode cJ6_bitCount_0f7a4 39 = .ok (.iadd, 1) := by decide +kernel
theorem dJ6_bitCount_0f7a4_40 : decode cJ6_bitCount_0f7a4 40 = .ok (.istore_n 0, 1) := by decide +kernel
theorem dJ6_bitCount_0f7a4_41 : decode cJ6_bitCount_0f7a4 41 = .ok (.iload_n 0, 1) := by decide +kernel
theorem dJ6_bitCount_0f7a4_42 : decode cJ6_bitCount_0f7a4 42 = .ok (.iload_n 0, 1) := by decide +kernel
theorem dJ6_bitCount_0f7a4_43 : decode cJ6_bitCount_0f7a4 43 = .ok (.bipush 16, 2) := by decide +kernel
theorem dJ6_bitCount_0f7a4_45 : decode cJ6_bitCount_0f7a4 45 = .ok (.iushr, 1) := by decide +kernel
theorem dJ6_bitCount_0f7a4_46 : decode cJ6_bitCount_0f7a4 46 = .ok (.iadd, 1) := by decide +kernel
theorem dJ6_bitCount_0f7a4_47 : decode cJ6_bitCount_0f7a4 47 = .ok (.istore_n 0, 1) := by decide +kernel
theorem dJ6_bitCount_0f7a4_48 : decode cJ6_bitCount_0f7a4 48 = .ok (.iload_n 0, 1) := by decide +kernel
theorem dJ6_bitCount_0f7a4_49 : decode cJ6_bitCount_0f7a4 49 = .ok (.bipush 63, 2) := by decide +kernel
theorem dJ6_bitCount_0f7a4_51 : decode cJ6_bitCount_0f7a4 51 = .ok (.iand, 1) := by decide +kernel
theorem dJ6_bitCount_0f7a4_52 : decode cJ6_bitCount_0f7a4 52 = .ok (.ireturn, 1) := by decide +kernel
theorem dJ9_max_7cf53_0 : decode cJ9_max_7cf53 0 = .ok (.iload_n 0, 1) := by decide +kernel
theorem dJ9_max_7cf53_1 : decode cJ9_max_7cf53 1 = .ok (.iload_n 1, 1) := by decide +kernel
theorem dJ9_max_7cf53_2 : decode cJ9_max_7cf53 2 = .ok (.if_icmp .lt 7, 3) := by decide +kernel
theorem dJ9_max_7cf53_5 : decode cJ9_max_7cf53 5 = .ok (.iload_n 0, 1) := by decide +kernel
theorem dJ9_max_7cf53_6 : decode cJ9_max_7cf53 6 = .ok (.goto 4, 3) := by decide +kernel
theorem dJ9_max_7cf53_9 : decode cJ9_max_7cf53 9 = .ok (.iload_n 1, 1) := by decide +kernel
theorem dJ9_max_7cf53_10 : decode cJ9_max_7cf53 10 = .ok (.ireturn, 1) := by decide +kernel
theorem dJ9_min_7cf53_0 : decode cJ9_min_7cf53 0 = .ok (.iload_n 0, 1) := by decide +kernel
theorem dJ9_min_7cf53_1 : decode cJ9_min_7cf53 1 = .ok (.iload_n 1, 1) := by decide +kernel
theorem dJ9_min_7cf53_2 : decode cJ9_min_7cf53 2 = .ok (.if_icmp .gt 7, 3) := by decide +kernel
theorem dJ9_min_7cf53_5 : decode cJ9_min_7cf53 5 = .ok (.iload_n 0, 1) := by decide +kernel
theorem dJ9_min_7cf53_6 : decode cJ9_min_7cf53 6 = .ok (.goto 4, 3) := by decide +kernel
theorem dJ9_min_7cf53_9 : decode cJ9_min_7cf53 9 = .ok (.iload_n 1, 1) := by decide +kernel
theorem dJ9_min_7cf53_10 : decode cJ9_min_7cf53 10 = .ok (.ireturn, 1) := by decide +kernel
