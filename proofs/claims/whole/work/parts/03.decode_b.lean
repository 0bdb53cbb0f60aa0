theorem dX8_init_0 : decode cX8_init 0 = .ok (.aload_n 0, 1) := by decide +kernel
theorem dX8_init_1 : decode cX8_init 1 = .ok (.invokespecial 3, 3) := by decide +kernel
theorem dX8_init_4 : decode cX8_init 4 = .ok (.aload_n 0, 1) := by decide +kernel
theorem dX8_init_5 : decode cX8_init 5 = .ok (.new 9, 3) := by decide +kernel
theorem dX8_init_8 : decode cX8_init 8 = .ok (.dup, 1) := by decide +kernel
theorem dX8_init_9 : decode cX8_init 9 = .ok (.invokespecial 11, 3) := by decide +kernel
theorem dX8_init_12 : decode cX8_init 12 = .ok (.putfield 12, 3) := by decide +kernel
theorem dX8_init_15 : decode cX8_init 15 = .ok (.aload_n 0, 1) := by decide +kernel
theorem dX8_init_16 : decode cX8_init 16 = .ok (.iconst (-1), 1) := by decide +kernel
theorem dX8_init_17 : decode cX8_init 17 = .ok (.putfield 18, 3) := by decide +kernel
theorem dX8_init_20 : decode cX8_init 20 = .ok (.aload_n 0, 1) := by decide +kernel
theorem dX8_init_21 : decode cX8_init 21 = .ok (.sipush 240, 3) := by decide +kernel
theorem dX8_init_24 : decode cX8_init 24 = .ok (.newarray .int, 2) := by decide +kernel
theorem dX8_init_26 : decode cX8_init 26 = .ok (.putfield 22, 3) := by decide +kernel
theorem dX8_init_29 : decode cX8_init 29 = .ok (.return_, 1) := by decide +kernel
theorem dX8_add_0 : decode cX8_add 0 = .ok (.aload_n 0, 1) := by decide +kernel
theorem dX8_add_1 : decode cX8_add 1 = .ok (.getfield 22, 3) := by decide +kernel
theorem dX8_add_4 : decode cX8_add 4 = .ok (.aload_n 0, 1) := by decide +kernel
theorem dX8_add_5 : decode cX8_add 5 = .ok (.getfield 26, 3) := by decide +kernel
theorem dX8_add_8 : decode cX8_add 8 = .ok (.iload_n 1, 1) := by decide +kernel
theorem dX8_add_9 : decode cX8_add 9 = .ok (.iastore, 1) := by decide +kernel
theorem dX8_add_10 : decode cX8_add 10 = .ok (.aload_n 0, 1) := by decide +kernel
theorem dX8_add_11 : decode cX8_add 11 = .ok (.dup, 1) := by decide +kernel
theorem dX8_add_12 : decode cX8_add 12 = .ok (.getfield 26, 3) := by decide +kernel
theorem dX8_add_15 : decode cX8_add 15 = .ok (.iconst 1, 1) := by decide +kernel
theorem dX8_add_16 : decode cX8_add 16 = .ok (.iadd, 1) := by decide +kernel
theorem dX8_add_17 : decode cX8_add 17 = .ok (.putfield 26, 3) := by decide +kernel
theorem dX8_add_20 : decode cX8_add 20 = .ok (.return_, 1) := by decide +kernel
theorem dX8_readTown_0 : decode cX8_readTown 0 = .ok (.aload_n 0, 1) := by decide +kernel
theorem dX8_readTown_1 : decode cX8_readTown 1 = .ok (.getfield 12, 3) := by decide +kernel
theorem dX8_readTown_4 : decode cX8_readTown 4 = .ok (.invokevirtual 29, 3) := by decide +kernel
theorem dX8_readTown_7 : decode cX8_readTown 7 = .ok (.aload_n 0, 1) := by decide +kernel
theorem dX8_readTown_8 : decode cX8_readTown 8 = .ok (.iconst 0, 1) := by decide +kernel
theorem dX8_readTown_9 : decode cX8_readTown 9 = .ok (.putfield 32, 3) := by decide +kernel
theorem dX8_readTown_12 : decode cX8_readTown 12 = .ok (.aload_n 0, 1) := by decide +kernel
theorem dX8_readTown_13 : decode cX8_readTown 13 = .ok (.iconst (-1), 1) := by decide +kernel
theorem dX8_readTown_14 : decode cX8_readTown 14 = .ok (.putfield 18, 3) := by decide +kernel
theorem dX8_readTown_17 : decode cX8_readTown 17 = .ok (.aload_n 0, 1) := by decide +kernel
theorem dX8_readTown_18 : decode cX8_readTown 18 = .ok (.iconst 0, 1) := by decide +kernel
theorem dX8_readTown_19 : decode cX8_readTown 19 = .ok (.putfield 35, 3) := by decide +kernel
theorem dX8_readTown_22 : decode cX8_readTown 22 = .ok (.aload_n 0, 1) := by decide +kernel
theorem dX8_readTown_23 : decode cX8_readTown 23 = .ok (.invokevirtual 38, 3) := by decide +kernel
theorem dX8_readTown_26 : decode cX8_readTown 26 = .ok (.iconst 0, 1) := by decide +kernel
theorem dX8_readTown_27 : decode cX8_readTown 27 = .ok (.istore_n 1, 1) := by decide +kernel
theorem dX8_readTown_28 : decode cX8_readTown 28 = .ok (.iload_n 1, 1) := by decide +kernel
theorem dX8_readTown_29 : decode cX8_readTown 29 = .ok (.sipush 240, 3) := by decide +kernel
theorem dX8_readTown_32 : decode cX8_readTown 32 = .ok (.if_icmp .ge 35, 3) := by decide +kernel
theorem dX8_readTown_35 : decode cX8_readTown 35 = .ok (.aload_n 0, 1) := by decide +kernel
theorem dX8_readTown_36 : decode cX8_readTown 36 = .ok (.getfield 35, 3) := by decide +kernel
theorem dX8_readTown_39 : decode cX8_readTown 39 = .ok (.aload_n 0, 1) := by decide +kernel
theorem dX8_readTown_40 : decode cX8_readTown 40 = .ok (.getfield 26, 3) := by decide +kernel
theorem dX8_readTown_43 : decode cX8_readTown 43 = .ok (.if_icmp .ge 24, 3) := by decide +kernel
theorem dX8_readTown_46 : decode cX8_readTown 46 = .ok (.aload_n 0, 1) := by decide +kernel
theorem dX8_readTown_47 : decode cX8_readTown 47 = .ok (.getfield 32, 3) := by decide +kernel
theorem dX8_readTown_50 : decode cX8_readTown 50 = .ok (.ifCond .ne 17, 3) := by decide +kernel
theorem dX8_readTown_53 : decode cX8_readTown 53 = .ok (.aload_n 0, 1) := by decide +kernel
theorem dX8_readTown_54 : decode cX8_readTown 54 = .ok (.invokevirtual 41, 3) := by decide +kernel
theorem dX8_readTown_57 : decode cX8_readTown 57 = .ok (.aload_n 0, 1) := by decide +kernel
theorem dX8_readTown_58 : decode cX8_readTown 58 = .ok (.invokevirtual 38, 3) := by decide +kernel
theorem dX8_readTown_61 : decode cX8_readTown 61 = .ok (.iinc 1 1, 3) := by decide +kernel
theorem dX8_readTown_64 : decode cX8_readTown 64 = .ok (.goto (-36), 3) := by decide +kernel
theorem dX8_readTown_67 : decode cX8_readTown 67 = .ok (.return_, 1) := by decide +kernel
theorem dX8_readClause_0 : decode cX8_readClause 0 = .ok (.aload_n 0, 1) := by decide +kernel
theorem dX8_readClause_1 : decode cX8_readClause 1 = .ok (.getfield 22, 3) := by decide +kernel
theorem dX8_readClause_4 : decode cX8_readClause 4 = .ok (.aload_n 0, 1) := by decide +kernel
theorem dX8_readClause_5 : decode cX8_readClause 5 = .ok (.getfield 35, 3) := by decide +kernel
theorem dX8_readClause_8 : decode cX8_readClause 8 = .ok (.iaload, 1) := by decide +kernel
theorem dX8_readClause_9 : decode cX8_readClause 9 = .ok (.istore_n 1, 1) := by decide +kernel
theorem dX8_readClause_10 : decode cX8_readClause 10 = .ok (.aload_n 0, 1) := by decide +kernel
theorem dX8_readClause_11 : decode cX8_readClause 11 = .ok (.iload_n 1, 1) := by decide +kernel
theorem dX8_readClause_12 : decode cX8_readClause 12 = .ok (.invokevirtual 44, 3) := by decide +kernel
theorem dX8_readClause_15 : decode cX8_readClause 15 = .ok (.ifCond .ne 13, 3) := by decide +kernel
theorem dX8_readClause_18 : decode cX8_readClause 18 = .ok (.aload_n 0, 1) := by decide +kernel
theorem dX8_readClause_19 : decode cX8_readClause 19 = .ok (.iconst 1, 1) := by decide +kernel
theorem dX8_readClause_20 : decode cX8_readClause 20 = .ok (.aload_n 0, 1) := by decide +kernel
theorem dX8_readClause_21 : decode cX8_readClause 21 = .ok (.getfield 35, 3) := by decide +kernel
theorem dX8_readClause_24 : decode cX8_readClause 24 = .ok (.invokevirtual 48, 3) := by decide +kernel
theorem dX8_readClause_27 : decode cX8_readClause 27 = .ok (.return_, 1) := by decide +kernel
theorem dX8_readClause_28 : decode cX8_readClause 28 = .ok (.aload_n 0, 1) := by decide +kernel
theorem dX8_readClause_29 : decode cX8_readClause 29 = .ok (.iload_n 1, 1) := by decide +kernel
theorem dX8_readClause_30 : decode cX8_readClause 30 = .ok (.invokevirtual 52, 3) := by decide +kernel
theorem dX8_readClause_33 : decode cX8_readClause 33 = .ok (.ifCond .eq 13, 3) := by decide +kernel
theorem dX8_readClause_36 : decode cX8_readClause 36 = .ok (.aload_n 0, 1) := by decide +kernel
theorem dX8_readClause_37 : decode cX8_readClause 37 = .ok (.iconst 3, 1) := by decide +kernel
theorem dX8_readClause_38 : decode cX8_readClause 38 = .ok (.aload_n 0, 1) := by decide +kernel
theorem dX8_readClause_39 : decode cX8_readClause 39 = .ok (.getfield 35, 3) := by decide +kernel
theorem dX8_readClause_42 : decode cX8_readClause 42 = .ok (.invokevirtual 48, 3) := by decide +kernel
theorem dX8_readClause_45 : decode cX8_readClause 45 = .ok (.return_, 1) := by decide +kernel
theorem dX8_readClause_46 : decode cX8_readClause 46 = .ok (.aload_n 0, 1) := by decide +kernel
theorem dX8_readClause_47 : decode cX8_readClause 47 = .ok (.dup, 1) := by decide +kernel
theorem dX8_readClause_48 : decode cX8_readClause 48 = .ok (.getfield 35, 3) := by decide +kernel
theorem dX8_readClause_51 : decode cX8_readClause 51 = .ok (.iconst 1, 1) := by decide +kernel
theorem dX8_readClause_52 : decode cX8_readClause 52 = .ok (.iadd, 1) := by decide +kernel
theorem dX8_readClause_53 : decode cX8_readClause 53 = .ok (.putfield 35, 3) := by decide +kernel
theorem dX8_readClause_56 : decode cX8_readClause 56 = .ok (.iload_n 1, 1) := by decide +kernel
theorem dX8_readClause_57 : decode cX8_readClause 57 = .ok (.lookupswitch 56 #[(98, 42), (107, 49), (110, 35)], 35) := by decide +kernel
theorem dX8_readClause_92 : decode cX8_readClause 92 = .ok (.aload_n 0, 1) := by decide +kernel
theorem dX8_readClause_93 : decode cX8_readClause 93 = .ok (.invokevirtual 55, 3) := by decide +kernel
theorem dX8_readClause_96 : decode cX8_readClause 96 = .ok (.goto 21, 3) := by decide +kernel
theorem dX8_readClause_99 : decode cX8_readClause 99 = .ok (.aload_n 0, 1) := by decide +kernel
theorem dX8_readClause_100 : decode cX8_readClause 100 = .ok (.invokevirtual 58, 3) := by decide +kernel
theorem dX8_readClause_103 : decode cX8_readClause 103 = .ok (.goto 14, 3) := by decide +kernel
theorem dX8_readClause_106 : decode cX8_readClause 106 = .ok (.aload_n 0, 1) := by decide +kernel
theorem dX8_readClause_107 : decode cX8_readClause 107 = .ok (.invokevirtual 61, 3) := by decide +kernel
theorem dX8_readClause_110 : decode cX8_readClause 110 = .ok (.goto 7, 3) := by decide +kernel
theorem dX8_readClause_113 : decode cX8_readClause 113 = .ok (.aload_n 0, 1) := by decide +kernel
theorem dX8_readClause_114 : decode cX8_readClause 114 = .ok (.invokevirtual 64, 3) := by decide +kernel
theorem dX8_readClause_117 : decode cX8_readClause 117 = .ok (.return_, 1) := by decide +kernel
theorem dX8_isWordHere_0 : decode cX8_isWordHere 0 = .ok (.aload_n 0, 1) := by decide +kernel
theorem dX8_isWordHere_1 : decode cX8_isWordHere 1 = .ok (.getfield 12, 3) := by decide +kernel
theorem dX8_isWordHere_4 : decode cX8_isWordHere 4 = .ok (.getfield 67, 3) := by decide +kernel
theorem dX8_isWordHere_7 : decode cX8_isWordHere 7 = .ok (.ifCond .ne 15, 3) := by decide +kernel
theorem dX8_isWordHere_10 : decode cX8_isWordHere 10 = .ok (.iload_n 1, 1) := by decide +kernel
theorem dX8_isWordHere_11 : decode cX8_isWordHere 11 = .ok (.bipush 110, 2) := by decide +kernel
theorem dX8_isWordHere_13 : decode cX8_isWordHere 13 = .ok (.if_icmp .ne 7, 3) := by decide +kernel
theorem dX8_isWordHere_16 : decode cX8_isWordHere 16 = .ok (.iconst 1, 1) := by decide +kernel
theorem dX8_isWordHere_17 : decode cX8_isWordHere 17 = .ok (.goto 4, 3) := by decide +kernel
theorem dX8_isWordHere_20 : decode cX8_isWordHere 20 = .ok (.iconst 0, 1) := by decide +kernel
theorem dX8_isWordHere_21 : decode cX8_isWordHere 21 = .ok (.ireturn, 1) := by decide +kernel
theorem dX8_isWordHere_22 : decode cX8_isWordHere 22 = .ok (.iload_n 1, 1) := by decide +kernel
theorem dX8_isWordHere_23 : decode cX8_isWordHere 23 = .ok (.bipush 110, 2) := by decide +kernel
theorem dX8_isWordHere_25 : decode cX8_isWordHere 25 = .ok (.if_icmp .eq 21, 3) := by decide +kernel
theorem dX8_isWordHere_28 : decode cX8_isWordHere 28 = .ok (.iload_n 1, 1) := by decide +kernel
theorem dX8_isWordHere_29 : decode cX8_isWordHere 29 = .ok (.bipush 98, 2) := by decide +kernel
theorem dX8_isWordHere_31 : decode cX8_isWordHere 31 = .ok (.if_icmp .eq 15, 3) := by decide +kernel
theorem dX8_isWordHere_34 : decode cX8_isWordHere 34 = .ok (.iload_n 1, 1) := by decide +kernel
theorem dX8_isWordHere_35 : decode cX8_isWordHere 35 = .ok (.bipush 107, 2) := by decide +kernel
theorem dX8_isWordHere_37 : decode cX8_isWordHere 37 = .ok (.if_icmp .eq 9, 3) := by decide +kernel
theorem dX8_isWordHere_40 : decode cX8_isWordHere 40 = .ok (.iload_n 1, 1) := by decide +kernel
theorem dX8_isWordHere_41 : decode cX8_isWordHere 41 = .ok (.bipush 106, 2) := by decide +kernel
theorem dX8_isWordHere_43 : decode cX8_isWordHere 43 = .ok (.if_icmp .ne 7, 3) := by decide +kernel
theorem dX8_isWordHere_46 : decode cX8_isWordHere 46 = .ok (.iconst 1, 1) := by decide +kernel
theorem dX8_isWordHere_47 : decode cX8_isWordHere 47 = .ok (.goto 4, 3) := by decide +kernel
theorem dX8_isWordHere_50 : decode cX8_isWordHere 50 = .ok (.iconst 0, 1) := by decide +kernel
theorem dX8_isWordHere_51 : decode cX8_isWordHere 51 = .ok (.ireturn, 1) := by decide +kernel
theorem dX8_isOneTooMany_0 : decode cX8_isOneTooMany 0 = .ok (.iload_n 1, 1) := by decide +kernel
theorem dX8_isOneTooMany_1 : decode cX8_isOneTooMany 1 = .ok (.lookupswitch 87 #[(98, 51), (107, 69), (110, 35)], 35) := by decide +kernel
theorem dX8_isOneTooMany_36 : decode cX8_isOneTooMany 36 = .ok (.aload_n 0, 1) := by decide +kernel
theorem dX8_isOneTooMany_37 : decode cX8_isOneTooMany 37 = .ok (.getfield 12, 3) := by decide +kernel
theorem dX8_isOneTooMany_40 : decode cX8_isOneTooMany 40 = .ok (.getfield 67, 3) := by decide +kernel
theorem dX8_isOneTooMany_43 : decode cX8_isOneTooMany 43 = .ok (.ifCond .le 7, 3) := by decide +kernel
theorem dX8_isOneTooMany_46 : decode cX8_isOneTooMany 46 = .ok (.iconst 1, 1) := by decide +kernel
theorem dX8_isOneTooMany_47 : decode cX8_isOneTooMany 47 = .ok (.goto 4, 3) := by decide +kernel
theorem dX8_isOneTooMany_50 : decode cX8_isOneTooMany 50 = .ok (.iconst 0, 1) := by decide +kernel
theorem dX8_isOneTooMany_51 : decode cX8_isOneTooMany 51 = .ok (.ireturn, 1) := by decide +kernel
theorem dX8_isOneTooMany_52 : decode cX8_isOneTooMany 52 = .ok (.aload_n 0, 1) := by decide +kernel
theorem dX8_isOneTooMany_53 : decode cX8_isOneTooMany 53 = .ok (.getfield 12, 3) := by decide +kernel
theorem dX8_isOneTooMany_56 : decode cX8_isOneTooMany 56 = .ok (.getfield 70, 3) := by decide +kernel
theorem dX8_isOneTooMany_59 : decode cX8_isOneTooMany 59 = .ok (.bipush 9, 2) := by decide +kernel
theorem dX8_isOneTooMany_61 : decode cX8_isOneTooMany 61 = .ok (.if_icmp .lt 7, 3) := by decide +kernel
theorem dX8_isOneTooMany_64 : decode cX8_isOneTooMany 64 = .ok (.iconst 1, 1) := by decide +kernel
theorem dX8_isOneTooMany_65 : decode cX8_isOneTooMany 65 = .ok (.goto 4, 3) := by decide +kernel
theorem dX8_isOneTooMany_68 : decode cX8_isOneTooMany 68 = .ok (.iconst 0, 1) := by decide +kernel
theorem dX8_isOneTooMany_69 : decode cX8_isOneTooMany 69 = .ok (.ireturn, 1) := by decide +kernel
theorem dX8_isOneTooMany_70 : decode cX8_isOneTooMany 70 = .ok (.aload_n 0, 1) := by decide +kernel
theorem dX8_isOneTooMany_71 : decode cX8_isOneTooMany 71 = .ok (.getfield 12, 3) := by decide +kernel
theorem dX8_isOneTooMany_74 : decode cX8_isOneTooMany 74 = .ok (.getfield 73, 3) := by decide +kernel
theorem dX8_isOneTooMany_77 : decode cX8_isOneTooMany 77 = .ok (.bipush 9, 2) := by decide +kernel
theorem dX8_isOneTooMany_79 : decode cX8_isOneTooMany 79 = .ok (.if_icmp .lt 7, 3) := by decide +kernel
theorem dX8_isOneTooMany_82 : decode cX8_isOneTooMany 82 = .ok (.iconst 1, 1) := by decide +kernel
theorem dX8_isOneTooMany_83 : decode cX8_isOneTooMany 83 = .ok (.goto 4, 3) := by decide +kernel
theorem dX8_isOneTooMany_86 : decode cX8_isOneTooMany 86 = .ok (.iconst 0, 1) := by decide +kernel
theorem dX8_isOneTooMany_87 : decode cX8_isOneTooMany 87 = .ok (.ireturn, 1) := by decide +kernel
theorem dX8_isOneTooMany_88 : decode cX8_isOneTooMany 88 = .ok (.aload_n 0, 1) := by decide +kernel
theorem dX8_isOneTooMany_89 : decode cX8_isOneTooMany 89 = .ok (.getfield 12, 3) := by decide +kernel
theorem dX8_isOneTooMany_92 : decode cX8_isOneTooMany 92 = .ok (.getfield 76, 3) := by decide +kernel
theorem dX8_isOneTooMany_95 : decode cX8_isOneTooMany 95 = .ok (.bipush 6, 2) := by decide +kernel
theorem dX8_isOneTooMany_97 : decode cX8_isOneTooMany 97 = .ok (.if_icmp .lt 7, 3) := by decide +kernel
theorem dX8_isOneTooMany_100 : decode cX8_isOneTooMany 100 = .ok (.iconst 1, 1) := by decide +kernel
theorem dX8_isOneTooMany_101 : decode cX8_isOneTooMany 101 = .ok (.goto 4, 3) := by decide +kernel
theorem dX8_isOneTooMany_104 : decode cX8_isOneTooMany 104 = .ok (.iconst 0, 1) := by decide +kernel
theorem dX8_isOneTooMany_105 : decode cX8_isOneTooMany 105 = .ok (.ireturn, 1) := by decide +kernel
theorem dX8_readPlaces_0 : decode cX8_readPlaces 0 = .ok (.aload_n 0, 1) := by decide +kernel
theorem dX8_readPlaces_1 : decode cX8_readPlaces 1 = .ok (.iconst 2, 1) := by decide +kernel
theorem dX8_readPlaces_2 : decode cX8_readPlaces 2 = .ok (.bipush 8, 2) := by decide +kernel
theorem dX8_readPlaces_4 : decode cX8_readPlaces 4 = .ok (.invokevirtual 79, 3) := by decide +kernel
theorem dX8_readPlaces_7 : decode cX8_readPlaces 7 = .ok (.istore_n 1, 1) := by decide +kernel
theorem dX8_readPlaces_8 : decode cX8_readPlaces 8 = .ok (.aload_n 0, 1) := by decide +kernel
theorem dX8_readPlaces_9 : decode cX8_readPlaces 9 = .ok (.invokevirtual 83, 3) := by decide +kernel
theorem dX8_readPlaces_12 : decode cX8_readPlaces 12 = .ok (.ifCond .eq 11, 3) := by decide +kernel
theorem dX8_readPlaces_15 : decode cX8_readPlaces 15 = .ok (.aload_n 0, 1) := by decide +kernel
theorem dX8_readPlaces_16 : decode cX8_readPlaces 16 = .ok (.getfield 12, 3) := by decide +kernel
theorem dX8_readPlaces_19 : decode cX8_readPlaces 19 = .ok (.iload_n 1, 1) := by decide +kernel
theorem dX8_readPlaces_20 : decode cX8_readPlaces 20 = .ok (.putfield 67, 3) := by decide +kernel
theorem dX8_readPlaces_23 : decode cX8_readPlaces 23 = .ok (.return_, 1) := by decide +kernel
theorem dX8_readBridge_0 : decode cX8_readBridge 0 = .ok (.aload_n 0, 1) := by decide +kernel
theorem dX8_readBridge_1 : decode cX8_readBridge 1 = .ok (.invokevirtual 87, 3) := by decide +kernel
theorem dX8_readBridge_4 : decode cX8_readBridge 4 = .ok (.istore_n 1, 1) := by decide +kernel
theorem dX8_readBridge_5 : decode cX8_readBridge 5 = .ok (.aload_n 0, 1) := by decide +kernel
theorem dX8_readBridge_6 : decode cX8_readBridge 6 = .ok (.invokevirtual 87, 3) := by decide +kernel
theorem dX8_readBridge_9 : decode cX8_readBridge 9 = .ok (.istore_n 2, 1) := by decide +kernel
theorem dX8_readBridge_10 : decode cX8_readBridge 10 = .ok (.aload_n 0, 1) := by decide +kernel
theorem dX8_readBridge_11 : decode cX8_readBridge 11 = .ok (.getfield 32, 3) := by decide +kernel
theorem dX8_readBridge_14 : decode cX8_readBridge 14 = .ok (.ifCond .ne 29, 3) := by decide +kernel
theorem dX8_readBridge_17 : decode cX8_readBridge 17 = .ok (.iload_n 1, 1) := by decide +kernel
theorem dX8_readBridge_18 : decode cX8_readBridge 18 = .ok (.iload_n 2, 1) := by decide +kernel
theorem dX8_readBridge_19 : decode cX8_readBridge 19 = .ok (.if_icmp .eq 15, 3) := by decide +kernel
theorem dX8_readBridge_22 : decode cX8_readBridge 22 = .ok (.aload_n 0, 1) := by decide +kernel
theorem dX8_readBridge_23 : decode cX8_readBridge 23 = .ok (.getfield 12, 3) := by decide +kernel
theorem dX8_readBridge_26 : decode cX8_readBridge 26 = .ok (.iload_n 1, 1) := by decide +kernel
theorem dX8_readBridge_27 : decode cX8_readBridge 27 = .ok (.iload_n 2, 1) := by decide +kernel
theorem dX8_readBridge_28 : decode cX8_readBridge 28 = .ok (.invokevirtual 91, 3) := by decide +kernel
theorem dX8_readBridge_31 : decode cX8_readBridge 31 = .ok (.ifCond .eq 12, 3) := by decide +kernel
theorem dX8_readBridge_34 : decode cX8_readBridge 34 = .ok (.aload_n 0, 1) := by decide +kernel
theorem dX8_readBridge_35 : decode cX8_readBridge 35 = .ok (.iconst 4, 1) := by decide +kernel
theorem dX8_readBridge_36 : decode cX8_readBridge 36 = .ok (.aload_n 0, 1) := by decide +kernel
theorem dX8_readBridge_37 : decode cX8_readBridge 37 = .ok (.getfield 95, 3) := by decide +kernel
theorem dX8_readBridge_40 : decode cX8_readBridge 40 = .ok (.invokevirtual 48, 3) := by decide +kernel
theorem dX8_readBridge_43 : decode cX8_readBridge 43 = .ok (.aload_n 0, 1) := by decide +kernel
theorem dX8_readBridge_44 : decode cX8_readBridge 44 = .ok (.iconst 2, 1) := by decide +kernel
theorem dX8_readBridge_45 : decode cX8_readBridge 45 = .ok (.bipush 40, 2) := by decide +kernel
theorem dX8_readBridge_47 : decode cX8_readBridge 47 = .ok (.invokevirtual 79, 3) := by decide +kernel
theorem dX8_readBridge_50 : decode cX8_readBridge 50 = .ok (.istore_n 3, 1) := by decide +kernel
theorem dX8_readBridge_51 : decode cX8_readBridge 51 = .ok (.aload_n 0, 1) := by decide +kernel
theorem dX8_readBridge_52 : decode cX8_readBridge 52 = .ok (.iconst 0, 1) := by decide +kernel
theorem dX8_readBridge_53 : decode cX8_readBridge 53 = .ok (.bipush 99, 2) := by decide +kernel
theorem dX8_readBridge_55 : decode cX8_readBridge 55 = .ok (.invokevirtual 79, 3) := by decide +kernel
theorem dX8_readBridge_58 : decode cX8_readBridge 58 = .ok (.istore 4, 2) := by decide +kernel
theorem dX8_readBridge_60 : decode cX8_readBridge 60 = .ok (.aload_n 0, 1) := by decide +kernel
theorem dX8_readBridge_61 : decode cX8_readBridge 61 = .ok (.invokevirtual 83, 3) := by decide +kernel
theorem dX8_readBridge_64 : decode cX8_readBridge 64 = .ok (.ifCond .eq 15, 3) := by decide +kernel
theorem dX8_readBridge_67 : decode cX8_readBridge 67 = .ok (.aload_n 0, 1) := by decide +kernel
theorem dX8_readBridge_68 : decode cX8_readBridge 68 = .ok (.getfield 12, 3) := by decide +kernel
theorem dX8_readBridge_71 : decode cX8_readBridge 71 = .ok (.iload_n 1, 1) := by decide +kernel
theorem dX8_readBridge_72 : decode cX8_readBridge 72 = .ok (.iload_n 2, 1) := by decide +kernel
theorem dX8_readBridge_73 : decode cX8_readBridge 73 = .ok (.iload_n 3, 1) := by decide +kernel
theorem dX8_readBridge_74 : decode cX8_readBridge 74 = .ok (.iload 4, 2) := by decide +kernel
theorem dX8_readBridge_76 : decode cX8_readBridge 76 = .ok (.invokevirtual 98, 3) := by decide +kernel
theorem dX8_readBridge_79 : decode cX8_readBridge 79 = .ok (.return_, 1) := by decide +kernel
theorem dX8_readKeeper_0 : decode cX8_readKeeper 0 = .ok (.aload_n 0, 1) := by decide +kernel
theorem dX8_readKeeper_1 : decode cX8_readKeeper 1 = .ok (.iconst 0, 1) := by decide +kernel
theorem dX8_readKeeper_2 : decode cX8_readKeeper 2 = .ok (.iconst 3, 1) := by decide +kernel
theorem dX8_readKeeper_3 : decode cX8_readKeeper 3 = .ok (.invokevirtual 79, 3) := by decide +kernel
theorem dX8_readKeeper_6 : decode cX8_readKeeper 6 = .ok (.istore_n 1, 1) := by decide +kernel
theorem dX8_readKeeper_7 : decode cX8_readKeeper 7 = .ok (.aload_n 0, 1) := by decide +kernel
theorem dX8_readKeeper_8 : decode cX8_readKeeper 8 = .ok (.iconst 1, 1) := by decide +kernel
theorem dX8_readKeeper_9 : decode cX8_readKeeper 9 = .ok (.bipush 40, 2) := by decide +kernel
theorem dX8_readKeeper_11 : decode cX8_readKeeper 11 = .ok (.invokevirtual 79, 3) := by decide +kernel
theorem dX8_readKeeper_14 : decode cX8_readKeeper 14 = .ok (.istore_n 2, 1) := by decide +kernel
theorem dX8_readKeeper_15 : decode cX8_readKeeper 15 = .ok (.aload_n 0, 1) := by decide +kernel
theorem dX8_readKeeper_16 : decode cX8_readKeeper 16 = .ok (.invokevirtual 83, 3) := by decide +kernel
theorem dX8_readKeeper_19 : decode cX8_readKeeper 19 = .ok (.ifCond .eq 12, 3) := by decide +kernel
theorem dX8_readKeeper_22 : decode cX8_readKeeper 22 = .ok (.aload_n 0, 1) := by decide +kernel
theorem dX8_readKeeper_23 : decode cX8_readKeeper 23 = .ok (.getfield 12, 3) := by decide +kernel
theorem dX8_readKeeper_26 : decode cX8_readKeeper 26 = .ok (.iload_n 1, 1) := by decide +kernel
theorem dX8_readKeeper_27 : decode cX8_readKeeper 27 = .ok (.iload_n 2, 1) := by decide +kernel
theorem dX8_readKeeper_28 : decode cX8_readKeeper 28 = .ok (.invokevirtual 102, 3) := by decide +kernel
theorem dX8_readKeeper_31 : decode cX8_readKeeper 31 = .ok (.return_, 1) := by decide +kernel
theorem dX8_readJumper_0 : decode cX8_readJumper 0 = .ok (.aload_n 0, 1) := by decide +kernel
theorem dX8_readJumper_1 : decode cX8_readJumper 1 = .ok (.iconst 0, 1) := by decide +kernel
theorem dX8_readJumper_2 : decode cX8_readJumper 2 = .ok (.iconst 3, 1) := by decide +kernel
theorem dX8_readJumper_3 : decode cX8_readJumper 3 = .ok (.invokevirtual 79, 3) := by decide +kernel
theorem dX8_readJumper_6 : decode cX8_readJumper 6 = .ok (.istore_n 1, 1) := by decide +kernel
theorem dX8_readJumper_7 : decode cX8_readJumper 7 = .ok (.aload_n 0, 1) := by decide +kernel
theorem dX8_readJumper_8 : decode cX8_readJumper 8 = .ok (.invokevirtual 87, 3) := by decide +kernel
theorem dX8_readJumper_11 : decode cX8_readJumper 11 = .ok (.istore_n 2, 1) := by decide +kernel
theorem dX8_readJumper_12 : decode cX8_readJumper 12 = .ok (.aload_n 0, 1) := by decide +kernel
theorem dX8_readJumper_13 : decode cX8_readJumper 13 = .ok (.invokevirtual 83, 3) := by decide +kernel
theorem dX8_readJumper_16 : decode cX8_readJumper 16 = .ok (.ifCond .eq 12, 3) := by decide +kernel
theorem dX8_readJumper_19 : decode cX8_readJumper 19 = .ok (.aload_n 0, 1) := by decide +kernel
theorem dX8_readJumper_20 : decode cX8_readJumper 20 = .ok (.getfield 12, 3) := by decide +kernel
theorem dX8_readJumper_23 : decode cX8_readJumper 23 = .ok (.iload_n 1, 1) := by decide +kernel
theorem dX8_readJumper_24 : decode cX8_readJumper 24 = .ok (.iload_n 2, 1) := by decide +kernel
theorem dX8_readJumper_25 : decode cX8_readJumper 25 = .ok (.invokevirtual 105, 3) := by decide +kernel
theorem dX8_readJumper_28 : decode cX8_readJumper 28 = .ok (.return_, 1) := by decide +kernel
theorem dX8_readPlace_0 : decode cX8_readPlace 0 = .ok (.aload_n 0, 1) := by decide +kernel
theorem dX8_readPlace_1 : decode cX8_readPlace 1 = .ok (.iconst 0, 1) := by decide +kernel
theorem dX8_readPlace_2 : decode cX8_readPlace 2 = .ok (.aload_n 0, 1) := by decide +kernel
theorem dX8_readPlace_3 : decode cX8_readPlace 3 = .ok (.getfield 12, 3) := by decide +kernel
theorem dX8_readPlace_6 : decode cX8_readPlace 6 = .ok (.getfield 67, 3) := by decide +kernel
theorem dX8_readPlace_9 : decode cX8_readPlace 9 = .ok (.iconst 1, 1) := by decide +kernel
theorem dX8_readPlace_10 : decode cX8_readPlace 10 = .ok (.isub, 1) := by decide +kernel
theorem dX8_readPlace_11 : decode cX8_readPlace 11 = .ok (.invokevirtual 79, 3) := by decide +kernel
theorem dX8_readPlace_14 : decode cX8_readPlace 14 = .ok (.ireturn, 1) := by decide +kernel
theorem dX8_readNumber_0 : decode cX8_readNumber 0 = .ok (.aload_n 0, 1) := by decide +kernel
theorem dX8_readNumber_1 : decode cX8_readNumber 1 = .ok (.getfield 32, 3) := by decide +kernel
theorem dX8_readNumber_4 : decode cX8_readNumber 4 = .ok (.ifCond .eq 5, 3) := by decide +kernel
theorem dX8_readNumber_7 : decode cX8_readNumber 7 = .ok (.iconst (-1), 1) := by decide +kernel
theorem dX8_readNumber_8 : decode cX8_readNumber 8 = .ok (.ireturn, 1) := by decide +kernel
theorem dX8_readNumber_9 : decode cX8_readNumber 9 = .ok (.aload_n 0, 1) := by decide +kernel
theorem dX8_readNumber_10 : decode cX8_readNumber 10 = .ok (.invokevirtual 38, 3) := by decide +kernel
theorem dX8_readNumber_13 : decode cX8_readNumber 13 = .ok (.aload_n 0, 1) := by decide +kernel
theorem dX8_readNumber_14 : decode cX8_readNumber 14 = .ok (.aload_n 0, 1) := by decide +kernel
theorem dX8_readNumber_15 : decode cX8_readNumber 15 = .ok (.getfield 35, 3) := by decide +kernel
theorem dX8_readNumber_18 : decode cX8_readNumber 18 = .ok (.putfield 95, 3) := by decide +kernel
theorem dX8_readNumber_21 : decode cX8_readNumber 21 = .ok (.iconst 0, 1) := by decide +kernel
theorem dX8_readNumber_22 : decode cX8_readNumber 22 = .ok (.istore_n 3, 1) := by decide +kernel
theorem dX8_readNumber_23 : decode cX8_readNumber 23 = .ok (.aload_n 0, 1) := by decide +kernel
theorem dX8_readNumber_24 : decode cX8_readNumber 24 = .ok (.getfield 35, 3) := by decide +kernel
theorem dX8_readNumber_27 : decode cX8_readNumber 27 = .ok (.aload_n 0, 1) := by decide +kernel
theorem dX8_readNumber_28 : decode cX8_readNumber 28 = .ok (.getfield 26, 3) := by decide +kernel
theorem dX8_readNumber_31 : decode cX8_readNumber 31 = .ok (.if_icmp .ge 62, 3) := by decide +kernel
theorem dX8_readNumber_34 : decode cX8_readNumber 34 = .ok (.aload_n 0, 1) := by decide +kernel
theorem dX8_readNumber_35 : decode cX8_readNumber 35 = .ok (.getfield 22, 3) := by decide +kernel
theorem dX8_readNumber_38 : decode cX8_readNumber 38 = .ok (.aload_n 0, 1) := by decide +kernel
theorem dX8_readNumber_39 : decode cX8_readNumber 39 = .ok (.getfield 35, 3) := by decide +kernel
theorem dX8_readNumber_42 : decode cX8_readNumber 42 = .ok (.iaload, 1) := by decide +kernel
theorem dX8_readNumber_43 : decode cX8_readNumber 43 = .ok (.invokestatic 108, 3) := by decide +kernel
theorem dX8_readNumber_46 : decode cX8_readNumber 46 = .ok (.ifCond .eq 47, 3) := by decide +kernel
theorem dX8_readNumber_49 : decode cX8_readNumber 49 = .ok (.aload_n 0, 1) := by decide +kernel
theorem dX8_readNumber_50 : decode cX8_readNumber 50 = .ok (.getfield 35, 3) := by decide +kernel
theorem dX8_readNumber_53 : decode cX8_readNumber 53 = .ok (.aload_n 0, 1) := by decide +kernel
theorem dX8_readNumber_54 : decode cX8_readNumber 54 = .ok (.getfield 95, 3) := by decide +kernel
theorem dX8_readNumber_57 : decode cX8_readNumber 57 = .ok (.isub, 1) := by decide +kernel
theorem dX8_readNumber_58 : decode cX8_readNumber 58 = .ok (.iconst 3, 1) := by decide +kernel
theorem dX8_readNumber_59 : decode cX8_readNumber 59 = .ok (.if_icmp .ge 21, 3) := by decide +kernel
theorem dX8_readNumber_62 : decode cX8_readNumber 62 = .ok (.iload_n 3, 1) := by decide +kernel
theorem dX8_readNumber_63 : decode cX8_readNumber 63 = .ok (.bipush 10, 2) := by decide +kernel
theorem dX8_readNumber_65 : decode cX8_readNumber 65 = .ok (.imul, 1) := by decide +kernel
theorem dX8_readNumber_66 : decode cX8_readNumber 66 = .ok (.aload_n 0, 1) := by decide +kernel
theorem dX8_readNumber_67 : decode cX8_readNumber 67 = .ok (.getfield 22, 3) := by decide +kernel
theorem dX8_readNumber_70 : decode cX8_readNumber 70 = .ok (.aload_n 0, 1) := by decide +kernel
theorem dX8_readNumber_71 : decode cX8_readNumber 71 = .ok (.getfield 35, 3) := by decide +kernel
theorem dX8_readNumber_74 : decode cX8_readNumber 74 = .ok (.iaload, 1) := by decide +kernel
theorem dX8_readNumber_75 : decode cX8_readNumber 75 = .ok (.iadd, 1) := by decide +kernel
theorem dX8_readNumber_76 : decode cX8_readNumber 76 = .ok (.bipush 48, 2) := by decide +kernel
theorem dX8_readNumber_78 : decode cX8_readNumber 78 = .ok (.isub, 1) := by decide +kernel
theorem dX8_readNumber_79 : decode cX8_readNumber 79 = .ok (.istore_n 3, 1) := by decide +kernel
theorem dX8_readNumber_80 : decode cX8_readNumber 80 = .ok (.aload_n 0, 1) := by decide +kernel
theorem dX8_readNumber_81 : decode cX8_readNumber 81 = .ok (.dup, 1) := by decide +kernel
theorem dX8_readNumber_82 : decode cX8_readNumber 82 = .ok (.getfield 35, 3) := by decide +kernel
theorem dX8_readNumber_85 : decode cX8_readNumber 85 = .ok (.iconst 1, 1) := by decide +kernel
theorem dX8_readNumber_86 : decode cX8_readNumber 86 = .ok (.iadd, 1) := by decide +kernel
theorem dX8_readNumber_87 : decode cX8_readNumber 87 = .ok (.putfield 35, 3) := by decide +kernel
theorem dX8_readNumber_90 : decode cX8_readNumber 90 = .ok (.goto (-67), 3) := by decide +kernel
theorem dX8_readNumber_93 : decode cX8_readNumber 93 = .ok (.aload_n 0, 1) := by decide +kernel
theorem dX8_readNumber_94 : decode cX8_readNumber 94 = .ok (.getfield 35, 3) := by decide +kernel
theorem dX8_readNumber_97 : decode cX8_readNumber 97 = .ok (.aload_n 0, 1) := by decide +kernel
theorem dX8_readNumber_98 : decode cX8_readNumber 98 = .ok (.getfield 95, 3) := by decide +kernel
theorem dX8_readNumber_101 : decode cX8_readNumber 101 = .ok (.isub, 1) := by decide +kernel
theorem dX8_readNumber_102 : decode cX8_readNumber 102 = .ok (.istore 4, 2) := by decide +kernel
theorem dX8_readNumber_104 : decode cX8_readNumber 104 = .ok (.iload 4, 2) := by decide +kernel
theorem dX8_readNumber_106 : decode cX8_readNumber 106 = .ok (.ifCond .ne 15, 3) := by decide +kernel
theorem dX8_readNumber_109 : decode cX8_readNumber 109 = .ok (.aload_n 0, 1) := by decide +kernel
theorem dX8_readNumber_110 : decode cX8_readNumber 110 = .ok (.iconst 1, 1) := by decide +kernel
theorem dX8_readNumber_111 : decode cX8_readNumber 111 = .ok (.aload_n 0, 1) := by decide +kernel
theorem dX8_readNumber_112 : decode cX8_readNumber 112 = .ok (.getfield 35, 3) := by decide +kernel
theorem dX8_readNumber_115 : decode cX8_readNumber 115 = .ok (.invokevirtual 48, 3) := by decide +kernel
theorem dX8_readNumber_118 : decode cX8_readNumber 118 = .ok (.goto 28, 3) := by decide +kernel
theorem dX8_readNumber_121 : decode cX8_readNumber 121 = .ok (.iload 4, 2) := by decide +kernel
theorem dX8_readNumber_123 : decode cX8_readNumber 123 = .ok (.iconst 3, 1) := by decide +kernel
theorem dX8_readNumber_124 : decode cX8_readNumber 124 = .ok (.if_icmp .gt 13, 3) := by decide +kernel
theorem dX8_readNumber_127 : decode cX8_readNumber 127 = .ok (.iload_n 3, 1) := by decide +kernel
theorem dX8_readNumber_128 : decode cX8_readNumber 128 = .ok (.iload_n 1, 1) := by decide +kernel
theorem dX8_readNumber_129 : decode cX8_readNumber 129 = .ok (.if_icmp .lt 8, 3) := by decide +kernel
theorem dX8_readNumber_132 : decode cX8_readNumber 132 = .ok (.iload_n 3, 1) := by decide +kernel
theorem dX8_readNumber_133 : decode cX8_readNumber 133 = .ok (.iload_n 2, 1) := by decide +kernel
theorem dX8_readNumber_134 : decode cX8_readNumber 134 = .ok (.if_icmp .le 12, 3) := by decide +kernel
theorem dX8_readNumber_137 : decode cX8_readNumber 137 = .ok (.aload_n 0, 1) := by decide +kernel
theorem dX8_readNumber_138 : decode cX8_readNumber 138 = .ok (.iconst 2, 1) := by decide +kernel
theorem dX8_readNumber_139 : decode cX8_readNumber 139 = .ok (.aload_n 0, 1) := by decide +kernel
theorem dX8_readNumber_140 : decode cX8_readNumber 140 = .ok (.getfield 95, 3) := by decide +kernel
theorem dX8_readNumber_143 : decode cX8_readNumber 143 = .ok (.invokevirtual 48, 3) := by decide +kernel
theorem dX8_readNumber_146 : decode cX8_readNumber 146 = .ok (.iload_n 3, 1) := by decide +kernel
theorem dX8_readNumber_147 : decode cX8_readNumber 147 = .ok (.ireturn, 1) := by decide +kernel
theorem dX8_endsClause_0 : decode cX8_endsClause 0 = .ok (.aload_n 0, 1) := by decide +kernel
theorem dX8_endsClause_1 : decode cX8_endsClause 1 = .ok (.getfield 32, 3) := by decide +kernel
theorem dX8_endsClause_4 : decode cX8_endsClause 4 = .ok (.ifCond .eq 5, 3) := by decide +kernel
theorem dX8_endsClause_7 : decode cX8_endsClause 7 = .ok (.iconst 0, 1) := by decide +kernel
theorem dX8_endsClause_8 : decode cX8_endsClause 8 = .ok (.ireturn, 1) := by decide +kernel
theorem dX8_endsClause_9 : decode cX8_endsClause 9 = .ok (.aload_n 0, 1) := by decide +kernel
theorem dX8_endsClause_10 : decode cX8_endsClause 10 = .ok (.invokevirtual 38, 3) := by decide +kernel
theorem dX8_endsClause_13 : decode cX8_endsClause 13 = .ok (.aload_n 0, 1) := by decide +kernel
theorem dX8_endsClause_14 : decode cX8_endsClause 14 = .ok (.getfield 35, 3) := by decide +kernel
theorem dX8_endsClause_17 : decode cX8_endsClause 17 = .ok (.aload_n 0, 1) := by decide +kernel
theorem dX8_endsClause_18 : decode cX8_endsClause 18 = .ok (.getfield 26, 3) := by decide +kernel
theorem dX8_endsClause_21 : decode cX8_endsClause 21 = .ok (.if_icmp .ge 17, 3) := by decide +kernel
theorem dX8_endsClause_24 : decode cX8_endsClause 24 = .ok (.aload_n 0, 1) := by decide +kernel
theorem dX8_endsClause_25 : decode cX8_endsClause 25 = .ok (.getfield 22, 3) := by decide +kernel
theorem dX8_endsClause_28 : decode cX8_endsClause 28 = .ok (.aload_n 0, 1) := by decide +kernel
theorem dX8_endsClause_29 : decode cX8_endsClause 29 = .ok (.getfield 35, 3) := by decide +kernel
theorem dX8_endsClause_32 : decode cX8_endsClause 32 = .ok (.iaload, 1) := by decide +kernel
theorem dX8_endsClause_33 : decode cX8_endsClause 33 = .ok (.bipush 59, 2) := by decide +kernel
theorem dX8_endsClause_35 : decode cX8_endsClause 35 = .ok (.if_icmp .eq 14, 3) := by decide +kernel
theorem dX8_endsClause_38 : decode cX8_endsClause 38 = .ok (.aload_n 0, 1) := by decide +kernel
theorem dX8_endsClause_39 : decode cX8_endsClause 39 = .ok (.iconst 1, 1) := by decide +kernel
theorem dX8_endsClause_40 : decode cX8_endsClause 40 = .ok (.aload_n 0, 1) := by decide +kernel
theorem dX8_endsClause_41 : decode cX8_endsClause 41 = .ok (.getfield 35, 3) := by decide +kernel
theorem dX8_endsClause_44 : decode cX8_endsClause 44 = .ok (.invokevirtual 48, 3) := by decide +kernel
theorem dX8_endsClause_47 : decode cX8_endsClause 47 = .ok (.iconst 0, 1) := by decide +kernel
theorem dX8_endsClause_48 : decode cX8_endsClause 48 = .ok (.ireturn, 1) := by decide +kernel
theorem dX8_endsClause_49 : decode cX8_endsClause 49 = .ok (.aload_n 0, 1) := by decide +kernel
theorem dX8_endsClause_50 : decode cX8_endsClause 50 = .ok (.dup, 1) := by decide +kernel
theorem dX8_endsClause_51 : decode cX8_endsClause 51 = .ok (.getfield 35, 3) := by decide +kernel
theorem dX8_endsClause_54 : decode cX8_endsClause 54 = .ok (.iconst 1, 1) := by decide +kernel
theorem dX8_endsClause_55 : decode cX8_endsClause 55 = .ok (.iadd, 1) := by decide +kernel
theorem dX8_endsClause_56 : decode cX8_endsClause 56 = .ok (.putfield 35, 3) := by decide +kernel
theorem dX8_endsClause_59 : decode cX8_endsClause 59 = .ok (.iconst 1, 1) := by decide +kernel
theorem dX8_endsClause_60 : decode cX8_endsClause 60 = .ok (.ireturn, 1) := by decide +kernel
theorem dX8_skipBlanks_0 : decode cX8_skipBlanks 0 = .ok (.aload_n 0, 1) := by decide +kernel
theorem dX8_skipBlanks_1 : decode cX8_skipBlanks 1 = .ok (.getfield 35, 3) := by decide +kernel
theorem dX8_skipBlanks_4 : decode cX8_skipBlanks 4 = .ok (.aload_n 0, 1) := by decide +kernel
theorem dX8_skipBlanks_5 : decode cX8_skipBlanks 5 = .ok (.getfield 26, 3) := by decide +kernel
theorem dX8_skipBlanks_8 : decode cX8_skipBlanks 8 = .ok (.if_icmp .ge 30, 3) := by decide +kernel
theorem dX8_skipBlanks_11 : decode cX8_skipBlanks 11 = .ok (.aload_n 0, 1) := by decide +kernel
theorem dX8_skipBlanks_12 : decode cX8_skipBlanks 12 = .ok (.getfield 22, 3) := by decide +kernel
theorem dX8_skipBlanks_15 : decode cX8_skipBlanks 15 = .ok (.aload_n 0, 1) := by decide +kernel
theorem dX8_skipBlanks_16 : decode cX8_skipBlanks 16 = .ok (.getfield 35, 3) := by decide +kernel
theorem dX8_skipBlanks_19 : decode cX8_skipBlanks 19 = .ok (.iaload, 1) := by decide +kernel
theorem dX8_skipBlanks_20 : decode cX8_skipBlanks 20 = .ok (.bipush 32, 2) := by decide +kernel
theorem dX8_skipBlanks_22 : decode cX8_skipBlanks 22 = .ok (.if_icmp .ne 16, 3) := by decide +kernel
theorem dX8_skipBlanks_25 : decode cX8_skipBlanks 25 = .ok (.aload_n 0, 1) := by decide +kernel
theorem dX8_skipBlanks_26 : decode cX8_skipBlanks 26 = .ok (.dup, 1) := by decide +kernel
theorem dX8_skipBlanks_27 : decode cX8_skipBlanks 27 = .ok (.getfield 35, 3) := by decide +kernel
theorem dX8_skipBlanks_30 : decode cX8_skipBlanks 30 = .ok (.iconst 1, 1) := by decide +kernel
theorem dX8_skipBlanks_31 : decode cX8_skipBlanks 31 = .ok (.iadd, 1) := by decide +kernel
theorem dX8_skipBlanks_32 : decode cX8_skipBlanks 32 = .ok (.putfield 35, 3) := by decide +kernel
theorem dX8_skipBlanks_35 : decode cX8_skipBlanks 35 = .ok (.goto (-35), 3) := by decide +kernel
theorem dX8_skipBlanks_38 : decode cX8_skipBlanks 38 = .ok (.return_, 1) := by decide +kernel
theorem dX8_isFigure_0 : decode cX8_isFigure 0 = .ok (.iload_n 0, 1) := by decide +kernel
theorem dX8_isFigure_1 : decode cX8_isFigure 1 = .ok (.bipush 48, 2) := by decide +kernel
theorem dX8_isFigure_3 : decode cX8_isFigure 3 = .ok (.if_icmp .lt 13, 3) := by decide +kernel
theorem dX8_isFigure_6 : decode cX8_isFigure 6 = .ok (.iload_n 0, 1) := by decide +kernel
theorem dX8_isFigure_7 : decode cX8_isFigure 7 = .ok (.bipush 57, 2) := by decide +kernel
theorem dX8_isFigure_9 : decode cX8_isFigure 9 = .ok (.if_icmp .gt 7, 3) := by decide +kernel
theorem dX8_isFigure_12 : decode cX8_isFigure 12 = .ok (.iconst 1, 1) := by decide +kernel
theorem dX8_isFigure_13 : decode cX8_isFigure 13 = .ok (.goto 4, 3) := by decide +kernel
theorem dX8_isFigure_16 : decode cX8_isFigure 16 = .ok (.iconst 0, 1) := by decide +kernel
theorem dX8_isFigure_17 : decode cX8_isFigure 17 = .ok (.ireturn, 1) := by decide +kernel
theorem dX8_fail_0 : decode cX8_fail 0 = .ok (.aload_n 0, 1) := by decide +kernel
theorem dX8_fail_1 : decode cX8_fail 1 = .ok (.iload_n 1, 1) := by decide +kernel
theorem dX8_fail_2 : decode cX8_fail 2 = .ok (.putfield 32, 3) := by decide +kernel
theorem dX8_fail_5 : decode cX8_fail 5 = .ok (.aload_n 0, 1) := by decide +kernel
theorem dX8_fail_6 : decode cX8_fail 6 = .ok (.iload_n 2, 1) := by decide +kernel
theorem dX8_fail_7 : decode cX8_fail 7 = .ok (.putfield 18, 3) := by decide +kernel
theorem dX8_fail_10 : decode cX8_fail 10 = .ok (.return_, 1) := by decide +kernel
theorem dX9_init_0 : decode cX9_init 0 = .ok (.aload_n 0, 1) := by decide +kernel
theorem dX9_init_1 : decode cX9_init 1 = .ok (.invokespecial 3, 3) := by decide +kernel
theorem dX9_init_4 : decode cX9_init 4 = .ok (.aload_n 0, 1) := by decide +kernel
theorem dX9_init_5 : decode cX9_init 5 = .ok (.bipush 8, 2) := by decide +kernel
theorem dX9_init_7 : decode cX9_init 7 = .ok (.newarray .int, 2) := by decide +kernel
theorem dX9_init_9 : decode cX9_init 9 = .ok (.putfield 9, 3) := by decide +kernel
theorem dX9_init_12 : decode cX9_init 12 = .ok (.aload_n 0, 1) := by decide +kernel
theorem dX9_init_13 : decode cX9_init 13 = .ok (.aload_n 1, 1) := by decide +kernel
theorem dX9_init_14 : decode cX9_init 14 = .ok (.putfield 15, 3) := by decide +kernel
theorem dX9_init_17 : decode cX9_init 17 = .ok (.return_, 1) := by decide +kernel
theorem dX9_fewest_0 : decode cX9_fewest 0 = .ok (.aload_n 0, 1) := by decide +kernel
theorem dX9_fewest_1 : decode cX9_fewest 1 = .ok (.iload_n 2, 1) := by decide +kernel
theorem dX9_fewest_2 : decode cX9_fewest 2 = .ok (.iload_n 3, 1) := by decide +kernel
theorem dX9_fewest_3 : decode cX9_fewest 3 = .ok (.invokevirtual 19, 3) := by decide +kernel
theorem dX9_fewest_6 : decode cX9_fewest 6 = .ok (.aload_n 0, 1) := by decide +kernel
theorem dX9_fewest_7 : decode cX9_fewest 7 = .ok (.getfield 9, 3) := by decide +kernel
theorem dX9_fewest_10 : decode cX9_fewest 10 = .ok (.iload_n 1, 1) := by decide +kernel
theorem dX9_fewest_11 : decode cX9_fewest 11 = .ok (.iaload, 1) := by decide +kernel
theorem dX9_fewest_12 : decode cX9_fewest 12 = .ok (.ireturn, 1) := by decide +kernel
theorem dX9_firstOfFewest_0 : decode cX9_firstOfFewest 0 = .ok (.aload_n 0, 1) := by decide +kernel
theorem dX9_firstOfFewest_1 : decode cX9_firstOfFewest 1 = .ok (.iload_n 1, 1) := by decide +kernel
theorem dX9_firstOfFewest_2 : decode cX9_firstOfFewest 2 = .ok (.iload_n 2, 1) := by decide +kernel
theorem dX9_firstOfFewest_3 : decode cX9_firstOfFewest 3 = .ok (.iload_n 3, 1) := by decide +kernel
theorem dX9_firstOfFewest_4 : decode cX9_firstOfFewest 4 = .ok (.invokevirtual 23, 3) := by decide +kernel
theorem dX9_firstOfFewest_7 : decode cX9_firstOfFewest 7 = .ok (.istore 4, 2) := by decide +kernel
theorem dX9_firstOfFewest_9 : decode cX9_firstOfFewest 9 = .ok (.iconst 0, 1) := by decide +kernel
theorem dX9_firstOfFewest_10 : decode cX9_firstOfFewest 10 = .ok (.istore 5, 2) := by decide +kernel
theorem dX9_firstOfFewest_12 : decode cX9_firstOfFewest 12 = .ok (.iload 5, 2) := by decide +kernel
theorem dX9_firstOfFewest_14 : decode cX9_firstOfFewest 14 = .ok (.aload_n 0, 1) := by decide +kernel
theorem dX9_firstOfFewest_15 : decode cX9_firstOfFewest 15 = .ok (.getfield 15, 3) := by decide +kernel
theorem dX9_firstOfFewest_18 : decode cX9_firstOfFewest 18 = .ok (.getfield 27, 3) := by decide +kernel
theorem dX9_firstOfFewest_21 : decode cX9_firstOfFewest 21 = .ok (.if_icmp .ge 73, 3) := by decide +kernel
theorem dX9_firstOfFewest_24 : decode cX9_firstOfFewest 24 = .ok (.iload 4, 2) := by decide +kernel
theorem dX9_firstOfFewest_26 : decode cX9_firstOfFewest 26 = .ok (.ifCond .le 68, 3) := by decide +kernel
theorem dX9_firstOfFewest_29 : decode cX9_firstOfFewest 29 = .ok (.iload 5, 2) := by decide +kernel
theorem dX9_firstOfFewest_31 : decode cX9_firstOfFewest 31 = .ok (.iload_n 3, 1) := by decide +kernel
theorem dX9_firstOfFewest_32 : decode cX9_firstOfFewest 32 = .ok (.invokestatic 33, 3) := by decide +kernel
theorem dX9_firstOfFewest_35 : decode cX9_firstOfFewest 35 = .ok (.ifCond .eq 20, 3) := by decide +kernel
theorem dX9_firstOfFewest_38 : decode cX9_firstOfFewest 38 = .ok (.aload_n 0, 1) := by decide +kernel
theorem dX9_firstOfFewest_39 : decode cX9_firstOfFewest 39 = .ok (.getfield 15, 3) := by decide +kernel
theorem dX9_firstOfFewest_42 : decode cX9_firstOfFewest 42 = .ok (.iload 5, 2) := by decide +kernel
theorem dX9_firstOfFewest_44 : decode cX9_firstOfFewest 44 = .ok (.iload_n 1, 1) := by decide +kernel
theorem dX9_firstOfFewest_45 : decode cX9_firstOfFewest 45 = .ok (.invokevirtual 37, 3) := by decide +kernel
theorem dX9_firstOfFewest_48 : decode cX9_firstOfFewest 48 = .ok (.ifCond .eq 7, 3) := by decide +kernel
theorem dX9_firstOfFewest_51 : decode cX9_firstOfFewest 51 = .ok (.iconst 1, 1) := by decide +kernel
theorem dX9_firstOfFewest_52 : decode cX9_firstOfFewest 52 = .ok (.goto 4, 3) := by decide +kernel
theorem dX9_firstOfFewest_55 : decode cX9_firstOfFewest 55 = .ok (.iconst 0, 1) := by decide +kernel
theorem dX9_firstOfFewest_56 : decode cX9_firstOfFewest 56 = .ok (.istore 6, 2) := by decide +kernel
theorem dX9_firstOfFewest_58 : decode cX9_firstOfFewest 58 = .ok (.iload 6, 2) := by decide +kernel
theorem dX9_firstOfFewest_60 : decode cX9_firstOfFewest 60 = .ok (.ifCond .eq 28, 3) := by decide +kernel
theorem dX9_firstOfFewest_63 : decode cX9_firstOfFewest 63 = .ok (.aload_n 0, 1) := by decide +kernel
theorem dX9_firstOfFewest_64 : decode cX9_firstOfFewest 64 = .ok (.getfield 9, 3) := by decide +kernel
theorem dX9_firstOfFewest_67 : decode cX9_firstOfFewest 67 = .ok (.aload_n 0, 1) := by decide +kernel
theorem dX9_firstOfFewest_68 : decode cX9_firstOfFewest 68 = .ok (.getfield 15, 3) := by decide +kernel
theorem dX9_firstOfFewest_71 : decode cX9_firstOfFewest 71 = .ok (.iload 5, 2) := by decide +kernel
theorem dX9_firstOfFewest_73 : decode cX9_firstOfFewest 73 = .ok (.iload_n 1, 1) := by decide +kernel
theorem dX9_firstOfFewest_74 : decode cX9_firstOfFewest 74 = .ok (.invokevirtual 40, 3) := by decide +kernel
theorem dX9_firstOfFewest_77 : decode cX9_firstOfFewest 77 = .ok (.iaload, 1) := by decide +kernel
theorem dX9_firstOfFewest_78 : decode cX9_firstOfFewest 78 = .ok (.iload 4, 2) := by decide +kernel
theorem dX9_firstOfFewest_80 : decode cX9_firstOfFewest 80 = .ok (.iconst 1, 1) := by decide +kernel
theorem dX9_firstOfFewest_81 : decode cX9_firstOfFewest 81 = .ok (.isub, 1) := by decide +kernel
theorem dX9_firstOfFewest_82 : decode cX9_firstOfFewest 82 = .ok (.if_icmp .ne 6, 3) := by decide +kernel
theorem dX9_firstOfFewest_85 : decode cX9_firstOfFewest 85 = .ok (.iload 5, 2) := by decide +kernel
theorem dX9_firstOfFewest_87 : decode cX9_firstOfFewest 87 = .ok (.ireturn, 1) := by decide +kernel
theorem dX9_firstOfFewest_88 : decode cX9_firstOfFewest 88 = .ok (.iinc 5 1, 3) := by decide +kernel
theorem dX9_firstOfFewest_91 : decode cX9_firstOfFewest 91 = .ok (.goto (-79), 3) := by decide +kernel
theorem dX9_firstOfFewest_94 : decode cX9_firstOfFewest 94 = .ok (.iconst (-1), 1) := by decide +kernel
theorem dX9_firstOfFewest_95 : decode cX9_firstOfFewest 95 = .ok (.ireturn, 1) := by decide +kernel
theorem dX9_measure_0 : decode cX9_measure 0 = .ok (.iconst 0, 1) := by decide +kernel
theorem dX9_measure_1 : decode cX9_measure 1 = .ok (.istore_n 3, 1) := by decide +kernel
theorem dX9_measure_2 : decode cX9_measure 2 = .ok (.iload_n 3, 1) := by decide +kernel
theorem dX9_measure_3 : decode cX9_measure 3 = .ok (.aload_n 0, 1) := by decide +kernel
theorem dX9_measure_4 : decode cX9_measure 4 = .ok (.getfield 15, 3) := by decide +kernel
theorem dX9_measure_7 : decode cX9_measure 7 = .ok (.getfield 44, 3) := by decide +kernel
theorem dX9_measure_10 : decode cX9_measure 10 = .ok (.if_icmp .ge 16, 3) := by decide +kernel
theorem dX9_measure_13 : decode cX9_measure 13 = .ok (.aload_n 0, 1) := by decide +kernel
theorem dX9_measure_14 : decode cX9_measure 14 = .ok (.getfield 9, 3) := by decide +kernel
theorem dX9_measure_17 : decode cX9_measure 17 = .ok (.iload_n 3, 1) := by decide +kernel
theorem dX9_measure_18 : decode cX9_measure 18 = .ok (.iconst (-1), 1) := by decide +kernel
theorem dX9_measure_19 : decode cX9_measure 19 = .ok (.iastore, 1) := by decide +kernel
theorem dX9_measure_20 : decode cX9_measure 20 = .ok (.iinc 3 1, 3) := by decide +kernel
theorem dX9_measure_23 : decode cX9_measure 23 = .ok (.goto (-21), 3) := by decide +kernel
theorem dX9_measure_26 : decode cX9_measure 26 = .ok (.aload_n 0, 1) := by decide +kernel
theorem dX9_measure_27 : decode cX9_measure 27 = .ok (.getfield 9, 3) := by decide +kernel
theorem dX9_measure_30 : decode cX9_measure 30 = .ok (.iload_n 1, 1) := by decide +kernel
theorem dX9_measure_31 : decode cX9_measure 31 = .ok (.iconst 0, 1) := by decide +kernel
theorem dX9_measure_32 : decode cX9_measure 32 = .ok (.iastore, 1) := by decide +kernel
theorem dX9_measure_33 : decode cX9_measure 33 = .ok (.iconst 0, 1) := by decide +kernel
theorem dX9_measure_34 : decode cX9_measure 34 = .ok (.istore_n 3, 1) := by decide +kernel
theorem dX9_measure_35 : decode cX9_measure 35 = .ok (.iload_n 3, 1) := by decide +kernel
theorem dX9_measure_36 : decode cX9_measure 36 = .ok (.aload_n 0, 1) := by decide +kernel
theorem dX9_measure_37 : decode cX9_measure 37 = .ok (.getfield 15, 3) := by decide +kernel
theorem dX9_measure_40 : decode cX9_measure 40 = .ok (.getfield 44, 3) := by decide +kernel
theorem dX9_measure_43 : decode cX9_measure 43 = .ok (.if_icmp .ge 89, 3) := by decide +kernel
theorem dX9_measure_46 : decode cX9_measure 46 = .ok (.iconst 0, 1) := by decide +kernel
theorem dX9_measure_47 : decode cX9_measure 47 = .ok (.istore 4, 2) := by decide +kernel
theorem dX9_measure_49 : decode cX9_measure 49 = .ok (.iload 4, 2) := by decide +kernel
theorem dX9_measure_51 : decode cX9_measure 51 = .ok (.aload_n 0, 1) := by decide +kernel
theorem dX9_measure_52 : decode cX9_measure 52 = .ok (.getfield 15, 3) := by decide +kernel
theorem dX9_measure_55 : decode cX9_measure 55 = .ok (.getfield 27, 3) := by decide +kernel
theorem dX9_measure_58 : decode cX9_measure 58 = .ok (.if_icmp .ge 68, 3) := by decide +kernel
theorem dX9_measure_61 : decode cX9_measure 61 = .ok (.iload 4, 2) := by decide +kernel
theorem dX9_measure_63 : decode cX9_measure 63 = .ok (.iload_n 2, 1) := by decide +kernel
theorem dX9_measure_64 : decode cX9_measure 64 = .ok (.invokestatic 33, 3) := by decide +kernel
theorem dX9_measure_67 : decode cX9_measure 67 = .ok (.ifCond .eq 53, 3) := by decide +kernel
theorem dX9_measure_70 : decode cX9_measure 70 = .ok (.aload_n 0, 1) := by decide +kernel
theorem dX9_measure_71 : decode cX9_measure 71 = .ok (.aload_n 0, 1) := by decide +kernel
theorem dX9_measure_72 : decode cX9_measure 72 = .ok (.getfield 15, 3) := by decide +kernel
theorem dX9_measure_75 : decode cX9_measure 75 = .ok (.getfield 47, 3) := by decide +kernel
theorem dX9_measure_78 : decode cX9_measure 78 = .ok (.iload 4, 2) := by decide +kernel
theorem dX9_measure_80 : decode cX9_measure 80 = .ok (.iaload, 1) := by decide +kernel
theorem dX9_measure_81 : decode cX9_measure 81 = .ok (.aload_n 0, 1) := by decide +kernel
theorem dX9_measure_82 : decode cX9_measure 82 = .ok (.getfield 15, 3) := by decide +kernel
theorem dX9_measure_85 : decode cX9_measure 85 = .ok (.getfield 50, 3) := by decide +kernel
theorem dX9_measure_88 : decode cX9_measure 88 = .ok (.iload 4, 2) := by decide +kernel
theorem dX9_measure_90 : decode cX9_measure 90 = .ok (.iaload, 1) := by decide +kernel
theorem dX9_measure_91 : decode cX9_measure 91 = .ok (.iload_n 3, 1) := by decide +kernel
theorem dX9_measure_92 : decode cX9_measure 92 = .ok (.invokevirtual 53, 3) := by decide +kernel
theorem dX9_measure_95 : decode cX9_measure 95 = .ok (.aload_n 0, 1) := by decide +kernel
theorem dX9_measure_96 : decode cX9_measure 96 = .ok (.aload_n 0, 1) := by decide +kernel
theorem dX9_measure_97 : decode cX9_measure 97 = .ok (.getfield 15, 3) := by decide +kernel
theorem dX9_measure_100 : decode cX9_measure 100 = .ok (.getfield 50, 3) := by decide +kernel
theorem dX9_measure_103 : decode cX9_measure 103 = .ok (.iload 4, 2) := by decide +kernel
theorem dX9_measure_105 : decode cX9_measure 105 = .ok (.iaload, 1) := by decide +kernel
theorem dX9_measure_106 : decode cX9_measure 106 = .ok (.aload_n 0, 1) := by decide +kernel
theorem dX9_measure_107 : decode cX9_measure 107 = .ok (.getfield 15, 3) := by decide +kernel
theorem dX9_measure_110 : decode cX9_measure 110 = .ok (.getfield 47, 3) := by decide +kernel
theorem dX9_measure_113 : decode cX9_measure 113 = .ok (.iload 4, 2) := by decide +kernel
theorem dX9_measure_115 : decode cX9_measure 115 = .ok (.iaload, 1) := by decide +kernel
theorem dX9_measure_116 : decode cX9_measure 116 = .ok (.iload_n 3, 1) := by decide +kernel
theorem dX9_measure_117 : decode cX9_measure 117 = .ok (.invokevirtual 53, 3) := by decide +kernel
theorem dX9_measure_120 : decode cX9_measure 120 = .ok (.iinc 4 1, 3) := by decide +kernel
theorem dX9_measure_123 : decode cX9_measure 123 = .ok (.goto (-74), 3) := by decide +kernel
theorem dX9_measure_126 : decode cX9_measure 126 = .ok (.iinc 3 1, 3) := by decide +kernel
theorem dX9_measure_129 : decode cX9_measure 129 = .ok (.goto (-94), 3) := by decide +kernel
theorem dX9_measure_132 : decode cX9_measure 132 = .ok (.return_, 1) := by decide +kernel
theorem dX9_spread_0 : decode cX9_spread 0 = .ok (.aload_n 0, 1) := by decide +kernel
theorem dX9_spread_1 : decode cX9_spread 1 = .ok (.getfield 9, 3) := by decide +kernel
theorem dX9_spread_4 : decode cX9_spread 4 = .ok (.iload_n 1, 1) := by decide +kernel
theorem dX9_spread_5 : decode cX9_spread 5 = .ok (.iaload, 1) := by decide +kernel
theorem dX9_spread_6 : decode cX9_spread 6 = .ok (.iload_n 3, 1) := by decide +kernel
theorem dX9_spread_7 : decode cX9_spread 7 = .ok (.if_icmp .ne 22, 3) := by decide +kernel
theorem dX9_spread_10 : decode cX9_spread 10 = .ok (.aload_n 0, 1) := by decide +kernel
theorem dX9_spread_11 : decode cX9_spread 11 = .ok (.getfield 9, 3) := by decide +kernel
theorem dX9_spread_14 : decode cX9_spread 14 = .ok (.iload_n 2, 1) := by decide +kernel
theorem dX9_spread_15 : decode cX9_spread 15 = .ok (.iaload, 1) := by decide +kernel
theorem dX9_spread_16 : decode cX9_spread 16 = .ok (.iconst (-1), 1) := by decide +kernel
theorem dX9_spread_17 : decode cX9_spread 17 = .ok (.if_icmp .ne 12, 3) := by decide +kernel
theorem dX9_spread_20 : decode cX9_spread 20 = .ok (.aload_n 0, 1) := by decide +kernel
theorem dX9_spread_21 : decode cX9_spread 21 = .ok (.getfield 9, 3) := by decide +kernel
theorem dX9_spread_24 : decode cX9_spread 24 = .ok (.iload_n 2, 1) := by decide +kernel
theorem dX9_spread_25 : decode cX9_spread 25 = .ok (.iload_n 3, 1) := by decide +kernel
theorem dX9_spread_26 : decode cX9_spread 26 = .ok (.iconst 1, 1) := by decide +kernel
theorem dX9_spread_27 : decode cX9_spread 27 = .ok (.iadd, 1) := by decide +kernel
theorem dX9_spread_28 : decode cX9_spread 28 = .ok (.iastore, 1) := by decide +kernel
theorem dX9_spread_29 : decode cX9_spread 29 = .ok (.return_, 1) := by decide +kernel
theorem dX9_findSafest_0 : decode cX9_findSafest 0 = .ok (.aload_n 0, 1) := by decide +kernel
theorem dX9_findSafest_1 : decode cX9_findSafest 1 = .ok (.iload_n 2, 1) := by decide +kernel
theorem dX9_findSafest_2 : decode cX9_findSafest 2 = .ok (.putfield 57, 3) := by decide +kernel
theorem dX9_findSafest_5 : decode cX9_findSafest 5 = .ok (.aload_n 0, 1) := by decide +kernel
theorem dX9_findSafest_6 : decode cX9_findSafest 6 = .ok (.iload_n 3, 1) := by decide +kernel
theorem dX9_findSafest_7 : decode cX9_findSafest 7 = .ok (.putfield 60, 3) := by decide +kernel
theorem dX9_findSafest_10 : decode cX9_findSafest 10 = .ok (.aload_n 0, 1) := by decide +kernel
theorem dX9_findSafest_11 : decode cX9_findSafest 11 = .ok (.iconst (-1), 1) := by decide +kernel
theorem dX9_findSafest_12 : decode cX9_findSafest 12 = .ok (.putfield 63, 3) := by decide +kernel
theorem dX9_findSafest_15 : decode cX9_findSafest 15 = .ok (.aload_n 0, 1) := by decide +kernel
theorem dX9_findSafest_16 : decode cX9_findSafest 16 = .ok (.iconst (-1), 1) := by decide +kernel
theorem dX9_findSafest_17 : decode cX9_findSafest 17 = .ok (.putfield 66, 3) := by decide +kernel
theorem dX9_findSafest_20 : decode cX9_findSafest 20 = .ok (.aload_n 0, 1) := by decide +kernel
theorem dX9_findSafest_21 : decode cX9_findSafest 21 = .ok (.iload_n 1, 1) := by decide +kernel
theorem dX9_findSafest_22 : decode cX9_findSafest 22 = .ok (.iconst 1, 1) := by decide +kernel
theorem dX9_findSafest_23 : decode cX9_findSafest 23 = .ok (.iload_n 1, 1) := by decide +kernel
theorem dX9_findSafest_24 : decode cX9_findSafest 24 = .ok (.ishl, 1) := by decide +kernel
theorem dX9_findSafest_25 : decode cX9_findSafest 25 = .ok (.ldc 69, 2) := by decide +kernel
theorem dX9_findSafest_27 : decode cX9_findSafest 27 = .ok (.iconst (-1), 1) := by decide +kernel
theorem dX9_findSafest_28 : decode cX9_findSafest 28 = .ok (.iconst 0, 1) := by decide +kernel
theorem dX9_findSafest_29 : decode cX9_findSafest 29 = .ok (.invokestatic 70, 3) := by decide +kernel
theorem dX9_findSafest_32 : decode cX9_findSafest 32 = .ok (.return_, 1) := by decide +kernel
theorem dX9_walk_0 : decode cX9_walk 0 = .ok (.iload_n 1, 1) := by decide +kernel
theorem dX9_walk_1 : decode cX9_walk 1 = .ok (.aload_n 0, 1) := by decide +kernel
theorem dX9_walk_2 : decode cX9_walk 2 = .ok (.getfield 57, 3) := by decide +kernel
theorem dX9_walk_5 : decode cX9_walk 5 = .ok (.if_icmp .ne 23, 3) := by decide +kernel
theorem dX9_walk_8 : decode cX9_walk 8 = .ok (.iload_n 3, 1) := by decide +kernel
theorem dX9_walk_9 : decode cX9_walk 9 = .ok (.aload_n 0, 1) := by decide +kernel
theorem dX9_walk_10 : decode cX9_walk 10 = .ok (.getfield 63, 3) := by decide +kernel
theorem dX9_walk_13 : decode cX9_walk 13 = .ok (.if_icmp .le 14, 3) := by decide +kernel
theorem dX9_walk_16 : decode cX9_walk 16 = .ok (.aload_n 0, 1) := by decide +kernel
theorem dX9_walk_17 : decode cX9_walk 17 = .ok (.iload_n 3, 1) := by decide +kernel
theorem dX9_walk_18 : decode cX9_walk 18 = .ok (.putfield 63, 3) := by decide +kernel
theorem dX9_walk_21 : decode cX9_walk 21 = .ok (.aload_n 0, 1) := by decide +kernel
theorem dX9_walk_22 : decode cX9_walk 22 = .ok (.iload 4, 2) := by decide +kernel
theorem dX9_walk_24 : decode cX9_walk 24 = .ok (.putfield 66, 3) := by decide +kernel
theorem dX9_walk_27 : decode cX9_walk 27 = .ok (.return_, 1) := by decide +kernel
theorem dX9_walk_28 : decode cX9_walk 28 = .ok (.aload_n 0, 1) := by decide +kernel
theorem dX9_walk_29 : decode cX9_walk 29 = .ok (.getfield 15, 3) := by decide +kernel
theorem dX9_walk_32 : decode cX9_walk 32 = .ok (.astore 6, 2) := by decide +kernel
theorem dX9_walk_34 : decode cX9_walk 34 = .ok (.iconst 0, 1) := by decide +kernel
theorem dX9_walk_35 : decode cX9_walk 35 = .ok (.istore 7, 2) := by decide +kernel
theorem dX9_walk_37 : decode cX9_walk 37 = .ok (.iload 7, 2) := by decide +kernel
theorem dX9_walk_39 : decode cX9_walk 39 = .ok (.aload 6, 2) := by decide +kernel
theorem dX9_walk_41 : decode cX9_walk 41 = .ok (.getfield 27, 3) := by decide +kernel
theorem dX9_walk_44 : decode cX9_walk 44 = .ok (.if_icmp .ge 109, 3) := by decide +kernel
theorem dX9_walk_47 : decode cX9_walk 47 = .ok (.iload 5, 2) := by decide +kernel
theorem dX9_walk_49 : decode cX9_walk 49 = .ok (.bipush 8, 2) := by decide +kernel
theorem dX9_walk_51 : decode cX9_walk 51 = .ok (.if_icmp .ge 102, 3) := by decide +kernel
theorem dX9_walk_54 : decode cX9_walk 54 = .ok (.iload 7, 2) := by decide +kernel
theorem dX9_walk_56 : decode cX9_walk 56 = .ok (.aload_n 0, 1) := by decide +kernel
theorem dX9_walk_57 : decode cX9_walk 57 = .ok (.getfield 60, 3) := by decide +kernel
theorem dX9_walk_60 : decode cX9_walk 60 = .ok (.invokestatic 33, 3) := by decide +kernel
theorem dX9_walk_63 : decode cX9_walk 63 = .ok (.ifCond .eq 84, 3) := by decide +kernel
theorem dX9_walk_66 : decode cX9_walk 66 = .ok (.aload 6, 2) := by decide +kernel
theorem dX9_walk_68 : decode cX9_walk 68 = .ok (.iload 7, 2) := by decide +kernel
theorem dX9_walk_70 : decode cX9_walk 70 = .ok (.iload_n 1, 1) := by decide +kernel
theorem dX9_walk_71 : decode cX9_walk 71 = .ok (.invokevirtual 37, 3) := by decide +kernel
theorem dX9_walk_74 : decode cX9_walk 74 = .ok (.ifCond .ne 6, 3) := by decide +kernel
theorem dX9_walk_77 : decode cX9_walk 77 = .ok (.goto 70, 3) := by decide +kernel
theorem dX9_walk_80 : decode cX9_walk 80 = .ok (.aload 6, 2) := by decide +kernel
theorem dX9_walk_82 : decode cX9_walk 82 = .ok (.iload 7, 2) := by decide +kernel
theorem dX9_walk_84 : decode cX9_walk 84 = .ok (.iload_n 1, 1) := by decide +kernel
theorem dX9_walk_85 : decode cX9_walk 85 = .ok (.invokevirtual 40, 3) := by decide +kernel
theorem dX9_walk_88 : decode cX9_walk 88 = .ok (.istore 8, 2) := by decide +kernel
theorem dX9_walk_90 : decode cX9_walk 90 = .ok (.iload 8, 2) := by decide +kernel
theorem dX9_walk_92 : decode cX9_walk 92 = .ok (.iload_n 2, 1) := by decide +kernel
theorem dX9_walk_93 : decode cX9_walk 93 = .ok (.invokestatic 33, 3) := by decide +kernel
theorem dX9_walk_96 : decode cX9_walk 96 = .ok (.ifCond .ne 51, 3) := by decide +kernel
theorem dX9_walk_99 : decode cX9_walk 99 = .ok (.iload_n 3, 1) := by decide +kernel
theorem dX9_walk_100 : decode cX9_walk 100 = .ok (.bipush 100, 2) := by decide +kernel
theorem dX9_walk_102 : decode cX9_walk 102 = .ok (.aload 6, 2) := by decide +kernel
theorem dX9_walk_104 : decode cX9_walk 104 = .ok (.getfield 74, 3) := by decide +kernel
theorem dX9_walk_107 : decode cX9_walk 107 = .ok (.iload 7, 2) := by decide +kernel
theorem dX9_walk_109 : decode cX9_walk 109 = .ok (.iaload, 1) := by decide +kernel
theorem dX9_walk_110 : decode cX9_walk 110 = .ok (.isub, 1) := by decide +kernel
theorem dX9_walk_111 : decode cX9_walk 111 = .ok (.invokestatic 77, 3) := by decide +kernel
theorem dX9_walk_114 : decode cX9_walk 114 = .ok (.istore 9, 2) := by decide +kernel
theorem dX9_walk_116 : decode cX9_walk 116 = .ok (.aload_n 0, 1) := by decide +kernel
theorem dX9_walk_117 : decode cX9_walk 117 = .ok (.iload 8, 2) := by decide +kernel
theorem dX9_walk_119 : decode cX9_walk 119 = .ok (.iload_n 2, 1) := by decide +kernel
theorem dX9_walk_120 : decode cX9_walk 120 = .ok (.iconst 1, 1) := by decide +kernel
theorem dX9_walk_121 : decode cX9_walk 121 = .ok (.iload 8, 2) := by decide +kernel
theorem dX9_walk_123 : decode cX9_walk 123 = .ok (.ishl, 1) := by decide +kernel
theorem dX9_walk_124 : decode cX9_walk 124 = .ok (.ior, 1) := by decide +kernel
theorem dX9_walk_125 : decode cX9_walk 125 = .ok (.iload 9, 2) := by decide +kernel
theorem dX9_walk_127 : decode cX9_walk 127 = .ok (.iload 4, 2) := by decide +kernel
theorem dX9_walk_129 : decode cX9_walk 129 = .ok (.iconst (-1), 1) := by decide +kernel
theorem dX9_walk_130 : decode cX9_walk 130 = .ok (.if_icmp .ne 8, 3) := by decide +kernel
theorem dX9_walk_133 : decode cX9_walk 133 = .ok (.iload 7, 2) := by decide +kernel
theorem dX9_walk_135 : decode cX9_walk 135 = .ok (.goto 5, 3) := by decide +kernel
theorem dX9_walk_138 : decode cX9_walk 138 = .ok (.iload 4, 2) := by decide +kernel
theorem dX9_walk_140 : decode cX9_walk 140 = .ok (.iload 5, 2) := by decide +kernel
theorem dX9_walk_142 : decode cX9_walk 142 = .ok (.iconst 1, 1) := by decide +kernel
theorem dX9_walk_143 : decode cX9_walk 143 = .ok (.iadd, 1) := by decide +kernel
theorem dX9_walk_144 : decode cX9_walk 144 = .ok (.invokestatic 70, 3) := by decide +kernel
theorem dX9_walk_147 : decode cX9_walk 147 = .ok (.iinc 7 1, 3) := by decide +kernel
theorem dX9_walk_150 : decode cX9_walk 150 = .ok (.goto (-113), 3) := by decide +kernel
theorem dX9_walk_153 : decode cX9_walk 153 = .ok (.return_, 1) := by decide +kernel
theorem dX9_bottles_0 : decode cX9_bottles 0 = .ok (.iconst 0, 1) := by decide +kernel
theorem dX9_bottles_1 : decode cX9_bottles 1 = .ok (.istore_n 1, 1) := by decide +kernel
theorem dX9_bottles_2 : decode cX9_bottles 2 = .ok (.iconst 0, 1) := by decide +kernel
theorem dX9_bottles_3 : decode cX9_bottles 3 = .ok (.istore_n 2, 1) := by decide +kernel
theorem dX9_bottles_4 : decode cX9_bottles 4 = .ok (.iload_n 2, 1) := by decide +kernel
theorem dX9_bottles_5 : decode cX9_bottles 5 = .ok (.aload_n 0, 1) := by decide +kernel
theorem dX9_bottles_6 : decode cX9_bottles 6 = .ok (.getfield 15, 3) := by decide +kernel
theorem dX9_bottles_9 : decode cX9_bottles 9 = .ok (.getfield 27, 3) := by decide +kernel
theorem dX9_bottles_12 : decode cX9_bottles 12 = .ok (.if_icmp .ge 56, 3) := by decide +kernel
theorem dX9_bottles_15 : decode cX9_bottles 15 = .ok (.aload_n 0, 1) := by decide +kernel
theorem dX9_bottles_16 : decode cX9_bottles 16 = .ok (.getfield 15, 3) := by decide +kernel
theorem dX9_bottles_19 : decode cX9_bottles 19 = .ok (.invokevirtual 80, 3) := by decide +kernel
theorem dX9_bottles_22 : decode cX9_bottles 22 = .ok (.iconst 1, 1) := by decide +kernel
theorem dX9_bottles_23 : decode cX9_bottles 23 = .ok (.iload_n 2, 1) := by decide +kernel
theorem dX9_bottles_24 : decode cX9_bottles 24 = .ok (.ishl, 1) := by decide +kernel
theorem dX9_bottles_25 : decode cX9_bottles 25 = .ok (.iconst (-1), 1) := by decide +kernel
theorem dX9_bottles_26 : decode cX9_bottles 26 = .ok (.ixor, 1) := by decide +kernel
theorem dX9_bottles_27 : decode cX9_bottles 27 = .ok (.iand, 1) := by decide +kernel
theorem dX9_bottles_28 : decode cX9_bottles 28 = .ok (.istore_n 3, 1) := by decide +kernel
theorem dX9_bottles_29 : decode cX9_bottles 29 = .ok (.aload_n 0, 1) := by decide +kernel
theorem dX9_bottles_30 : decode cX9_bottles 30 = .ok (.aload_n 0, 1) := by decide +kernel
theorem dX9_bottles_31 : decode cX9_bottles 31 = .ok (.getfield 15, 3) := by decide +kernel
theorem dX9_bottles_34 : decode cX9_bottles 34 = .ok (.getfield 47, 3) := by decide +kernel
theorem dX9_bottles_37 : decode cX9_bottles 37 = .ok (.iload_n 2, 1) := by decide +kernel
theorem dX9_bottles_38 : decode cX9_bottles 38 = .ok (.iaload, 1) := by decide +kernel
theorem dX9_bottles_39 : decode cX9_bottles 39 = .ok (.aload_n 0, 1) := by decide +kernel
theorem dX9_bottles_40 : decode cX9_bottles 40 = .ok (.getfield 15, 3) := by decide +kernel
theorem dX9_bottles_43 : decode cX9_bottles 43 = .ok (.getfield 50, 3) := by decide +kernel
theorem dX9_bottles_46 : decode cX9_bottles 46 = .ok (.iload_n 2, 1) := by decide +kernel
theorem dX9_bottles_47 : decode cX9_bottles 47 = .ok (.iaload, 1) := by decide +kernel
theorem dX9_bottles_48 : decode cX9_bottles 48 = .ok (.iload_n 3, 1) := by decide +kernel
theorem dX9_bottles_49 : decode cX9_bottles 49 = .ok (.invokevirtual 23, 3) := by decide +kernel
theorem dX9_bottles_52 : decode cX9_bottles 52 = .ok (.iconst (-1), 1) := by decide +kernel
theorem dX9_bottles_53 : decode cX9_bottles 53 = .ok (.if_icmp .ne 9, 3) := by decide +kernel
theorem dX9_bottles_56 : decode cX9_bottles 56 = .ok (.iload_n 1, 1) := by decide +kernel
theorem dX9_bottles_57 : decode cX9_bottles 57 = .ok (.iconst 1, 1) := by decide +kernel
theorem dX9_bottles_58 : decode cX9_bottles 58 = .ok (.iload_n 2, 1) := by decide +kernel
theorem dX9_bottles_59 : decode cX9_bottles 59 = .ok (.ishl, 1) := by decide +kernel
theorem dX9_bottles_60 : decode cX9_bottles 60 = .ok (.ior, 1) := by decide +kernel
theorem dX9_bottles_61 : decode cX9_bottles 61 = .ok (.istore_n 1, 1) := by decide +kernel
theorem dX9_bottles_62 : decode cX9_bottles 62 = .ok (.iinc 2 1, 3) := by decide +kernel
theorem dX9_bottles_65 : decode cX9_bottles 65 = .ok (.goto (-61), 3) := by decide +kernel
theorem dX9_bottles_68 : decode cX9_bottles 68 = .ok (.iload_n 1, 1) := by decide +kernel
theorem dX9_bottles_69 : decode cX9_bottles 69 = .ok (.ireturn, 1) := by decide +kernel
theorem dX9_farthest_0 : decode cX9_farthest 0 = .ok (.iconst 0, 1) := by decide +kernel
theorem dX9_farthest_1 : decode cX9_farthest 1 = .ok (.istore_n 1, 1) := by decide +kernel
theorem dX9_farthest_2 : decode cX9_farthest 2 = .ok (.iconst 0, 1) := by decide +kernel
theorem dX9_farthest_3 : decode cX9_farthest 3 = .ok (.istore_n 2, 1) := by decide +kernel
theorem dX9_farthest_4 : decode cX9_farthest 4 = .ok (.iload_n 2, 1) := by decide +kernel
theorem dX9_farthest_5 : decode cX9_farthest 5 = .ok (.aload_n 0, 1) := by decide +kernel
theorem dX9_farthest_6 : decode cX9_farthest 6 = .ok (.getfield 15, 3) := by decide +kernel
theorem dX9_farthest_9 : decode cX9_farthest 9 = .ok (.getfield 44, 3) := by decide +kernel
theorem dX9_farthest_12 : decode cX9_farthest 12 = .ok (.if_icmp .ge 51, 3) := by decide +kernel
theorem dX9_farthest_15 : decode cX9_farthest 15 = .ok (.aload_n 0, 1) := by decide +kernel
theorem dX9_farthest_16 : decode cX9_farthest 16 = .ok (.iload_n 2, 1) := by decide +kernel
theorem dX9_farthest_17 : decode cX9_farthest 17 = .ok (.aload_n 0, 1) := by decide +kernel
theorem dX9_farthest_18 : decode cX9_farthest 18 = .ok (.getfield 15, 3) := by decide +kernel
theorem dX9_farthest_21 : decode cX9_farthest 21 = .ok (.invokevirtual 80, 3) := by decide +kernel
theorem dX9_farthest_24 : decode cX9_farthest 24 = .ok (.invokevirtual 19, 3) := by decide +kernel
theorem dX9_farthest_27 : decode cX9_farthest 27 = .ok (.iconst 0, 1) := by decide +kernel
theorem dX9_farthest_28 : decode cX9_farthest 28 = .ok (.istore_n 3, 1) := by decide +kernel
theorem dX9_farthest_29 : decode cX9_farthest 29 = .ok (.iload_n 3, 1) := by decide +kernel
theorem dX9_farthest_30 : decode cX9_farthest 30 = .ok (.aload_n 0, 1) := by decide +kernel
theorem dX9_farthest_31 : decode cX9_farthest 31 = .ok (.getfield 15, 3) := by decide +kernel
theorem dX9_farthest_34 : decode cX9_farthest 34 = .ok (.getfield 44, 3) := by decide +kernel
theorem dX9_farthest_37 : decode cX9_farthest 37 = .ok (.if_icmp .ge 20, 3) := by decide +kernel
theorem dX9_farthest_40 : decode cX9_farthest 40 = .ok (.iload_n 1, 1) := by decide +kernel
theorem dX9_farthest_41 : decode cX9_farthest 41 = .ok (.aload_n 0, 1) := by decide +kernel
theorem dX9_farthest_42 : decode cX9_farthest 42 = .ok (.getfield 9, 3) := by decide +kernel
theorem dX9_farthest_45 : decode cX9_farthest 45 = .ok (.iload_n 3, 1) := by decide +kernel
theorem dX9_farthest_46 : decode cX9_farthest 46 = .ok (.iaload, 1) := by decide +kernel
theorem dX9_farthest_47 : decode cX9_farthest 47 = .ok (.invokestatic 84, 3) := by decide +kernel
theorem dX9_farthest_50 : decode cX9_farthest 50 = .ok (.istore_n 1, 1) := by decide +kernel
theorem dX9_farthest_51 : decode cX9_farthest 51 = .ok (.iinc 3 1, 3) := by decide +kernel
theorem dX9_farthest_54 : decode cX9_farthest 54 = .ok (.goto (-25), 3) := by decide +kernel
theorem dX9_farthest_57 : decode cX9_farthest 57 = .ok (.iinc 2 1, 3) := by decide +kernel
theorem dX9_farthest_60 : decode cX9_farthest 60 = .ok (.goto (-56), 3) := by decide +kernel
theorem dX9_farthest_63 : decode cX9_farthest 63 = .ok (.iload_n 1, 1) := by decide +kernel
theorem dX9_farthest_64 : decode cX9_farthest 64 = .ok (.ireturn, 1) := by decide +kernel
theorem dX9_fewestParting_0 : decode cX9_fewestParting 0 = .ok (.aload_n 0, 1) := by decide +kernel
theorem dX9_fewestParting_1 : decode cX9_fewestParting 1 = .ok (.getfield 15, 3) := by decide +kernel
theorem dX9_fewestParting_4 : decode cX9_fewestParting 4 = .ok (.invokevirtual 80, 3) := by decide +kernel
theorem dX9_fewestParting_7 : decode cX9_fewestParting 7 = .ok (.istore_n 3, 1) := by decide +kernel
theorem dX9_fewestParting_8 : decode cX9_fewestParting 8 = .ok (.iconst 0, 1) := by decide +kernel
theorem dX9_fewestParting_9 : decode cX9_fewestParting 9 = .ok (.istore 4, 2) := by decide +kernel
theorem dX9_fewestParting_11 : decode cX9_fewestParting 11 = .ok (.iload 4, 2) := by decide +kernel
theorem dX9_fewestParting_13 : decode cX9_fewestParting 13 = .ok (.aload_n 0, 1) := by decide +kernel
theorem dX9_fewestParting_14 : decode cX9_fewestParting 14 = .ok (.getfield 15, 3) := by decide +kernel
theorem dX9_fewestParting_17 : decode cX9_fewestParting 17 = .ok (.getfield 27, 3) := by decide +kernel
theorem dX9_fewestParting_20 : decode cX9_fewestParting 20 = .ok (.if_icmp .ge 53, 3) := by decide +kernel
theorem dX9_fewestParting_23 : decode cX9_fewestParting 23 = .ok (.iconst 0, 1) := by decide +kernel
theorem dX9_fewestParting_24 : decode cX9_fewestParting 24 = .ok (.istore 5, 2) := by decide +kernel
theorem dX9_fewestParting_26 : decode cX9_fewestParting 26 = .ok (.iload 5, 2) := by decide +kernel
theorem dX9_fewestParting_28 : decode cX9_fewestParting 28 = .ok (.iload_n 3, 1) := by decide +kernel
theorem dX9_fewestParting_29 : decode cX9_fewestParting 29 = .ok (.if_icmp .ge 38, 3) := by decide +kernel
theorem dX9_fewestParting_32 : decode cX9_fewestParting 32 = .ok (.iload 5, 2) := by decide +kernel
theorem dX9_fewestParting_34 : decode cX9_fewestParting 34 = .ok (.invokestatic 89, 3) := by decide +kernel
theorem dX9_fewestParting_37 : decode cX9_fewestParting 37 = .ok (.iload 4, 2) := by decide +kernel
theorem dX9_fewestParting_39 : decode cX9_fewestParting 39 = .ok (.if_icmp .ne 22, 3) := by decide +kernel
theorem dX9_fewestParting_42 : decode cX9_fewestParting 42 = .ok (.aload_n 0, 1) := by decide +kernel
theorem dX9_fewestParting_43 : decode cX9_fewestParting 43 = .ok (.iload_n 1, 1) := by decide +kernel
theorem dX9_fewestParting_44 : decode cX9_fewestParting 44 = .ok (.iload_n 2, 1) := by decide +kernel
theorem dX9_fewestParting_45 : decode cX9_fewestParting 45 = .ok (.iload_n 3, 1) := by decide +kernel
theorem dX9_fewestParting_46 : decode cX9_fewestParting 46 = .ok (.iload 5, 2) := by decide +kernel
theorem dX9_fewestParting_48 : decode cX9_fewestParting 48 = .ok (.iconst (-1), 1) := by decide +kernel
theorem dX9_fewestParting_49 : decode cX9_fewestParting 49 = .ok (.ixor, 1) := by decide +kernel
theorem dX9_fewestParting_50 : decode cX9_fewestParting 50 = .ok (.iand, 1) := by decide +kernel
theorem dX9_fewestParting_51 : decode cX9_fewestParting 51 = .ok (.invokevirtual 23, 3) := by decide +kernel
theorem dX9_fewestParting_54 : decode cX9_fewestParting 54 = .ok (.iconst (-1), 1) := by decide +kernel
theorem dX9_fewestParting_55 : decode cX9_fewestParting 55 = .ok (.if_icmp .ne 6, 3) := by decide +kernel
theorem dX9_fewestParting_58 : decode cX9_fewestParting 58 = .ok (.iload 5, 2) := by decide +kernel
theorem dX9_fewestParting_60 : decode cX9_fewestParting 60 = .ok (.ireturn, 1) := by decide +kernel
theorem dX9_fewestParting_61 : decode cX9_fewestParting 61 = .ok (.iinc 5 1, 3) := by decide +kernel
theorem dX9_fewestParting_64 : decode cX9_fewestParting 64 = .ok (.goto (-38), 3) := by decide +kernel
theorem dX9_fewestParting_67 : decode cX9_fewestParting 67 = .ok (.iinc 4 1, 3) := by decide +kernel
theorem dX9_fewestParting_70 : decode cX9_fewestParting 70 = .ok (.goto (-59), 3) := by decide +kernel
theorem dX9_fewestParting_73 : decode cX9_fewestParting 73 = .ok (.iload_n 3, 1) := by decide +kernel
theorem dX9_fewestParting_74 : decode cX9_fewestParting 74 = .ok (.ireturn, 1) := by decide +kernel
theorem dX9_isIn_0 : decode cX9_isIn 0 = .ok (.iload_n 1, 1) := by decide +kernel
theorem dX9_isIn_1 : decode cX9_isIn 1 = .ok (.iload_n 0, 1) := by decide +kernel
theorem dX9_isIn_2 : decode cX9_isIn 2 = .ok (.ishr, 1) := by decide +kernel
theorem dX9_isIn_3 : decode cX9_isIn 3 = .ok (.iconst 1, 1) := by decide +kernel
theorem dX9_isIn_4 : decode cX9_isIn 4 = .ok (.iand, 1) := by decide +kernel
theorem dX9_isIn_5 : decode cX9_isIn 5 = .ok (.iconst 1, 1) := by decide +kernel
theorem dX9_isIn_6 : decode cX9_isIn 6 = .ok (.if_icmp .ne 7, 3) := by decide +kernel
theorem dX9_isIn_9 : decode cX9_isIn 9 = .ok (.iconst 1, 1) := by decide +kernel
theorem dX9_isIn_10 : decode cX9_isIn 10 = .ok (.goto 4, 3) := by decide +kernel
theorem dX9_isIn_13 : decode cX9_isIn 13 = .ok (.iconst 0, 1) := by decide +kernel
theorem dX9_isIn_14 : decode cX9_isIn 14 = .ok (.ireturn, 1) := by decide +kernel
