theorem dX3_search_0 : decode cX3_search 0 = .ok (.aload_n 0, 1) := by decide +kernel
theorem dX3_search_1 : decode cX3_search 1 = .ok (.ldc 15, 2) := by decide +kernel
theorem dX3_search_3 : decode cX3_search 3 = .ok (.putfield 16, 3) := by decide +kernel
theorem dX3_search_6 : decode cX3_search 6 = .ok (.aload_n 0, 1) := by decide +kernel
theorem dX3_search_7 : decode cX3_search 7 = .ok (.iconst 0, 1) := by decide +kernel
theorem dX3_search_8 : decode cX3_search 8 = .ok (.putfield 20, 3) := by decide +kernel
theorem dX3_search_11 : decode cX3_search 11 = .ok (.aload_n 0, 1) := by decide +kernel
theorem dX3_search_12 : decode cX3_search 12 = .ok (.iconst 1, 1) := by decide +kernel
theorem dX3_search_13 : decode cX3_search 13 = .ok (.iload_n 1, 1) := by decide +kernel
theorem dX3_search_14 : decode cX3_search 14 = .ok (.ishl, 1) := by decide +kernel
theorem dX3_search_15 : decode cX3_search 15 = .ok (.iconst 1, 1) := by decide +kernel
theorem dX3_search_16 : decode cX3_search 16 = .ok (.isub, 1) := by decide +kernel
theorem dX3_search_17 : decode cX3_search 17 = .ok (.iload_n 1, 1) := by decide +kernel
theorem dX3_search_18 : decode cX3_search 18 = .ok (.iload_n 2, 1) := by decide +kernel
theorem dX3_search_19 : decode cX3_search 19 = .ok (.invokevirtual 23, 3) := by decide +kernel
theorem dX3_search_22 : decode cX3_search 22 = .ok (.ifCond .ne 4, 3) := by decide +kernel
theorem dX3_search_25 : decode cX3_search 25 = .ok (.return_, 1) := by decide +kernel
theorem dX3_search_26 : decode cX3_search 26 = .ok (.iload_n 1, 1) := by decide +kernel
theorem dX3_search_27 : decode cX3_search 27 = .ok (.iconst 1, 1) := by decide +kernel
theorem dX3_search_28 : decode cX3_search 28 = .ok (.iadd, 1) := by decide +kernel
theorem dX3_search_29 : decode cX3_search 29 = .ok (.istore_n 3, 1) := by decide +kernel
theorem dX3_search_30 : decode cX3_search 30 = .ok (.iconst 0, 1) := by decide +kernel
theorem dX3_search_31 : decode cX3_search 31 = .ok (.istore 4, 2) := by decide +kernel
theorem dX3_search_33 : decode cX3_search 33 = .ok (.iload 4, 2) := by decide +kernel
theorem dX3_search_35 : decode cX3_search 35 = .ok (.iconst 1, 1) := by decide +kernel
theorem dX3_search_36 : decode cX3_search 36 = .ok (.iload_n 1, 1) := by decide +kernel
theorem dX3_search_37 : decode cX3_search 37 = .ok (.ishl, 1) := by decide +kernel
theorem dX3_search_38 : decode cX3_search 38 = .ok (.if_icmp .ge 68, 3) := by decide +kernel
theorem dX3_search_41 : decode cX3_search 41 = .ok (.iload 4, 2) := by decide +kernel
theorem dX3_search_43 : decode cX3_search 43 = .ok (.invokestatic 27, 3) := by decide +kernel
theorem dX3_search_46 : decode cX3_search 46 = .ok (.istore 5, 2) := by decide +kernel
theorem dX3_search_48 : decode cX3_search 48 = .ok (.iload 5, 2) := by decide +kernel
theorem dX3_search_50 : decode cX3_search 50 = .ok (.iload_n 3, 1) := by decide +kernel
theorem dX3_search_51 : decode cX3_search 51 = .ok (.if_icmp .gt 49, 3) := by decide +kernel
theorem dX3_search_54 : decode cX3_search 54 = .ok (.aload_n 0, 1) := by decide +kernel
theorem dX3_search_55 : decode cX3_search 55 = .ok (.iload 4, 2) := by decide +kernel
theorem dX3_search_57 : decode cX3_search 57 = .ok (.iload_n 1, 1) := by decide +kernel
theorem dX3_search_58 : decode cX3_search 58 = .ok (.iload_n 2, 1) := by decide +kernel
theorem dX3_search_59 : decode cX3_search 59 = .ok (.invokevirtual 23, 3) := by decide +kernel
theorem dX3_search_62 : decode cX3_search 62 = .ok (.ifCond .eq 38, 3) := by decide +kernel
theorem dX3_search_65 : decode cX3_search 65 = .ok (.iload 5, 2) := by decide +kernel
theorem dX3_search_67 : decode cX3_search 67 = .ok (.iload_n 3, 1) := by decide +kernel
theorem dX3_search_68 : decode cX3_search 68 = .ok (.if_icmp .ge 21, 3) := by decide +kernel
theorem dX3_search_71 : decode cX3_search 71 = .ok (.iload 5, 2) := by decide +kernel
theorem dX3_search_73 : decode cX3_search 73 = .ok (.istore_n 3, 1) := by decide +kernel
theorem dX3_search_74 : decode cX3_search 74 = .ok (.aload_n 0, 1) := by decide +kernel
theorem dX3_search_75 : decode cX3_search 75 = .ok (.iload 4, 2) := by decide +kernel
theorem dX3_search_77 : decode cX3_search 77 = .ok (.putfield 16, 3) := by decide +kernel
theorem dX3_search_80 : decode cX3_search 80 = .ok (.aload_n 0, 1) := by decide +kernel
theorem dX3_search_81 : decode cX3_search 81 = .ok (.iload 4, 2) := by decide +kernel
theorem dX3_search_83 : decode cX3_search 83 = .ok (.putfield 20, 3) := by decide +kernel
theorem dX3_search_86 : decode cX3_search 86 = .ok (.goto 14, 3) := by decide +kernel
theorem dX3_search_89 : decode cX3_search 89 = .ok (.aload_n 0, 1) := by decide +kernel
theorem dX3_search_90 : decode cX3_search 90 = .ok (.dup, 1) := by decide +kernel
theorem dX3_search_91 : decode cX3_search 91 = .ok (.getfield 20, 3) := by decide +kernel
theorem dX3_search_94 : decode cX3_search 94 = .ok (.iload 4, 2) := by decide +kernel
theorem dX3_search_96 : decode cX3_search 96 = .ok (.iand, 1) := by decide +kernel
theorem dX3_search_97 : decode cX3_search 97 = .ok (.putfield 20, 3) := by decide +kernel
theorem dX3_search_100 : decode cX3_search 100 = .ok (.iinc 4 1, 3) := by decide +kernel
theorem dX3_search_103 : decode cX3_search 103 = .ok (.goto (-70), 3) := by decide +kernel
theorem dX3_search_106 : decode cX3_search 106 = .ok (.return_, 1) := by decide +kernel
theorem dX3_anyUse_0 : decode cX3_anyUse 0 = .ok (.iconst 0, 1) := by decide +kernel
theorem dX3_anyUse_1 : decode cX3_anyUse 1 = .ok (.istore_n 2, 1) := by decide +kernel
theorem dX3_anyUse_2 : decode cX3_anyUse 2 = .ok (.iconst 0, 1) := by decide +kernel
theorem dX3_anyUse_3 : decode cX3_anyUse 3 = .ok (.istore_n 3, 1) := by decide +kernel
theorem dX3_anyUse_4 : decode cX3_anyUse 4 = .ok (.iload_n 3, 1) := by decide +kernel
theorem dX3_anyUse_5 : decode cX3_anyUse 5 = .ok (.iload_n 1, 1) := by decide +kernel
theorem dX3_anyUse_6 : decode cX3_anyUse 6 = .ok (.if_icmp .ge 24, 3) := by decide +kernel
theorem dX3_anyUse_9 : decode cX3_anyUse 9 = .ok (.aload_n 0, 1) := by decide +kernel
theorem dX3_anyUse_10 : decode cX3_anyUse 10 = .ok (.getfield 11, 3) := by decide +kernel
theorem dX3_anyUse_13 : decode cX3_anyUse 13 = .ok (.iload_n 3, 1) := by decide +kernel
theorem dX3_anyUse_14 : decode cX3_anyUse 14 = .ok (.iaload, 1) := by decide +kernel
theorem dX3_anyUse_15 : decode cX3_anyUse 15 = .ok (.ifCond .eq 9, 3) := by decide +kernel
theorem dX3_anyUse_18 : decode cX3_anyUse 18 = .ok (.iload_n 2, 1) := by decide +kernel
theorem dX3_anyUse_19 : decode cX3_anyUse 19 = .ok (.iconst 1, 1) := by decide +kernel
theorem dX3_anyUse_20 : decode cX3_anyUse 20 = .ok (.iload_n 3, 1) := by decide +kernel
theorem dX3_anyUse_21 : decode cX3_anyUse 21 = .ok (.ishl, 1) := by decide +kernel
theorem dX3_anyUse_22 : decode cX3_anyUse 22 = .ok (.ior, 1) := by decide +kernel
theorem dX3_anyUse_23 : decode cX3_anyUse 23 = .ok (.istore_n 2, 1) := by decide +kernel
theorem dX3_anyUse_24 : decode cX3_anyUse 24 = .ok (.iinc 3 1, 3) := by decide +kernel
theorem dX3_anyUse_27 : decode cX3_anyUse 27 = .ok (.goto (-23), 3) := by decide +kernel
theorem dX3_anyUse_30 : decode cX3_anyUse 30 = .ok (.iload_n 2, 1) := by decide +kernel
theorem dX3_anyUse_31 : decode cX3_anyUse 31 = .ok (.ireturn, 1) := by decide +kernel
theorem dX3_doCover_0 : decode cX3_doCover 0 = .ok (.iload_n 3, 1) := by decide +kernel
theorem dX3_doCover_1 : decode cX3_doCover 1 = .ok (.istore 4, 2) := by decide +kernel
theorem dX3_doCover_3 : decode cX3_doCover 3 = .ok (.iconst 0, 1) := by decide +kernel
theorem dX3_doCover_4 : decode cX3_doCover 4 = .ok (.istore 5, 2) := by decide +kernel
theorem dX3_doCover_6 : decode cX3_doCover 6 = .ok (.iload 5, 2) := by decide +kernel
theorem dX3_doCover_8 : decode cX3_doCover 8 = .ok (.iload_n 2, 1) := by decide +kernel
theorem dX3_doCover_9 : decode cX3_doCover 9 = .ok (.if_icmp .ge 33, 3) := by decide +kernel
theorem dX3_doCover_12 : decode cX3_doCover 12 = .ok (.iload_n 1, 1) := by decide +kernel
theorem dX3_doCover_13 : decode cX3_doCover 13 = .ok (.iload 5, 2) := by decide +kernel
theorem dX3_doCover_15 : decode cX3_doCover 15 = .ok (.ishr, 1) := by decide +kernel
theorem dX3_doCover_16 : decode cX3_doCover 16 = .ok (.iconst 1, 1) := by decide +kernel
theorem dX3_doCover_17 : decode cX3_doCover 17 = .ok (.iand, 1) := by decide +kernel
theorem dX3_doCover_18 : decode cX3_doCover 18 = .ok (.iconst 1, 1) := by decide +kernel
theorem dX3_doCover_19 : decode cX3_doCover 19 = .ok (.if_icmp .ne 17, 3) := by decide +kernel
theorem dX3_doCover_22 : decode cX3_doCover 22 = .ok (.iload 4, 2) := by decide +kernel
theorem dX3_doCover_24 : decode cX3_doCover 24 = .ok (.aload_n 0, 1) := by decide +kernel
theorem dX3_doCover_25 : decode cX3_doCover 25 = .ok (.getfield 11, 3) := by decide +kernel
theorem dX3_doCover_28 : decode cX3_doCover 28 = .ok (.iload 5, 2) := by decide +kernel
theorem dX3_doCover_30 : decode cX3_doCover 30 = .ok (.iaload, 1) := by decide +kernel
theorem dX3_doCover_31 : decode cX3_doCover 31 = .ok (.iconst (-1), 1) := by decide +kernel
theorem dX3_doCover_32 : decode cX3_doCover 32 = .ok (.ixor, 1) := by decide +kernel
theorem dX3_doCover_33 : decode cX3_doCover 33 = .ok (.iand, 1) := by decide +kernel
theorem dX3_doCover_34 : decode cX3_doCover 34 = .ok (.istore 4, 2) := by decide +kernel
theorem dX3_doCover_36 : decode cX3_doCover 36 = .ok (.iinc 5 1, 3) := by decide +kernel
theorem dX3_doCover_39 : decode cX3_doCover 39 = .ok (.goto (-33), 3) := by decide +kernel
theorem dX3_doCover_42 : decode cX3_doCover 42 = .ok (.iload 4, 2) := by decide +kernel
theorem dX3_doCover_44 : decode cX3_doCover 44 = .ok (.ifCond .ne 7, 3) := by decide +kernel
theorem dX3_doCover_47 : decode cX3_doCover 47 = .ok (.iconst 1, 1) := by decide +kernel
theorem dX3_doCover_48 : decode cX3_doCover 48 = .ok (.goto 4, 3) := by decide +kernel
theorem dX3_doCover_51 : decode cX3_doCover 51 = .ok (.iconst 0, 1) := by decide +kernel
theorem dX3_doCover_52 : decode cX3_doCover 52 = .ok (.ireturn, 1) := by decide +kernel
theorem dX4_isOpen_0 : decode cX4_isOpen 0 = .ok (.aload_n 0, 1) := by decide +kernel
theorem dX4_isOpen_1 : decode cX4_isOpen 1 = .ok (.getfield 9, 3) := by decide +kernel
theorem dX4_isOpen_4 : decode cX4_isOpen 4 = .ok (.iload_n 1, 1) := by decide +kernel
theorem dX4_isOpen_5 : decode cX4_isOpen 5 = .ok (.iaload, 1) := by decide +kernel
theorem dX4_isOpen_6 : decode cX4_isOpen 6 = .ok (.iload_n 2, 1) := by decide +kernel
theorem dX4_isOpen_7 : decode cX4_isOpen 7 = .ok (.if_icmp .gt 17, 3) := by decide +kernel
theorem dX4_isOpen_10 : decode cX4_isOpen 10 = .ok (.iload_n 2, 1) := by decide +kernel
theorem dX4_isOpen_11 : decode cX4_isOpen 11 = .ok (.aload_n 0, 1) := by decide +kernel
theorem dX4_isOpen_12 : decode cX4_isOpen 12 = .ok (.getfield 15, 3) := by decide +kernel
theorem dX4_isOpen_15 : decode cX4_isOpen 15 = .ok (.iload_n 1, 1) := by decide +kernel
theorem dX4_isOpen_16 : decode cX4_isOpen 16 = .ok (.iaload, 1) := by decide +kernel
theorem dX4_isOpen_17 : decode cX4_isOpen 17 = .ok (.if_icmp .ge 7, 3) := by decide +kernel
theorem dX4_isOpen_20 : decode cX4_isOpen 20 = .ok (.iconst 1, 1) := by decide +kernel
theorem dX4_isOpen_21 : decode cX4_isOpen 21 = .ok (.goto 4, 3) := by decide +kernel
theorem dX4_isOpen_24 : decode cX4_isOpen 24 = .ok (.iconst 0, 1) := by decide +kernel
theorem dX4_isOpen_25 : decode cX4_isOpen 25 = .ok (.ireturn, 1) := by decide +kernel
theorem dX4_firstIn_0 : decode cX4_firstIn 0 = .ok (.ldc 27, 2) := by decide +kernel
theorem dX4_firstIn_2 : decode cX4_firstIn 2 = .ok (.istore 5, 2) := by decide +kernel
theorem dX4_firstIn_4 : decode cX4_firstIn 4 = .ok (.sipush 1440, 3) := by decide +kernel
theorem dX4_firstIn_7 : decode cX4_firstIn 7 = .ok (.istore 6, 2) := by decide +kernel
theorem dX4_firstIn_9 : decode cX4_firstIn 9 = .ok (.iconst 0, 1) := by decide +kernel
theorem dX4_firstIn_10 : decode cX4_firstIn 10 = .ok (.istore 7, 2) := by decide +kernel
theorem dX4_firstIn_12 : decode cX4_firstIn 12 = .ok (.iload 7, 2) := by decide +kernel
theorem dX4_firstIn_14 : decode cX4_firstIn 14 = .ok (.bipush 9, 2) := by decide +kernel
theorem dX4_firstIn_16 : decode cX4_firstIn 16 = .ok (.if_icmp .ge 85, 3) := by decide +kernel
theorem dX4_firstIn_19 : decode cX4_firstIn 19 = .ok (.iload_n 1, 1) := by decide +kernel
theorem dX4_firstIn_20 : decode cX4_firstIn 20 = .ok (.aload_n 0, 1) := by decide +kernel
theorem dX4_firstIn_21 : decode cX4_firstIn 21 = .ok (.getfield 21, 3) := by decide +kernel
theorem dX4_firstIn_24 : decode cX4_firstIn 24 = .ok (.iload 7, 2) := by decide +kernel
theorem dX4_firstIn_26 : decode cX4_firstIn 26 = .ok (.iaload, 1) := by decide +kernel
theorem dX4_firstIn_27 : decode cX4_firstIn 27 = .ok (.isub, 1) := by decide +kernel
theorem dX4_firstIn_28 : decode cX4_firstIn 28 = .ok (.invokestatic 28, 3) := by decide +kernel
theorem dX4_firstIn_31 : decode cX4_firstIn 31 = .ok (.iload_n 2, 1) := by decide +kernel
theorem dX4_firstIn_32 : decode cX4_firstIn 32 = .ok (.aload_n 0, 1) := by decide +kernel
theorem dX4_firstIn_33 : decode cX4_firstIn 33 = .ok (.getfield 24, 3) := by decide +kernel
theorem dX4_firstIn_36 : decode cX4_firstIn 36 = .ok (.iload 7, 2) := by decide +kernel
theorem dX4_firstIn_38 : decode cX4_firstIn 38 = .ok (.iaload, 1) := by decide +kernel
theorem dX4_firstIn_39 : decode cX4_firstIn 39 = .ok (.isub, 1) := by decide +kernel
theorem dX4_firstIn_40 : decode cX4_firstIn 40 = .ok (.invokestatic 28, 3) := by decide +kernel
theorem dX4_firstIn_43 : decode cX4_firstIn 43 = .ok (.iadd, 1) := by decide +kernel
theorem dX4_firstIn_44 : decode cX4_firstIn 44 = .ok (.istore 8, 2) := by decide +kernel
theorem dX4_firstIn_46 : decode cX4_firstIn 46 = .ok (.iload_n 3, 1) := by decide +kernel
theorem dX4_firstIn_47 : decode cX4_firstIn 47 = .ok (.iload 8, 2) := by decide +kernel
theorem dX4_firstIn_49 : decode cX4_firstIn 49 = .ok (.iload 4, 2) := by decide +kernel
theorem dX4_firstIn_51 : decode cX4_firstIn 51 = .ok (.imul, 1) := by decide +kernel
theorem dX4_firstIn_52 : decode cX4_firstIn 52 = .ok (.bipush 100, 2) := by decide +kernel
theorem dX4_firstIn_54 : decode cX4_firstIn 54 = .ok (.idiv, 1) := by decide +kernel
theorem dX4_firstIn_55 : decode cX4_firstIn 55 = .ok (.iadd, 1) := by decide +kernel
theorem dX4_firstIn_56 : decode cX4_firstIn 56 = .ok (.aload_n 0, 1) := by decide +kernel
theorem dX4_firstIn_57 : decode cX4_firstIn 57 = .ok (.getfield 9, 3) := by decide +kernel
theorem dX4_firstIn_60 : decode cX4_firstIn 60 = .ok (.iload 7, 2) := by decide +kernel
theorem dX4_firstIn_62 : decode cX4_firstIn 62 = .ok (.iaload, 1) := by decide +kernel
theorem dX4_firstIn_63 : decode cX4_firstIn 63 = .ok (.invokestatic 34, 3) := by decide +kernel
theorem dX4_firstIn_66 : decode cX4_firstIn 66 = .ok (.istore 9, 2) := by decide +kernel
theorem dX4_firstIn_68 : decode cX4_firstIn 68 = .ok (.iload 9, 2) := by decide +kernel
theorem dX4_firstIn_70 : decode cX4_firstIn 70 = .ok (.aload_n 0, 1) := by decide +kernel
theorem dX4_firstIn_71 : decode cX4_firstIn 71 = .ok (.getfield 15, 3) := by decide +kernel
theorem dX4_firstIn_74 : decode cX4_firstIn 74 = .ok (.iload 7, 2) := by decide +kernel
theorem dX4_firstIn_76 : decode cX4_firstIn 76 = .ok (.iaload, 1) := by decide +kernel
theorem dX4_firstIn_77 : decode cX4_firstIn 77 = .ok (.if_icmp .ge 18, 3) := by decide +kernel
theorem dX4_firstIn_80 : decode cX4_firstIn 80 = .ok (.iload 9, 2) := by decide +kernel
theorem dX4_firstIn_82 : decode cX4_firstIn 82 = .ok (.iload 6, 2) := by decide +kernel
theorem dX4_firstIn_84 : decode cX4_firstIn 84 = .ok (.if_icmp .ge 11, 3) := by decide +kernel
theorem dX4_firstIn_87 : decode cX4_firstIn 87 = .ok (.iload 7, 2) := by decide +kernel
theorem dX4_firstIn_89 : decode cX4_firstIn 89 = .ok (.istore 5, 2) := by decide +kernel
theorem dX4_firstIn_91 : decode cX4_firstIn 91 = .ok (.iload 9, 2) := by decide +kernel
theorem dX4_firstIn_93 : decode cX4_firstIn 93 = .ok (.istore 6, 2) := by decide +kernel
theorem dX4_firstIn_95 : decode cX4_firstIn 95 = .ok (.iinc 7 1, 3) := by decide +kernel
theorem dX4_firstIn_98 : decode cX4_firstIn 98 = .ok (.goto (-86), 3) := by decide +kernel
theorem dX4_firstIn_101 : decode cX4_firstIn 101 = .ok (.iload 5, 2) := by decide +kernel
theorem dX4_firstIn_103 : decode cX4_firstIn 103 = .ok (.ireturn, 1) := by decide +kernel
theorem dX8_isMissing_0 : decode cX8_isMissing 0 = .ok (.aload_n 0, 1) := by decide +kernel
theorem dX8_isMissing_1 : decode cX8_isMissing 1 = .ok (.getfield 16, 3) := by decide +kernel
theorem dX8_isMissing_4 : decode cX8_isMissing 4 = .ok (.iload_n 1, 1) := by decide +kernel
theorem dX8_isMissing_5 : decode cX8_isMissing 5 = .ok (.iaload, 1) := by decide +kernel
theorem dX8_isMissing_6 : decode cX8_isMissing 6 = .ok (.iconst (-1), 1) := by decide +kernel
theorem dX8_isMissing_7 : decode cX8_isMissing 7 = .ok (.if_icmp .ne 7, 3) := by decide +kernel
theorem dX8_isMissing_10 : decode cX8_isMissing 10 = .ok (.iconst 1, 1) := by decide +kernel
theorem dX8_isMissing_11 : decode cX8_isMissing 11 = .ok (.goto 4, 3) := by decide +kernel
theorem dX8_isMissing_14 : decode cX8_isMissing 14 = .ok (.iconst 0, 1) := by decide +kernel
theorem dX8_isMissing_15 : decode cX8_isMissing 15 = .ok (.ireturn, 1) := by decide +kernel
theorem dX8_laneOf_0 : decode cX8_laneOf 0 = .ok (.aload_n 0, 1) := by decide +kernel
theorem dX8_laneOf_1 : decode cX8_laneOf 1 = .ok (.getfield 13, 3) := by decide +kernel
theorem dX8_laneOf_4 : decode cX8_laneOf 4 = .ok (.iload_n 1, 1) := by decide +kernel
theorem dX8_laneOf_5 : decode cX8_laneOf 5 = .ok (.iaload, 1) := by decide +kernel
theorem dX8_laneOf_6 : decode cX8_laneOf 6 = .ok (.ireturn, 1) := by decide +kernel
theorem dX8_hasPlaces_0 : decode cX8_hasPlaces 0 = .ok (.iload_n 2, 1) := by decide +kernel
theorem dX8_hasPlaces_1 : decode cX8_hasPlaces 1 = .ok (.ifCond .lt 33, 3) := by decide +kernel
theorem dX8_hasPlaces_4 : decode cX8_hasPlaces 4 = .ok (.iload_n 3, 1) := by decide +kernel
theorem dX8_hasPlaces_5 : decode cX8_hasPlaces 5 = .ok (.ifCond .lt 29, 3) := by decide +kernel
theorem dX8_hasPlaces_8 : decode cX8_hasPlaces 8 = .ok (.iload_n 3, 1) := by decide +kernel
theorem dX8_hasPlaces_9 : decode cX8_hasPlaces 9 = .ok (.aload_n 0, 1) := by decide +kernel
theorem dX8_hasPlaces_10 : decode cX8_hasPlaces 10 = .ok (.getfield 16, 3) := by decide +kernel
theorem dX8_hasPlaces_13 : decode cX8_hasPlaces 13 = .ok (.iload_n 1, 1) := by decide +kernel
theorem dX8_hasPlaces_14 : decode cX8_hasPlaces 14 = .ok (.iaload, 1) := by decide +kernel
theorem dX8_hasPlaces_15 : decode cX8_hasPlaces 15 = .ok (.if_icmp .gt 19, 3) := by decide +kernel
theorem dX8_hasPlaces_18 : decode cX8_hasPlaces 18 = .ok (.iload_n 2, 1) := by decide +kernel
theorem dX8_hasPlaces_19 : decode cX8_hasPlaces 19 = .ok (.aload_n 0, 1) := by decide +kernel
theorem dX8_hasPlaces_20 : decode cX8_hasPlaces 20 = .ok (.getfield 16, 3) := by decide +kernel
theorem dX8_hasPlaces_23 : decode cX8_hasPlaces 23 = .ok (.iload_n 1, 1) := by decide +kernel
theorem dX8_hasPlaces_24 : decode cX8_hasPlaces 24 = .ok (.iaload, 1) := by decide +kernel
theorem dX8_hasPlaces_25 : decode cX8_hasPlaces 25 = .ok (.iload_n 3, 1) := by decide +kernel
theorem dX8_hasPlaces_26 : decode cX8_hasPlaces 26 = .ok (.isub, 1) := by decide +kernel
theorem dX8_hasPlaces_27 : decode cX8_hasPlaces 27 = .ok (.if_icmp .gt 7, 3) := by decide +kernel
theorem dX8_hasPlaces_30 : decode cX8_hasPlaces 30 = .ok (.iconst 1, 1) := by decide +kernel
theorem dX8_hasPlaces_31 : decode cX8_hasPlaces 31 = .ok (.goto 4, 3) := by decide +kernel
theorem dX8_hasPlaces_34 : decode cX8_hasPlaces 34 = .ok (.iconst 0, 1) := by decide +kernel
theorem dX8_hasPlaces_35 : decode cX8_hasPlaces 35 = .ok (.ireturn, 1) := by decide +kernel
theorem dX8_itemAt_0 : decode cX8_itemAt 0 = .ok (.aload_n 0, 1) := by decide +kernel
theorem dX8_itemAt_1 : decode cX8_itemAt 1 = .ok (.getfield 9, 3) := by decide +kernel
theorem dX8_itemAt_4 : decode cX8_itemAt 4 = .ok (.iload_n 1, 1) := by decide +kernel
theorem dX8_itemAt_5 : decode cX8_itemAt 5 = .ok (.bipush 64, 2) := by decide +kernel
theorem dX8_itemAt_7 : decode cX8_itemAt 7 = .ok (.imul, 1) := by decide +kernel
theorem dX8_itemAt_8 : decode cX8_itemAt 8 = .ok (.iload_n 2, 1) := by decide +kernel
theorem dX8_itemAt_9 : decode cX8_itemAt 9 = .ok (.iadd, 1) := by decide +kernel
theorem dX8_itemAt_10 : decode cX8_itemAt 10 = .ok (.iaload, 1) := by decide +kernel
theorem dX8_itemAt_11 : decode cX8_itemAt 11 = .ok (.ireturn, 1) := by decide +kernel
theorem dX8_lay_0 : decode cX8_lay 0 = .ok (.aload_n 0, 1) := by decide +kernel
theorem dX8_lay_1 : decode cX8_lay 1 = .ok (.getfield 13, 3) := by decide +kernel
theorem dX8_lay_4 : decode cX8_lay 4 = .ok (.iload_n 1, 1) := by decide +kernel
theorem dX8_lay_5 : decode cX8_lay 5 = .ok (.iload_n 2, 1) := by decide +kernel
theorem dX8_lay_6 : decode cX8_lay 6 = .ok (.iastore, 1) := by decide +kernel
theorem dX8_lay_7 : decode cX8_lay 7 = .ok (.aload_n 0, 1) := by decide +kernel
theorem dX8_lay_8 : decode cX8_lay 8 = .ok (.getfield 16, 3) := by decide +kernel
theorem dX8_lay_11 : decode cX8_lay 11 = .ok (.iload_n 1, 1) := by decide +kernel
theorem dX8_lay_12 : decode cX8_lay 12 = .ok (.iload_n 3, 1) := by decide +kernel
theorem dX8_lay_13 : decode cX8_lay 13 = .ok (.iastore, 1) := by decide +kernel
theorem dX8_lay_14 : decode cX8_lay 14 = .ok (.iconst 0, 1) := by decide +kernel
theorem dX8_lay_15 : decode cX8_lay 15 = .ok (.istore 4, 2) := by decide +kernel
theorem dX8_lay_17 : decode cX8_lay 17 = .ok (.iload 4, 2) := by decide +kernel
theorem dX8_lay_19 : decode cX8_lay 19 = .ok (.iload_n 3, 1) := by decide +kernel
theorem dX8_lay_20 : decode cX8_lay 20 = .ok (.if_icmp .ge 22, 3) := by decide +kernel
theorem dX8_lay_23 : decode cX8_lay 23 = .ok (.aload_n 0, 1) := by decide +kernel
theorem dX8_lay_24 : decode cX8_lay 24 = .ok (.getfield 9, 3) := by decide +kernel
theorem dX8_lay_27 : decode cX8_lay 27 = .ok (.iload_n 1, 1) := by decide +kernel
theorem dX8_lay_28 : decode cX8_lay 28 = .ok (.bipush 64, 2) := by decide +kernel
theorem dX8_lay_30 : decode cX8_lay 30 = .ok (.imul, 1) := by decide +kernel
theorem dX8_lay_31 : decode cX8_lay 31 = .ok (.iload 4, 2) := by decide +kernel
theorem dX8_lay_33 : decode cX8_lay 33 = .ok (.iadd, 1) := by decide +kernel
theorem dX8_lay_34 : decode cX8_lay 34 = .ok (.iconst 0, 1) := by decide +kernel
theorem dX8_lay_35 : decode cX8_lay 35 = .ok (.iastore, 1) := by decide +kernel
theorem dX8_lay_36 : decode cX8_lay 36 = .ok (.iinc 4 1, 3) := by decide +kernel
theorem dX8_lay_39 : decode cX8_lay 39 = .ok (.goto (-22), 3) := by decide +kernel
theorem dX8_lay_42 : decode cX8_lay 42 = .ok (.return_, 1) := by decide +kernel
theorem dX8_put_0 : decode cX8_put 0 = .ok (.aload_n 0, 1) := by decide +kernel
theorem dX8_put_1 : decode cX8_put 1 = .ok (.getfield 13, 3) := by decide +kernel
theorem dX8_put_4 : decode cX8_put 4 = .ok (.iload_n 1, 1) := by decide +kernel
theorem dX8_put_5 : decode cX8_put 5 = .ok (.iaload, 1) := by decide +kernel
theorem dX8_put_6 : decode cX8_put 6 = .ok (.iload_n 3, 1) := by decide +kernel
theorem dX8_put_7 : decode cX8_put 7 = .ok (.invokestatic 19, 3) := by decide +kernel
theorem dX8_put_10 : decode cX8_put 10 = .ok (.istore 4, 2) := by decide +kernel
theorem dX8_put_12 : decode cX8_put 12 = .ok (.aload_n 0, 1) := by decide +kernel
theorem dX8_put_13 : decode cX8_put 13 = .ok (.getfield 9, 3) := by decide +kernel
theorem dX8_put_16 : decode cX8_put 16 = .ok (.iload_n 1, 1) := by decide +kernel
theorem dX8_put_17 : decode cX8_put 17 = .ok (.bipush 64, 2) := by decide +kernel
theorem dX8_put_19 : decode cX8_put 19 = .ok (.imul, 1) := by decide +kernel
theorem dX8_put_20 : decode cX8_put 20 = .ok (.iload_n 2, 1) := by decide +kernel
theorem dX8_put_21 : decode cX8_put 21 = .ok (.iadd, 1) := by decide +kernel
theorem dX8_put_22 : decode cX8_put 22 = .ok (.iload 4, 2) := by decide +kernel
theorem dX8_put_24 : decode cX8_put 24 = .ok (.iastore, 1) := by decide +kernel
theorem dX8_put_25 : decode cX8_put 25 = .ok (.iload 4, 2) := by decide +kernel
theorem dX8_put_27 : decode cX8_put 27 = .ok (.ireturn, 1) := by decide +kernel
theorem dX8_move_0 : decode cX8_move 0 = .ok (.aload_n 0, 1) := by decide +kernel
theorem dX8_move_1 : decode cX8_move 1 = .ok (.getfield 9, 3) := by decide +kernel
theorem dX8_move_4 : decode cX8_move 4 = .ok (.iload_n 1, 1) := by decide +kernel
theorem dX8_move_5 : decode cX8_move 5 = .ok (.bipush 64, 2) := by decide +kernel
theorem dX8_move_7 : decode cX8_move 7 = .ok (.imul, 1) := by decide +kernel
theorem dX8_move_8 : decode cX8_move 8 = .ok (.iload_n 2, 1) := by decide +kernel
theorem dX8_move_9 : decode cX8_move 9 = .ok (.iadd, 1) := by decide +kernel
theorem dX8_move_10 : decode cX8_move 10 = .ok (.aload_n 0, 1) := by decide +kernel
theorem dX8_move_11 : decode cX8_move 11 = .ok (.getfield 9, 3) := by decide +kernel
theorem dX8_move_14 : decode cX8_move 14 = .ok (.iload_n 3, 1) := by decide +kernel
theorem dX8_move_15 : decode cX8_move 15 = .ok (.bipush 64, 2) := by decide +kernel
theorem dX8_move_17 : decode cX8_move 17 = .ok (.imul, 1) := by decide +kernel
theorem dX8_move_18 : decode cX8_move 18 = .ok (.iload 4, 2) := by decide +kernel
theorem dX8_move_20 : decode cX8_move 20 = .ok (.iadd, 1) := by decide +kernel
theorem dX8_move_21 : decode cX8_move 21 = .ok (.iload 5, 2) := by decide +kernel
theorem dX8_move_23 : decode cX8_move 23 = .ok (.invokestatic 23, 3) := by decide +kernel
theorem dX8_move_26 : decode cX8_move 26 = .ok (.return_, 1) := by decide +kernel
theorem dX8_takeAway_0 : decode cX8_takeAway 0 = .ok (.aload_n 0, 1) := by decide +kernel
theorem dX8_takeAway_1 : decode cX8_takeAway 1 = .ok (.getfield 16, 3) := by decide +kernel
theorem dX8_takeAway_4 : decode cX8_takeAway 4 = .ok (.iload_n 1, 1) := by decide +kernel
theorem dX8_takeAway_5 : decode cX8_takeAway 5 = .ok (.iaload, 1) := by decide +kernel
theorem dX8_takeAway_6 : decode cX8_takeAway 6 = .ok (.istore_n 2, 1) := by decide +kernel
theorem dX8_takeAway_7 : decode cX8_takeAway 7 = .ok (.aload_n 0, 1) := by decide +kernel
theorem dX8_takeAway_8 : decode cX8_takeAway 8 = .ok (.getfield 16, 3) := by decide +kernel
theorem dX8_takeAway_11 : decode cX8_takeAway 11 = .ok (.iload_n 1, 1) := by decide +kernel
theorem dX8_takeAway_12 : decode cX8_takeAway 12 = .ok (.iconst (-1), 1) := by decide +kernel
theorem dX8_takeAway_13 : decode cX8_takeAway 13 = .ok (.iastore, 1) := by decide +kernel
theorem dX8_takeAway_14 : decode cX8_takeAway 14 = .ok (.iload_n 2, 1) := by decide +kernel
theorem dX8_takeAway_15 : decode cX8_takeAway 15 = .ok (.ireturn, 1) := by decide +kernel
theorem dX8_present_0 : decode cX8_present 0 = .ok (.iconst 0, 1) := by decide +kernel
theorem dX8_present_1 : decode cX8_present 1 = .ok (.istore_n 1, 1) := by decide +kernel
theorem dX8_present_2 : decode cX8_present 2 = .ok (.iconst 0, 1) := by decide +kernel
theorem dX8_present_3 : decode cX8_present 3 = .ok (.istore_n 2, 1) := by decide +kernel
theorem dX8_present_4 : decode cX8_present 4 = .ok (.iload_n 2, 1) := by decide +kernel
theorem dX8_present_5 : decode cX8_present 5 = .ok (.bipush 8, 2) := by decide +kernel
theorem dX8_present_7 : decode cX8_present 7 = .ok (.if_icmp .ge 20, 3) := by decide +kernel
theorem dX8_present_10 : decode cX8_present 10 = .ok (.aload_n 0, 1) := by decide +kernel
theorem dX8_present_11 : decode cX8_present 11 = .ok (.iload_n 2, 1) := by decide +kernel
theorem dX8_present_12 : decode cX8_present 12 = .ok (.invokevirtual 29, 3) := by decide +kernel
theorem dX8_present_15 : decode cX8_present 15 = .ok (.ifCond .ne 6, 3) := by decide +kernel
theorem dX8_present_18 : decode cX8_present 18 = .ok (.iinc 1 1, 3) := by decide +kernel
theorem dX8_present_21 : decode cX8_present 21 = .ok (.iinc 2 1, 3) := by decide +kernel
theorem dX8_present_24 : decode cX8_present 24 = .ok (.goto (-20), 3) := by decide +kernel
theorem dX8_present_27 : decode cX8_present 27 = .ok (.iload_n 1, 1) := by decide +kernel
theorem dX8_present_28 : decode cX8_present 28 = .ok (.ireturn, 1) := by decide +kernel
theorem dX8_cutTo_0 : decode cX8_cutTo 0 = .ok (.iload_n 0, 1) := by decide +kernel
theorem dX8_cutTo_1 : decode cX8_cutTo 1 = .ok (.ifCond .ne 6, 3) := by decide +kernel
theorem dX8_cutTo_4 : decode cX8_cutTo 4 = .ok (.iload_n 1, 1) := by decide +kernel
theorem dX8_cutTo_5 : decode cX8_cutTo 5 = .ok (.i2b, 1) := by decide +kernel
theorem dX8_cutTo_6 : decode cX8_cutTo 6 = .ok (.ireturn, 1) := by decide +kernel
theorem dX8_cutTo_7 : decode cX8_cutTo 7 = .ok (.iload_n 0, 1) := by decide +kernel
theorem dX8_cutTo_8 : decode cX8_cutTo 8 = .ok (.iconst 1, 1) := by decide +kernel
theorem dX8_cutTo_9 : decode cX8_cutTo 9 = .ok (.if_icmp .ne 8, 3) := by decide +kernel
theorem dX8_cutTo_12 : decode cX8_cutTo 12 = .ok (.iload_n 1, 1) := by decide +kernel
theorem dX8_cutTo_13 : decode cX8_cutTo 13 = .ok (.i2s, 1) := by decide +kernel
theorem dX8_cutTo_14 : decode cX8_cutTo 14 = .ok (.goto 4, 3) := by decide +kernel
theorem dX8_cutTo_17 : decode cX8_cutTo 17 = .ok (.iload_n 1, 1) := by decide +kernel
theorem dX8_cutTo_18 : decode cX8_cutTo 18 = .ok (.ireturn, 1) := by decide +kernel
theorem dX10_addHouse_0 : decode cX10_addHouse 0 = .ok (.aload_n 0, 1) := by decide +kernel
theorem dX10_addHouse_1 : decode cX10_addHouse 1 = .ok (.getfield 15, 3) := by decide +kernel
theorem dX10_addHouse_4 : decode cX10_addHouse 4 = .ok (.iload_n 1, 1) := by decide +kernel
theorem dX10_addHouse_5 : decode cX10_addHouse 5 = .ok (.aload_n 0, 1) := by decide +kernel
theorem dX10_addHouse_6 : decode cX10_addHouse 6 = .ok (.getfield 15, 3) := by decide +kernel
theorem dX10_addHouse_9 : decode cX10_addHouse 9 = .ok (.iload_n 1, 1) := by decide +kernel
theorem dX10_addHouse_10 : decode cX10_addHouse 10 = .ok (.iaload, 1) := by decide +kernel
theorem dX10_addHouse_11 : decode cX10_addHouse 11 = .ok (.iload_n 2, 1) := by decide +kernel
theorem dX10_addHouse_12 : decode cX10_addHouse 12 = .ok (.invokestatic 21, 3) := by decide +kernel
theorem dX10_addHouse_15 : decode cX10_addHouse 15 = .ok (.iastore, 1) := by decide +kernel
theorem dX10_addHouse_16 : decode cX10_addHouse 16 = .ok (.aload_n 0, 1) := by decide +kernel
theorem dX10_addHouse_17 : decode cX10_addHouse 17 = .ok (.getfield 18, 3) := by decide +kernel
theorem dX10_addHouse_20 : decode cX10_addHouse 20 = .ok (.iload_n 1, 1) := by decide +kernel
theorem dX10_addHouse_21 : decode cX10_addHouse 21 = .ok (.aload_n 0, 1) := by decide +kernel
theorem dX10_addHouse_22 : decode cX10_addHouse 22 = .ok (.getfield 18, 3) := by decide +kernel
theorem dX10_addHouse_25 : decode cX10_addHouse 25 = .ok (.iload_n 1, 1) := by decide +kernel
theorem dX10_addHouse_26 : decode cX10_addHouse 26 = .ok (.iaload, 1) := by decide +kernel
theorem dX10_addHouse_27 : decode cX10_addHouse 27 = .ok (.iload_n 3, 1) := by decide +kernel
theorem dX10_addHouse_28 : decode cX10_addHouse 28 = .ok (.invokestatic 21, 3) := by decide +kernel
theorem dX10_addHouse_31 : decode cX10_addHouse 31 = .ok (.iastore, 1) := by decide +kernel
theorem dX10_addHouse_32 : decode cX10_addHouse 32 = .ok (.aload_n 0, 1) := by decide +kernel
theorem dX10_addHouse_33 : decode cX10_addHouse 33 = .ok (.dup, 1) := by decide +kernel
theorem dX10_addHouse_34 : decode cX10_addHouse 34 = .ok (.getfield 27, 3) := by decide +kernel
theorem dX10_addHouse_37 : decode cX10_addHouse 37 = .ok (.iconst 1, 1) := by decide +kernel
theorem dX10_addHouse_38 : decode cX10_addHouse 38 = .ok (.iadd, 1) := by decide +kernel
theorem dX10_addHouse_39 : decode cX10_addHouse 39 = .ok (.putfield 27, 3) := by decide +kernel
theorem dX10_addHouse_42 : decode cX10_addHouse 42 = .ok (.aload_n 0, 1) := by decide +kernel
theorem dX10_addHouse_43 : decode cX10_addHouse 43 = .ok (.getfield 27, 3) := by decide +kernel
theorem dX10_addHouse_46 : decode cX10_addHouse 46 = .ok (.ireturn, 1) := by decide +kernel
theorem dX10_passable_0 : decode cX10_passable 0 = .ok (.iconst 0, 1) := by decide +kernel
theorem dX10_passable_1 : decode cX10_passable 1 = .ok (.istore_n 1, 1) := by decide +kernel
theorem dX10_passable_2 : decode cX10_passable 2 = .ok (.iconst 0, 1) := by decide +kernel
theorem dX10_passable_3 : decode cX10_passable 3 = .ok (.istore_n 2, 1) := by decide +kernel
theorem dX10_passable_4 : decode cX10_passable 4 = .ok (.iload_n 2, 1) := by decide +kernel
theorem dX10_passable_5 : decode cX10_passable 5 = .ok (.bipush 12, 2) := by decide +kernel
theorem dX10_passable_7 : decode cX10_passable 7 = .ok (.if_icmp .ge 49, 3) := by decide +kernel
theorem dX10_passable_10 : decode cX10_passable 10 = .ok (.aload_n 0, 1) := by decide +kernel
theorem dX10_passable_11 : decode cX10_passable 11 = .ok (.getfield 15, 3) := by decide +kernel
theorem dX10_passable_14 : decode cX10_passable 14 = .ok (.iload_n 2, 1) := by decide +kernel
theorem dX10_passable_15 : decode cX10_passable 15 = .ok (.iaload, 1) := by decide +kernel
theorem dX10_passable_16 : decode cX10_passable 16 = .ok (.aload_n 0, 1) := by decide +kernel
theorem dX10_passable_17 : decode cX10_passable 17 = .ok (.getfield 9, 3) := by decide +kernel
theorem dX10_passable_20 : decode cX10_passable 20 = .ok (.iload_n 2, 1) := by decide +kernel
theorem dX10_passable_21 : decode cX10_passable 21 = .ok (.iaload, 1) := by decide +kernel
theorem dX10_passable_22 : decode cX10_passable 22 = .ok (.iconst 2, 1) := by decide +kernel
theorem dX10_passable_23 : decode cX10_passable 23 = .ok (.isub, 1) := by decide +kernel
theorem dX10_passable_24 : decode cX10_passable 24 = .ok (.if_icmp .lt 26, 3) := by decide +kernel
theorem dX10_passable_27 : decode cX10_passable 27 = .ok (.aload_n 0, 1) := by decide +kernel
theorem dX10_passable_28 : decode cX10_passable 28 = .ok (.getfield 18, 3) := by decide +kernel
theorem dX10_passable_31 : decode cX10_passable 31 = .ok (.iload_n 2, 1) := by decide +kernel
theorem dX10_passable_32 : decode cX10_passable 32 = .ok (.iaload, 1) := by decide +kernel
theorem dX10_passable_33 : decode cX10_passable 33 = .ok (.aload_n 0, 1) := by decide +kernel
theorem dX10_passable_34 : decode cX10_passable 34 = .ok (.getfield 9, 3) := by decide +kernel
theorem dX10_passable_37 : decode cX10_passable 37 = .ok (.iload_n 2, 1) := by decide +kernel
theorem dX10_passable_38 : decode cX10_passable 38 = .ok (.iaload, 1) := by decide +kernel
theorem dX10_passable_39 : decode cX10_passable 39 = .ok (.iconst 4, 1) := by decide +kernel
theorem dX10_passable_40 : decode cX10_passable 40 = .ok (.isub, 1) := by decide +kernel
theorem dX10_passable_41 : decode cX10_passable 41 = .ok (.if_icmp .lt 9, 3) := by decide +kernel
theorem dX10_passable_44 : decode cX10_passable 44 = .ok (.iload_n 1, 1) := by decide +kernel
theorem dX10_passable_45 : decode cX10_passable 45 = .ok (.iconst 1, 1) := by decide +kernel
theorem dX10_passable_46 : decode cX10_passable 46 = .ok (.iload_n 2, 1) := by decide +kernel
theorem dX10_passable_47 : decode cX10_passable 47 = .ok (.ishl, 1) := by decide +kernel
theorem dX10_passable_48 : decode cX10_passable 48 = .ok (.ior, 1) := by decide +kernel
theorem dX10_passable_49 : decode cX10_passable 49 = .ok (.istore_n 1, 1) := by decide +kernel
theorem dX10_passable_50 : decode cX10_passable 50 = .ok (.iinc 2 1, 3) := by decide +kernel
theorem dX10_passable_53 : decode cX10_passable 53 = .ok (.goto (-49), 3) := by decide +kernel
theorem dX10_passable_56 : decode cX10_passable 56 = .ok (.iload_n 1, 1) := by decide +kernel
theorem dX10_passable_57 : decode cX10_passable 57 = .ok (.ireturn, 1) := by decide +kernel
set_option maxRecDepth 100000 in
set_option maxHeartbeats 4000000 in
theorem B_X3_search_0 {g : gp} {u : sg} {Q : Option Value → sg → Prop} (x1 : Int32) (x2 : Int32) (h : Go g iX3_doCover 0 [some (.ref (gd g 4)), some (.int ((1 <<< (x1 &&& 31)) - 1)), some (.int x1), some (.int x2), none, none] [] (sI (sI u 4 1 (-1000000 : Int32)) 4 2 (0 : Int32)) (QI (fun r1 u1 => ((¬ r1 = (0 : Int32) → Go g iX3_search 33 [some (.ref (gd g 4)), some (.int x1), some (.int x2), some (.int (x1 + 1)), some (.int 0), none] [] u1 Q) ∧ (r1 = (0 : Int32) → Q none u1))))) : Go g iX3_search 0 [some (.ref (gd g 4)), some (.int x1), some (.int x2), none, none, none] [] u Q := by
  refine go_aload_n dX3_search_0 rfl rfl ?_
  refine go_ldc dX3_search_1 qc_X3_15 ?_
  refine go_put (k := 1) dX3_search_3 ob_4 (by decide) qf_X3_16 rfl rfl pf_I ?_
  refine go_aload_n dX3_search_6 rfl rfl ?_
  refine go_iconst (v := 0) dX3_search_7 (by decide) ?_
  refine go_put (k := 2) dX3_search_8 ob_4 (by decide) qf_X3_20 rfl rfl pf_I ?_
  refine go_aload_n dX3_search_11 rfl rfl ?_
  refine go_iconst (v := 1) dX3_search_12 (by decide) ?_
  refine go_iload_n dX3_search_13 rfl rfl ?_
  refine go_ishl dX3_search_14 ?_
  refine go_iconst (v := 1) dX3_search_15 (by decide) ?_
  refine go_isub dX3_search_16 ?_
  refine go_iload_n dX3_search_17 rfl rfl ?_
  refine go_iload_n dX3_search_18 rfl rfl ?_
  refine go_cVi (o := 4) (As := [.int ((1 <<< (x1 &&& 31)) - 1), .int x1, .int x2]) (st := []) (lc := [some (.ref (gd g 4)), some (.int ((1 <<< (x1 &&& 31)) - 1)), some (.int x1), some (.int x2), none, none]) dX3_search_19 me_X3_doCover rfl ob_4 qm_X3_23 rfl (Nat.le_of_ble_eq_true rfl) rfl ⟨Nat.le_of_ble_eq_true rfl, Nat.le_of_ble_eq_true rfl⟩ rfl (Nat.le_of_ble_eq_true rfl) h (fun r1 u1 h => ?_)
  refine go_if_ne (tgt := 26) dX3_search_22 (by decide) (fun hc => ?_) (fun hc => ?_)
  · replace h := h.1 hc
    refine go_iload_n dX3_search_26 rfl rfl ?_
    refine go_iconst (v := 1) dX3_search_27 (by decide) ?_
    refine go_iadd dX3_search_28 ?_
    refine go_istore_n (lm := [some (.ref (gd g 4)), some (.int x1), some (.int x2), some (.int (x1 + 1)), none, none]) dX3_search_29 rfl (by decide) rfl rfl ?_
    refine go_iconst (v := 0) dX3_search_30 (by decide) ?_
    refine go_istore (lm := [some (.ref (gd g 4)), some (.int x1), some (.int x2), some (.int (x1 + 1)), some (.int 0), none]) dX3_search_31 (by decide) rfl rfl ?_
    exact h
  · replace h := h.2 hc
    exact go_vret dX3_search_25 rfl h
set_option maxRecDepth 100000 in
set_option maxHeartbeats 4000000 in
theorem B_X3_search_33 {g : gp} {u : sg} {Q : Option Value → sg → Prop} (x1 : Int32) (x2 : Int32) (x3 : Int32) (x4 : Int32) (h : (((1 <<< (x1 &&& 31)) ≤ x4 → Q none u) ∧ (¬ (1 <<< (x1 &&& 31)) ≤ x4 → Go g iJ6_bitCount_0f7a4 0 [some (.int x4)] [] u (QI (fun r1 u1 => ((x3 < r1 → Go g iX3_search 33 [some (.ref (gd g 4)), some (.int x1), some (.int x2), some (.int x3), some (.int (x4 + 1)), none] [] u1 Q) ∧ (¬ x3 < r1 → Go g iX3_doCover 0 [some (.ref (gd g 4)), some (.int x4), some (.int x1), some (.int x2), none, none] [] u1 (QI (fun r2 u2 => ((r2 = (0 : Int32) → Go g iX3_search 33 [some (.ref (gd g 4)), some (.int x1), some (.int x2), some (.int x3), some (.int (x4 + 1)), none] [] u2 Q) ∧ (¬ r2 = (0 : Int32) → ((x3 ≤ r1 → Go g iX3_search 33 [some (.ref (gd g 4)), some (.int x1), some (.int x2), some (.int x3), some (.int (x4 + 1)), none] [] (sI u2 4 2 ((u2.1 4 2) &&& x4)) Q) ∧ (¬ x3 ≤ r1 → Go g iX3_search 33 [some (.ref (gd g 4)), some (.int x1), some (.int x2), some (.int r1), some (.int (x4 + 1)), none] [] (sI (sI u2 4 1 x4) 4 2 x4) Q))))))))))))) : Go g iX3_search 33 [some (.ref (gd g 4)), some (.int x1), some (.int x2), some (.int x3), some (.int x4), none] [] u Q := by
  refine go_iload dX3_search_33 rfl ?_
  refine go_iconst (v := 1) dX3_search_35 (by decide) ?_
  refine go_iload_n dX3_search_36 rfl rfl ?_
  refine go_ishl dX3_search_37 ?_
  refine go_icmp_ge (tgt := 106) dX3_search_38 (by decide) (fun hc => ?_) (fun hc => ?_)
  · replace h := h.1 hc
    exact go_vret dX3_search_106 rfl h
  · replace h := h.2 hc
    refine go_iload dX3_search_41 rfl ?_
    refine go_cSi (As := [.int x4]) (st := []) (lc := [some (.int x4)]) dX3_search_43 me_J6_bitCount_0f7a4 qm_X3_27 rfl (Nat.le_of_ble_eq_true rfl) rfl ⟨Nat.le_of_ble_eq_true rfl, Nat.le_of_ble_eq_true rfl⟩ rfl (Nat.le_of_ble_eq_true rfl) h (fun r1 u1 h => ?_)
    refine go_istore (lm := [some (.ref (gd g 4)), some (.int x1), some (.int x2), some (.int x3), some (.int x4), some (.int r1)]) dX3_search_46 (by decide) rfl rfl ?_
    refine go_iload dX3_search_48 rfl ?_
    refine go_iload_n dX3_search_50 rfl rfl ?_
    refine go_icmp_gt (tgt := 100) dX3_search_51 (by decide) (fun hc => ?_) (fun hc => ?_)
    · replace h := h.1 hc
      refine go_iinc (v := x4 + 1) (lm := [some (.ref (gd g 4)), some (.int x1), some (.int x2), some (.int x3), some (.int (x4 + 1)), some (.int r1)]) dX3_search_100 rfl rfl (by decide) rfl rfl ?_
      refine go_goto (tgt := 33) dX3_search_103 (by decide) ?_
      refine go_mask [true, true, true, true, true, false] rfl ?_
      exact h
    · replace h := h.2 hc
      refine go_aload_n dX3_search_54 rfl rfl ?_
      refine go_iload dX3_search_55 rfl ?_
      refine go_iload_n dX3_search_57 rfl rfl ?_
      refine go_iload_n dX3_search_58 rfl rfl ?_
      refine go_cVi (o := 4) (As := [.int x4, .int x1, .int x2]) (st := []) (lc := [some (.ref (gd g 4)), some (.int x4), some (.int x1), some (.int x2), none, none]) dX3_search_59 me_X3_doCover rfl ob_4 qm_X3_23 rfl (Nat.le_of_ble_eq_true rfl) rfl ⟨Nat.le_of_ble_eq_true rfl, Nat.le_of_ble_eq_true rfl⟩ rfl (Nat.le_of_ble_eq_true rfl) h (fun r2 u2 h => ?_)
      refine go_if_eq (tgt := 100) dX3_search_62 (by decide) (fun hc => ?_) (fun hc => ?_)
      · replace h := h.1 hc
        refine go_iinc (v := x4 + 1) (lm := [some (.ref (gd g 4)), some (.int x1), some (.int x2), some (.int x3), some (.int (x4 + 1)), some (.int r1)]) dX3_search_100 rfl rfl (by decide) rfl rfl ?_
        refine go_goto (tgt := 33) dX3_search_103 (by decide) ?_
        refine go_mask [true, true, true, true, true, false] rfl ?_
        exact h
      · replace h := h.2 hc
        refine go_iload dX3_search_65 rfl ?_
        refine go_iload_n dX3_search_67 rfl rfl ?_
        refine go_icmp_ge (tgt := 89) dX3_search_68 (by decide) (fun hc => ?_) (fun hc => ?_)
        · replace h := h.1 hc
          refine go_aload_n dX3_search_89 rfl rfl ?_
          refine go_dup dX3_search_90 rfl ?_
          refine go_get (k := 2) (v := .int (u2.1 4 2)) dX3_search_91 ob_4 (by decide) qf_X3_20 rfl ?_
          refine go_iload dX3_search_94 rfl ?_
          refine go_iand dX3_search_96 ?_
          refine go_put (k := 2) dX3_search_97 ob_4 (by decide) qf_X3_20 rfl rfl pf_I ?_
          refine go_iinc (v := x4 + 1) (lm := [some (.ref (gd g 4)), some (.int x1), some (.int x2), some (.int x3), some (.int (x4 + 1)), some (.int r1)]) dX3_search_100 rfl rfl (by decide) rfl rfl ?_
          refine go_goto (tgt := 33) dX3_search_103 (by decide) ?_
          refine go_mask [true, true, true, true, true, false] rfl ?_
          exact h
        · replace h := h.2 hc
          refine go_iload dX3_search_71 rfl ?_
          refine go_istore_n (lm := [some (.ref (gd g 4)), some (.int x1), some (.int x2), some (.int r1), some (.int x4), some (.int r1)]) dX3_search_73 rfl (by decide) rfl rfl ?_
          refine go_aload_n dX3_search_74 rfl rfl ?_
          refine go_iload dX3_search_75 rfl ?_
          refine go_put (k := 1) dX3_search_77 ob_4 (by decide) qf_X3_16 rfl rfl pf_I ?_
          refine go_aload_n dX3_search_80 rfl rfl ?_
          refine go_iload dX3_search_81 rfl ?_
          refine go_put (k := 2) dX3_search_83 ob_4 (by decide) qf_X3_20 rfl rfl pf_I ?_
          refine go_goto (tgt := 100) dX3_search_86 (by decide) ?_
          refine go_iinc (v := x4 + 1) (lm := [some (.ref (gd g 4)), some (.int x1), some (.int x2), some (.int r1), some (.int (x4 + 1)), some (.int r1)]) dX3_search_100 rfl rfl (by decide) rfl rfl ?_
          refine go_goto (tgt := 33) dX3_search_103 (by decide) ?_
          refine go_mask [true, true, true, true, true, false] rfl ?_
          exact h
set_option maxRecDepth 100000 in
set_option maxHeartbeats 4000000 in
theorem B_X3_anyUse_0 {g : gp} {u : sg} {Q : Option Value → sg → Prop} (x1 : Int32) (h : Go g iX3_anyUse 4 [some (.ref (gd g 4)), some (.int x1), some (.int 0), some (.int 0)] [] u Q) : Go g iX3_anyUse 0 [some (.ref (gd g 4)), some (.int x1), none, none] [] u Q := by
  refine go_iconst (v := 0) dX3_anyUse_0 (by decide) ?_
  refine go_istore_n (lm := [some (.ref (gd g 4)), some (.int x1), some (.int 0), none]) dX3_anyUse_1 rfl (by decide) rfl rfl ?_
  refine go_iconst (v := 0) dX3_anyUse_2 (by decide) ?_
  refine go_istore_n (lm := [some (.ref (gd g 4)), some (.int x1), some (.int 0), some (.int 0)]) dX3_anyUse_3 rfl (by decide) rfl rfl ?_
  exact h
set_option maxRecDepth 100000 in
set_option maxHeartbeats 4000000 in
theorem B_X3_anyUse_4 {g : gp} {u : sg} {Q : Option Value → sg → Prop} (x1 : Int32) (x2 : Int32) (x3 : Int32) (h : ((x1 ≤ x3 → Q (some (.int x2)) u) ∧ (¬ x1 ≤ x3 → (vp_in x3 12 ∧ (((u.2 23 x3.toNatClampNeg) = (0 : Int32) → Go g iX3_anyUse 4 [some (.ref (gd g 4)), some (.int x1), some (.int x2), some (.int (x3 + 1))] [] u Q) ∧ (¬ (u.2 23 x3.toNatClampNeg) = (0 : Int32) → Go g iX3_anyUse 4 [some (.ref (gd g 4)), some (.int x1), some (.int (x2 ||| (1 <<< (x3 &&& 31)))), some (.int (x3 + 1))] [] u Q)))))) : Go g iX3_anyUse 4 [some (.ref (gd g 4)), some (.int x1), some (.int x2), some (.int x3)] [] u Q := by
  refine go_iload_n dX3_anyUse_4 rfl rfl ?_
  refine go_iload_n dX3_anyUse_5 rfl rfl ?_
  refine go_icmp_ge (tgt := 30) dX3_anyUse_6 (by decide) (fun hc => ?_) (fun hc => ?_)
  · replace h := h.1 hc
    refine go_iload_n dX3_anyUse_30 rfl rfl ?_
    exact go_iret dX3_anyUse_31 rfl h
  · replace h := h.2 hc
    refine go_aload_n dX3_anyUse_9 rfl rfl ?_
    refine go_get (k := 0) (v := .ref (gd g 23)) dX3_anyUse_10 ob_4 (by decide) qf_X3_11 rfl ?_
    refine go_iload_n dX3_anyUse_13 rfl rfl ?_
    obtain ⟨hi, h⟩ := h
    refine go_ild (a := 23) (n := 12) dX3_anyUse_14 (by decide) (by decide) rfl hi ?_
    refine go_if_eq (tgt := 24) dX3_anyUse_15 (by decide) (fun hc => ?_) (fun hc => ?_)
    · replace h := h.1 hc
      refine go_iinc (v := x3 + 1) (lm := [some (.ref (gd g 4)), some (.int x1), some (.int x2), some (.int (x3 + 1))]) dX3_anyUse_24 rfl rfl (by decide) rfl rfl ?_
      refine go_goto (tgt := 4) dX3_anyUse_27 (by decide) ?_
      exact h
    · replace h := h.2 hc
      refine go_iload_n dX3_anyUse_18 rfl rfl ?_
      refine go_iconst (v := 1) dX3_anyUse_19 (by decide) ?_
      refine go_iload_n dX3_anyUse_20 rfl rfl ?_
      refine go_ishl dX3_anyUse_21 ?_
      refine go_ior dX3_anyUse_22 ?_
      refine go_istore_n (lm := [some (.ref (gd g 4)), some (.int x1), some (.int (x2 ||| (1 <<< (x3 &&& 31)))), some (.int x3)]) dX3_anyUse_23 rfl (by decide) rfl rfl ?_
      refine go_iinc (v := x3 + 1) (lm := [some (.ref (gd g 4)), some (.int x1), some (.int (x2 ||| (1 <<< (x3 &&& 31)))), some (.int (x3 + 1))]) dX3_anyUse_24 rfl rfl (by decide) rfl rfl ?_
      refine go_goto (tgt := 4) dX3_anyUse_27 (by decide) ?_
      exact h
set_option maxRecDepth 100000 in
set_option maxHeartbeats 4000000 in
theorem B_X3_doCover_0 {g : gp} {u : sg} {Q : Option Value → sg → Prop} (x1 : Int32) (x2 : Int32) (x3 : Int32) (h : Go g iX3_doCover 6 [some (.ref (gd g 4)), some (.int x1), some (.int x2), none, some (.int x3), some (.int 0)] [] u Q) : Go g iX3_doCover 0 [some (.ref (gd g 4)), some (.int x1), some (.int x2), some (.int x3), none, none] [] u Q := by
  refine go_iload_n dX3_doCover_0 rfl rfl ?_
  refine go_istore (lm := [some (.ref (gd g 4)), some (.int x1), some (.int x2), some (.int x3), some (.int x3), none]) dX3_doCover_1 (by decide) rfl rfl ?_
  refine go_iconst (v := 0) dX3_doCover_3 (by decide) ?_
  refine go_istore (lm := [some (.ref (gd g 4)), some (.int x1), some (.int x2), some (.int x3), some (.int x3), some (.int 0)]) dX3_doCover_4 (by decide) rfl rfl ?_
  refine go_mask [true, true, true, false, true, true] rfl ?_
  exact h
set_option maxRecDepth 100000 in
set_option maxHeartbeats 4000000 in
theorem B_X3_doCover_6 {g : gp} {u : sg} {Q : Option Value → sg → Prop} (x1 : Int32) (x2 : Int32) (x4 : Int32) (x5 : Int32) (h : ((x2 ≤ x5 → ((¬ x4 = (0 : Int32) → Q (some (.int (0 : Int32))) u) ∧ (x4 = (0 : Int32) → Q (some (.int (1 : Int32))) u))) ∧ (¬ x2 ≤ x5 → ((¬ ((x1 >>> (x5 &&& 31)) &&& 1) = (1 : Int32) → Go g iX3_doCover 6 [some (.ref (gd g 4)), some (.int x1), some (.int x2), none, some (.int x4), some (.int (x5 + 1))] [] u Q) ∧ (((x1 >>> (x5 &&& 31)) &&& 1) = (1 : Int32) → (vp_in x5 12 ∧ Go g iX3_doCover 6 [some (.ref (gd g 4)), some (.int x1), some (.int x2), none, some (.int (x4 &&& ((u.2 23 x5.toNatClampNeg) ^^^ (-1)))), some (.int (x5 + 1))] [] u Q)))))) : Go g iX3_doCover 6 [some (.ref (gd g 4)), some (.int x1), some (.int x2), none, some (.int x4), some (.int x5)] [] u Q := by
  refine go_iload dX3_doCover_6 rfl ?_
  refine go_iload_n dX3_doCover_8 rfl rfl ?_
  refine go_icmp_ge (tgt := 42) dX3_doCover_9 (by decide) (fun hc => ?_) (fun hc => ?_)
  · replace h := h.1 hc
    refine go_iload dX3_doCover_42 rfl ?_
    refine go_if_ne (tgt := 51) dX3_doCover_44 (by decide) (fun hc => ?_) (fun hc => ?_)
    · replace h := h.1 hc
      refine go_iconst (v := 0) dX3_doCover_51 (by decide) ?_
      exact go_zret dX3_doCover_52 rfl (by decide) h
    · replace h := h.2 hc
      refine go_iconst (v := 1) dX3_doCover_47 (by decide) ?_
      refine go_goto (tgt := 52) dX3_doCover_48 (by decide) ?_
      exact go_zret dX3_doCover_52 rfl (by decide) h
  · replace h := h.2 hc
    refine go_iload_n dX3_doCover_12 rfl rfl ?_
    refine go_iload dX3_doCover_13 rfl ?_
    refine go_ishr dX3_doCover_15 ?_
    refine go_iconst (v := 1) dX3_doCover_16 (by decide) ?_
    refine go_iand dX3_doCover_17 ?_
    refine go_iconst (v := 1) dX3_doCover_18 (by decide) ?_
    refine go_icmp_ne (tgt := 36) dX3_doCover_19 (by decide) (fun hc => ?_) (fun hc => ?_)
    · replace h := h.1 hc
      refine go_iinc (v := x5 + 1) (lm := [some (.ref (gd g 4)), some (.int x1), some (.int x2), none, some (.int x4), some (.int (x5 + 1))]) dX3_doCover_36 rfl rfl (by decide) rfl rfl ?_
      refine go_goto (tgt := 6) dX3_doCover_39 (by decide) ?_
      exact h
    · replace h := h.2 hc
      refine go_iload dX3_doCover_22 rfl ?_
      refine go_aload_n dX3_doCover_24 rfl rfl ?_
      refine go_get (k := 0) (v := .ref (gd g 23)) dX3_doCover_25 ob_4 (by decide) qf_X3_11 rfl ?_
      refine go_iload dX3_doCover_28 rfl ?_
      obtain ⟨hi, h⟩ := h
      refine go_ild (a := 23) (n := 12) dX3_doCover_30 (by decide) (by decide) rfl hi ?_
      refine go_iconst (v := (-1)) dX3_doCover_31 (by decide) ?_
      refine go_ixor dX3_doCover_32 ?_
      refine go_iand dX3_doCover_33 ?_
      refine go_istore (lm := [some (.ref (gd g 4)), some (.int x1), some (.int x2), none, some (.int (x4 &&& ((u.2 23 x5.toNatClampNeg) ^^^ (-1)))), some (.int x5)]) dX3_doCover_34 (by decide) rfl rfl ?_
      refine go_iinc (v := x5 + 1) (lm := [some (.ref (gd g 4)), some (.int x1), some (.int x2), none, some (.int (x4 &&& ((u.2 23 x5.toNatClampNeg) ^^^ (-1)))), some (.int (x5 + 1))]) dX3_doCover_36 rfl rfl (by decide) rfl rfl ?_
      refine go_goto (tgt := 6) dX3_doCover_39 (by decide) ?_
      exact h
set_option maxRecDepth 100000 in
set_option maxHeartbeats 4000000 in
theorem B_X4_isOpen_0 {g : gp} {u : sg} {Q : Option Value → sg → Prop} (x1 : Int32) (x2 : Int32) (h : (vp_in x1 9 ∧ ((x2 < (u.2 24 x1.toNatClampNeg) → Q (some (.int (0 : Int32))) u) ∧ (¬ x2 < (u.2 24 x1.toNatClampNeg) → (vp_in x1 9 ∧ (((u.2 25 x1.toNatClampNeg) ≤ x2 → Q (some (.int (0 : Int32))) u) ∧ (¬ (u.2 25 x1.toNatClampNeg) ≤ x2 → Q (some (.int (1 : Int32))) u))))))) : Go g iX4_isOpen 0 [some (.ref (gd g 5)), some (.int x1), some (.int x2)] [] u Q := by
  refine go_aload_n dX4_isOpen_0 rfl rfl ?_
  refine go_get (k := 0) (v := .ref (gd g 24)) dX4_isOpen_1 ob_5 (by decide) qf_X4_9 rfl ?_
  refine go_iload_n dX4_isOpen_4 rfl rfl ?_
  obtain ⟨hi, h⟩ := h
  refine go_ild (a := 24) (n := 9) dX4_isOpen_5 (by decide) (by decide) rfl hi ?_
  refine go_iload_n dX4_isOpen_6 rfl rfl ?_
  refine go_icmp_gt (tgt := 24) dX4_isOpen_7 (by decide) (fun hc => ?_) (fun hc => ?_)
  · replace h := h.1 hc
    refine go_iconst (v := 0) dX4_isOpen_24 (by decide) ?_
    exact go_zret dX4_isOpen_25 rfl (by decide) h
  · replace h := h.2 hc
    refine go_iload_n dX4_isOpen_10 rfl rfl ?_
    refine go_aload_n dX4_isOpen_11 rfl rfl ?_
    refine go_get (k := 1) (v := .ref (gd g 25)) dX4_isOpen_12 ob_5 (by decide) qf_X4_15 rfl ?_
    refine go_iload_n dX4_isOpen_15 rfl rfl ?_
    obtain ⟨hi, h⟩ := h
    refine go_ild (a := 25) (n := 9) dX4_isOpen_16 (by decide) (by decide) rfl hi ?_
    refine go_icmp_ge (tgt := 24) dX4_isOpen_17 (by decide) (fun hc => ?_) (fun hc => ?_)
    · replace h := h.1 hc
      refine go_iconst (v := 0) dX4_isOpen_24 (by decide) ?_
      exact go_zret dX4_isOpen_25 rfl (by decide) h
    · replace h := h.2 hc
      refine go_iconst (v := 1) dX4_isOpen_20 (by decide) ?_
      refine go_goto (tgt := 25) dX4_isOpen_21 (by decide) ?_
      exact go_zret dX4_isOpen_25 rfl (by decide) h
set_option maxRecDepth 100000 in
set_option maxHeartbeats 4000000 in
theorem B_X4_firstIn_0 {g : gp} {u : sg} {Q : Option Value → sg → Prop} (x1 : Int32) (x2 : Int32) (x3 : Int32) (x4 : Int32) (h : Go g iX4_firstIn 12 [some (.ref (gd g 5)), some (.int x1), some (.int x2), some (.int x3), some (.int x4), some (.int ((-1000000))), some (.int 1440), some (.int 0), none, none] [] u Q) : Go g iX4_firstIn 0 [some (.ref (gd g 5)), some (.int x1), some (.int x2), some (.int x3), some (.int x4), none, none, none, none, none] [] u Q := by
  refine go_ldc dX4_firstIn_0 qc_X4_27 ?_
  refine go_istore (lm := [some (.ref (gd g 5)), some (.int x1), some (.int x2), some (.int x3), some (.int x4), some (.int ((-1000000))), none, none, none, none]) dX4_firstIn_2 (by decide) rfl rfl ?_
  refine go_sipush (v := 1440) dX4_firstIn_4 (by decide) ?_
  refine go_istore (lm := [some (.ref (gd g 5)), some (.int x1), some (.int x2), some (.int x3), some (.int x4), some (.int ((-1000000))), some (.int 1440), none, none, none]) dX4_firstIn_7 (by decide) rfl rfl ?_
  refine go_iconst (v := 0) dX4_firstIn_9 (by decide) ?_
  refine go_istore (lm := [some (.ref (gd g 5)), some (.int x1), some (.int x2), some (.int x3), some (.int x4), some (.int ((-1000000))), some (.int 1440), some (.int 0), none, none]) dX4_firstIn_10 (by decide) rfl rfl ?_
  exact h
set_option maxRecDepth 100000 in
set_option maxHeartbeats 4000000 in
theorem B_X4_firstIn_12 {g : gp} {u : sg} {Q : Option Value → sg → Prop} (x1 : Int32) (x2 : Int32) (x3 : Int32) (x4 : Int32) (x5 : Int32) (x6 : Int32) (x7 : Int32) (h : (((9 : Int32) ≤ x7 → Q (some (.int x5)) u) ∧ (¬ (9 : Int32) ≤ x7 → (vp_in x7 9 ∧ (vp_in x7 9 ∧ (vp_in x7 9 ∧ (vp_in x7 9 ∧ (((u.2 25 x7.toNatClampNeg) ≤ (if (x3 + ((((if 0 ≤ (x1 - (u.2 27 x7.toNatClampNeg)) then (x1 - (u.2 27 x7.toNatClampNeg)) else 0 - (x1 - (u.2 27 x7.toNatClampNeg))) + (if 0 ≤ (x2 - (u.2 28 x7.toNatClampNeg)) then (x2 - (u.2 28 x7.toNatClampNeg)) else 0 - (x2 - (u.2 28 x7.toNatClampNeg)))) * x4) / 100)) < (u.2 24 x7.toNatClampNeg) then (u.2 24 x7.toNatClampNeg) else (x3 + ((((if 0 ≤ (x1 - (u.2 27 x7.toNatClampNeg)) then (x1 - (u.2 27 x7.toNatClampNeg)) else 0 - (x1 - (u.2 27 x7.toNatClampNeg))) + (if 0 ≤ (x2 - (u.2 28 x7.toNatClampNeg)) then (x2 - (u.2 28 x7.toNatClampNeg)) else 0 - (x2 - (u.2 28 x7.toNatClampNeg)))) * x4) / 100))) → Go g iX4_firstIn 12 [some (.ref (gd g 5)), some (.int x1), some (.int x2), some (.int x3), some (.int x4), some (.int x5), some (.int x6), some (.int (x7 + 1)), none, none] [] u Q) ∧ (¬ (u.2 25 x7.toNatClampNeg) ≤ (if (x3 + ((((if 0 ≤ (x1 - (u.2 27 x7.toNatClampNeg)) then (x1 - (u.2 27 x7.toNatClampNeg)) else 0 - (x1 - (u.2 27 x7.toNatClampNeg))) + (if 0 ≤ (x2 - (u.2 28 x7.toNatClampNeg)) then (x2 - (u.2 28 x7.toNatClampNeg)) else 0 - (x2 - (u.2 28 x7.toNatClampNeg)))) * x4) / 100)) < (u.2 24 x7.toNatClampNeg) then (u.2 24 x7.toNatClampNeg) else (x3 + ((((if 0 ≤ (x1 - (u.2 27 x7.toNatClampNeg)) then (x1 - (u.2 27 x7.toNatClampNeg)) else 0 - (x1 - (u.2 27 x7.toNatClampNeg))) + (if 0 ≤ (x2 - (u.2 28 x7.toNatClampNeg)) then (x2 - (u.2 28 x7.toNatClampNeg)) else 0 - (x2 - (u.2 28 x7.toNatClampNeg)))) * x4) / 100))) → ((x6 ≤ (if (x3 + ((((if 0 ≤ (x1 - (u.2 27 x7.toNatClampNeg)) then (x1 - (u.2 27 x7.toNatClampNeg)) else 0 - (x1 - (u.2 27 x7.toNatClampNeg))) + (if 0 ≤ (x2 - (u.2 28 x7.toNatClampNeg)) then (x2 - (u.2 28 x7.toNatClampNeg)) else 0 - (x2 - (u.2 28 x7.toNatClampNeg)))) * x4) / 100)) < (u.2 24 x7.toNatClampNeg) then (u.2 24 x7.toNatClampNeg) else (x3 + ((((if 0 ≤ (x1 - (u.2 27 x7.toNatClampNeg)) then (x1 - (u.2 27 x7.toNatClampNeg)) else 0 - (x1 - (u.2 27 x7.toNatClampNeg))) + (if 0 ≤ (x2 - (u.2 28 x7.toNatClampNeg)) then (x2 - (u.2 28 x7.toNatClampNeg)) else 0 - (x2 - (u.2 28 x7.toNatClampNeg)))) * x4) / 100))) → Go g iX4_firstIn 12 [some (.ref (gd g 5)), some (.int x1), some (.int x2), some (.int x3), some (.int x4), some (.int x5), some (.int x6), some (.int (x7 + 1)), none, none] [] u Q) ∧ (¬ x6 ≤ (if (x3 + ((((if 0 ≤ (x1 - (u.2 27 x7.toNatClampNeg)) then (x1 - (u.2 27 x7.toNatClampNeg)) else 0 - (x1 - (u.2 27 x7.toNatClampNeg))) + (if 0 ≤ (x2 - (u.2 28 x7.toNatClampNeg)) then (x2 - (u.2 28 x7.toNatClampNeg)) else 0 - (x2 - (u.2 28 x7.toNatClampNeg)))) * x4) / 100)) < (u.2 24 x7.toNatClampNeg) then (u.2 24 x7.toNatClampNeg) else (x3 + ((((if 0 ≤ (x1 - (u.2 27 x7.toNatClampNeg)) then (x1 - (u.2 27 x7.toNatClampNeg)) else 0 - (x1 - (u.2 27 x7.toNatClampNeg))) + (if 0 ≤ (x2 - (u.2 28 x7.toNatClampNeg)) then (x2 - (u.2 28 x7.toNatClampNeg)) else 0 - (x2 - (u.2 28 x7.toNatClampNeg)))) * x4) / 100))) → Go g iX4_firstIn 12 [some (.ref (gd g 5)), some (.int x1), some (.int x2), some (.int x3), some (.int x4), some (.int x7), some (.int (if (x3 + ((((if 0 ≤ (x1 - (u.2 27 x7.toNatClampNeg)) then (x1 - (u.2 27 x7.toNatClampNeg)) else 0 - (x1 - (u.2 27 x7.toNatClampNeg))) + (if 0 ≤ (x2 - (u.2 28 x7.toNatClampNeg)) then (x2 - (u.2 28 x7.toNatClampNeg)) else 0 - (x2 - (u.2 28 x7.toNatClampNeg)))) * x4) / 100)) < (u.2 24 x7.toNatClampNeg) then (u.2 24 x7.toNatClampNeg) else (x3 + ((((if 0 ≤ (x1 - (u.2 27 x7.toNatClampNeg)) then (x1 - (u.2 27 x7.toNatClampNeg)) else 0 - (x1 - (u.2 27 x7.toNatClampNeg))) + (if 0 ≤ (x2 - (u.2 28 x7.toNatClampNeg)) then (x2 - (u.2 28 x7.toNatClampNeg)) else 0 - (x2 - (u.2 28 x7.toNatClampNeg)))) * x4) / 100)))), some (.int (x7 + 1)), none, none] [] u Q))))))))))) : Go g iX4_firstIn 12 [some (.ref (gd g 5)), some (.int x1), some (.int x2), some (.int x3), some (.int x4), some (.int x5), some (.int x6), some (.int x7), none, none] [] u Q := by
  refine go_iload dX4_firstIn_12 rfl ?_
  refine go_bipush (v := 9) dX4_firstIn_14 (by decide) ?_
  refine go_icmp_ge (tgt := 101) dX4_firstIn_16 (by decide) (fun hc => ?_) (fun hc => ?_)
  · replace h := h.1 hc
    refine go_iload dX4_firstIn_101 rfl ?_
    exact go_iret dX4_firstIn_103 rfl h
  · replace h := h.2 hc
    refine go_iload_n dX4_firstIn_19 rfl rfl ?_
    refine go_aload_n dX4_firstIn_20 rfl rfl ?_
    refine go_get (k := 3) (v := .ref (gd g 27)) dX4_firstIn_21 ob_5 (by decide) qf_X4_21 rfl ?_
    refine go_iload dX4_firstIn_24 rfl ?_
    obtain ⟨hi, h⟩ := h
    refine go_ild (a := 27) (n := 9) dX4_firstIn_26 (by decide) (by decide) rfl hi ?_
    refine go_isub dX4_firstIn_27 ?_
    refine go_mabs dX4_firstIn_28 qm_X4_28 ⟨Nat.le_of_ble_eq_true rfl, Nat.le_of_ble_eq_true rfl⟩ ?_
    refine go_iload_n dX4_firstIn_31 rfl rfl ?_
    refine go_aload_n dX4_firstIn_32 rfl rfl ?_
    refine go_get (k := 4) (v := .ref (gd g 28)) dX4_firstIn_33 ob_5 (by decide) qf_X4_24 rfl ?_
    refine go_iload dX4_firstIn_36 rfl ?_
    obtain ⟨hi, h⟩ := h
    refine go_ild (a := 28) (n := 9) dX4_firstIn_38 (by decide) (by decide) rfl hi ?_
    refine go_isub dX4_firstIn_39 ?_
    refine go_mabs dX4_firstIn_40 qm_X4_28 ⟨Nat.le_of_ble_eq_true rfl, Nat.le_of_ble_eq_true rfl⟩ ?_
    refine go_iadd dX4_firstIn_43 ?_
    refine go_istore (lm := [some (.ref (gd g 5)), some (.int x1), some (.int x2), some (.int x3), some (.int x4), some (.int x5), some (.int x6), some (.int x7), some (.int ((if 0 ≤ (x1 - (u.2 27 x7.toNatClampNeg)) then (x1 - (u.2 27 x7.toNatClampNeg)) else 0 - (x1 - (u.2 27 x7.toNatClampNeg))) + (if 0 ≤ (x2 - (u.2 28 x7.toNatClampNeg)) then (x2 - (u.2 28 x7.toNatClampNeg)) else 0 - (x2 - (u.2 28 x7.toNatClampNeg))))), none]) dX4_firstIn_44 (by decide) rfl rfl ?_
    refine go_iload_n dX4_firstIn_46 rfl rfl ?_
    refine go_iload dX4_firstIn_47 rfl ?_
    refine go_iload dX4_firstIn_49 rfl ?_
    refine go_imul dX4_firstIn_51 ?_
    refine go_bipush (v := 100) dX4_firstIn_52 (by decide) ?_
    refine go_idiv dX4_firstIn_54 (by decide) ?_
    refine go_iadd dX4_firstIn_55 ?_
    refine go_aload_n dX4_firstIn_56 rfl rfl ?_
    refine go_get (k := 0) (v := .ref (gd g 24)) dX4_firstIn_57 ob_5 (by decide) qf_X4_9 rfl ?_
    refine go_iload dX4_firstIn_60 rfl ?_
    obtain ⟨hi, h⟩ := h
    refine go_ild (a := 24) (n := 9) dX4_firstIn_62 (by decide) (by decide) rfl hi ?_
    refine go_mmax dX4_firstIn_63 qm_X4_34 ⟨Nat.le_of_ble_eq_true rfl, Nat.le_of_ble_eq_true rfl⟩ ?_
    refine go_istore (lm := [some (.ref (gd g 5)), some (.int x1), some (.int x2), some (.int x3), some (.int x4), some (.int x5), some (.int x6), some (.int x7), some (.int ((if 0 ≤ (x1 - (u.2 27 x7.toNatClampNeg)) then (x1 - (u.2 27 x7.toNatClampNeg)) else 0 - (x1 - (u.2 27 x7.toNatClampNeg))) + (if 0 ≤ (x2 - (u.2 28 x7.toNatClampNeg)) then (x2 - (u.2 28 x7.toNatClampNeg)) else 0 - (x2 - (u.2 28 x7.toNatClampNeg))))), some (.int (if (x3 + ((((if 0 ≤ (x1 - (u.2 27 x7.toNatClampNeg)) then (x1 - (u.2 27 x7.toNatClampNeg)) else 0 - (x1 - (u.2 27 x7.toNatClampNeg))) + (if 0 ≤ (x2 - (u.2 28 x7.toNatClampNeg)) then (x2 - (u.2 28 x7.toNatClampNeg)) else 0 - (x2 - (u.2 28 x7.toNatClampNeg)))) * x4) / 100)) < (u.2 24 x7.toNatClampNeg) then (u.2 24 x7.toNatClampNeg) else (x3 + ((((if 0 ≤ (x1 - (u.2 27 x7.toNatClampNeg)) then (x1 - (u.2 27 x7.toNatClampNeg)) else 0 - (x1 - (u.2 27 x7.toNatClampNeg))) + (if 0 ≤ (x2 - (u.2 28 x7.toNatClampNeg)) then (x2 - (u.2 28 x7.toNatClampNeg)) else 0 - (x2 - (u.2 28 x7.toNatClampNeg)))) * x4) / 100))))]) dX4_firstIn_66 (by decide) rfl rfl ?_
    refine go_iload dX4_firstIn_68 rfl ?_
    refine go_aload_n dX4_firstIn_70 rfl rfl ?_
    refine go_get (k := 1) (v := .ref (gd g 25)) dX4_firstIn_71 ob_5 (by decide) qf_X4_15 rfl ?_
    refine go_iload dX4_firstIn_74 rfl ?_
    obtain ⟨hi, h⟩ := h
    refine go_ild (a := 25) (n := 9) dX4_firstIn_76 (by decide) (by decide) rfl hi ?_
    refine go_icmp_ge (tgt := 95) dX4_firstIn_77 (by decide) (fun hc => ?_) (fun hc => ?_)
    · replace h := h.1 hc
      refine go_iinc (v := x7 + 1) (lm := [some (.ref (gd g 5)), some (.int x1), some (.int x2), some (.int x3), some (.int x4), some (.int x5), some (.int x6), some (.int (x7 + 1)), some (.int ((if 0 ≤ (x1 - (u.2 27 x7.toNatClampNeg)) then (x1 - (u.2 27 x7.toNatClampNeg)) else 0 - (x1 - (u.2 27 x7.toNatClampNeg))) + (if 0 ≤ (x2 - (u.2 28 x7.toNatClampNeg)) then (x2 - (u.2 28 x7.toNatClampNeg)) else 0 - (x2 - (u.2 28 x7.toNatClampNeg))))), some (.int (if (x3 + ((((if 0 ≤ (x1 - (u.2 27 x7.toNatClampNeg)) then (x1 - (u.2 27 x7.toNatClampNeg)) else 0 - (x1 - (u.2 27 x7.toNatClampNeg))) + (if 0 ≤ (x2 - (u.2 28 x7.toNatClampNeg)) then (x2 - (u.2 28 x7.toNatClampNeg)) else 0 - (x2 - (u.2 28 x7.toNatClampNeg)))) * x4) / 100)) < (u.2 24 x7.toNatClampNeg) then (u.2 24 x7.toNatClampNeg) else (x3 + ((((if 0 ≤ (x1 - (u.2 27 x7.toNatClampNeg)) then (x1 - (u.2 27 x7.toNatClampNeg)) else 0 - (x1 - (u.2 27 x7.toNatClampNeg))) + (if 0 ≤ (x2 - (u.2 28 x7.toNatClampNeg)) then (x2 - (u.2 28 x7.toNatClampNeg)) else 0 - (x2 - (u.2 28 x7.toNatClampNeg)))) * x4) / 100))))]) dX4_firstIn_95 rfl rfl (by decide) rfl rfl ?_
      refine go_goto (tgt := 12) dX4_firstIn_98 (by decide) ?_
      refine go_mask [true, true, true, true, true, true, true, true, false, false] rfl ?_
      exact h
    · replace h := h.2 hc
      refine go_iload dX4_firstIn_80 rfl ?_
      refine go_iload dX4_firstIn_82 rfl ?_
      refine go_icmp_ge (tgt := 95) dX4_firstIn_84 (by decide) (fun hc => ?_) (fun hc => ?_)
      · replace h := h.1 hc
        refine go_iinc (v := x7 + 1) (lm := [some (.ref (gd g 5)), some (.int x1), some (.int x2), some (.int x3), some (.int x4), some (.int x5), some (.int x6), some (.int (x7 + 1)), some (.int ((if 0 ≤ (x1 - (u.2 27 x7.toNatClampNeg)) then (x1 - (u.2 27 x7.toNatClampNeg)) else 0 - (x1 - (u.2 27 x7.toNatClampNeg))) + (if 0 ≤ (x2 - (u.2 28 x7.toNatClampNeg)) then (x2 - (u.2 28 x7.toNatClampNeg)) else 0 - (x2 - (u.2 28 x7.toNatClampNeg))))), some (.int (if (x3 + ((((if 0 ≤ (x1 - (u.2 27 x7.toNatClampNeg)) then (x1 - (u.2 27 x7.toNatClampNeg)) else 0 - (x1 - (u.2 27 x7.toNatClampNeg))) + (if 0 ≤ (x2 - (u.2 28 x7.toNatClampNeg)) then (x2 - (u.2 28 x7.toNatClampNeg)) else 0 - (x2 - (u.2 28 x7.toNatClampNeg)))) * x4) / 100)) < (u.2 24 x7.toNatClampNeg) then (u.2 24 x7.toNatClampNeg) else (x3 + ((((if 0 ≤ (x1 - (u.2 27 x7.toNatClampNeg)) then (x1 - (u.2 27 x7.toNatClampNeg)) else 0 - (x1 - (u.2 27 x7.toNatClampNeg))) + (if 0 ≤ (x2 - (u.2 28 x7.toNatClampNeg)) then (x2 - (u.2 28 x7.toNatClampNeg)) else 0 - (x2 - (u.2 28 x7.toNatClampNeg)))) * x4) / 100))))]) dX4_firstIn_95 rfl rfl (by decide) rfl rfl ?_
        refine go_goto (tgt := 12) dX4_firstIn_98 (by decide) ?_
        refine go_mask [true, true, true, true, true, true, true, true, false, false] rfl ?_
        exact h
      · replace h := h.2 hc
        refine go_iload dX4_firstIn_87 rfl ?_
        refine go_istore (lm := [some (.ref (gd g 5)), some (.int x1), some (.int x2), some (.int x3), some (.int x4), some (.int x7), some (.int x6), some (.int x7), some (.int ((if 0 ≤ (x1 - (u.2 27 x7.toNatClampNeg)) then (x1 - (u.2 27 x7.toNatClampNeg)) else 0 - (x1 - (u.2 27 x7.toNatClampNeg))) + (if 0 ≤ (x2 - (u.2 28 x7.toNatClampNeg)) then (x2 - (u.2 28 x7.toNatClampNeg)) else 0 - (x2 - (u.2 28 x7.toNatClampNeg))))), some (.int (if (x3 + ((((if 0 ≤ (x1 - (u.2 27 x7.toNatClampNeg)) then (x1 - (u.2 27 x7.toNatClampNeg)) else 0 - (x1 - (u.2 27 x7.toNatClampNeg))) + (if 0 ≤ (x2 - (u.2 28 x7.toNatClampNeg)) then (x2 - (u.2 28 x7.toNatClampNeg)) else 0 - (x2 - (u.2 28 x7.toNatClampNeg)))) * x4) / 100)) < (u.2 24 x7.toNatClampNeg) then (u.2 24 x7.toNatClampNeg) else (x3 + ((((if 0 ≤ (x1 - (u.2 27 x7.toNatClampNeg)) then (x1 - (u.2 27 x7.toNatClampNeg)) else 0 - (x1 - (u.2 27 x7.toNatClampNeg))) + (if 0 ≤ (x2 - (u.2 28 x7.toNatClampNeg)) then (x2 - (u.2 28 x7.toNatClampNeg)) else 0 - (x2 - (u.2 28 x7.toNatClampNeg)))) * x4) / 100))))]) dX4_firstIn_89 (by decide) rfl rfl ?_
        refine go_iload dX4_firstIn_91 rfl ?_
        refine go_istore (lm := [some (.ref (gd g 5)), some (.int x1), some (.int x2), some (.int x3), some (.int x4), some (.int x7), some (.int (if (x3 + ((((if 0 ≤ (x1 - (u.2 27 x7.toNatClampNeg)) then (x1 - (u.2 27 x7.toNatClampNeg)) else 0 - (x1 - (u.2 27 x7.toNatClampNeg))) + (if 0 ≤ (x2 - (u.2 28 x7.toNatClampNeg)) then (x2 - (u.2 28 x7.toNatClampNeg)) else 0 - (x2 - (u.2 28 x7.toNatClampNeg)))) * x4) / 100)) < (u.2 24 x7.toNatClampNeg) then (u.2 24 x7.toNatClampNeg) else (x3 + ((((if 0 ≤ (x1 - (u.2 27 x7.toNatClampNeg)) then (x1 - (u.2 27 x7.toNatClampNeg)) else 0 - (x1 - (u.2 27 x7.toNatClampNeg))) + (if 0 ≤ (x2 - (u.2 28 x7.toNatClampNeg)) then (x2 - (u.2 28 x7.toNatClampNeg)) else 0 - (x2 - (u.2 28 x7.toNatClampNeg)))) * x4) / 100)))), some (.int x7), some (.int ((if 0 ≤ (x1 - (u.2 27 x7.toNatClampNeg)) then (x1 - (u.2 27 x7.toNatClampNeg)) else 0 - (x1 - (u.2 27 x7.toNatClampNeg))) + (if 0 ≤ (x2 - (u.2 28 x7.toNatClampNeg)) then (x2 - (u.2 28 x7.toNatClampNeg)) else 0 - (x2 - (u.2 28 x7.toNatClampNeg))))), some (.int (if (x3 + ((((if 0 ≤ (x1 - (u.2 27 x7.toNatClampNeg)) then (x1 - (u.2 27 x7.toNatClampNeg)) else 0 - (x1 - (u.2 27 x7.toNatClampNeg))) + (if 0 ≤ (x2 - (u.2 28 x7.toNatClampNeg)) then (x2 - (u.2 28 x7.toNatClampNeg)) else 0 - (x2 - (u.2 28 x7.toNatClampNeg)))) * x4) / 100)) < (u.2 24 x7.toNatClampNeg) then (u.2 24 x7.toNatClampNeg) else (x3 + ((((if 0 ≤ (x1 - (u.2 27 x7.toNatClampNeg)) then (x1 - (u.2 27 x7.toNatClampNeg)) else 0 - (x1 - (u.2 27 x7.toNatClampNeg))) + (if 0 ≤ (x2 - (u.2 28 x7.toNatClampNeg)) then (x2 - (u.2 28 x7.toNatClampNeg)) else 0 - (x2 - (u.2 28 x7.toNatClampNeg)))) * x4) / 100))))]) dX4_firstIn_93 (by decide) rfl rfl ?_
        refine go_iinc (v := x7 + 1) (lm := [some (.ref (gd g 5)), some (.int x1), some (.int x2), some (.int x3), some (.int x4), some (.int x7), some (.int (if (x3 + ((((if 0 ≤ (x1 - (u.2 27 x7.toNatClampNeg)) then (x1 - (u.2 27 x7.toNatClampNeg)) else 0 - (x1 - (u.2 27 x7.toNatClampNeg))) + (if 0 ≤ (x2 - (u.2 28 x7.toNatClampNeg)) then (x2 - (u.2 28 x7.toNatClampNeg)) else 0 - (x2 - (u.2 28 x7.toNatClampNeg)))) * x4) / 100)) < (u.2 24 x7.toNatClampNeg) then (u.2 24 x7.toNatClampNeg) else (x3 + ((((if 0 ≤ (x1 - (u.2 27 x7.toNatClampNeg)) then (x1 - (u.2 27 x7.toNatClampNeg)) else 0 - (x1 - (u.2 27 x7.toNatClampNeg))) + (if 0 ≤ (x2 - (u.2 28 x7.toNatClampNeg)) then (x2 - (u.2 28 x7.toNatClampNeg)) else 0 - (x2 - (u.2 28 x7.toNatClampNeg)))) * x4) / 100)))), some (.int (x7 + 1)), some (.int ((if 0 ≤ (x1 - (u.2 27 x7.toNatClampNeg)) then (x1 - (u.2 27 x7.toNatClampNeg)) else 0 - (x1 - (u.2 27 x7.toNatClampNeg))) + (if 0 ≤ (x2 - (u.2 28 x7.toNatClampNeg)) then (x2 - (u.2 28 x7.toNatClampNeg)) else 0 - (x2 - (u.2 28 x7.toNatClampNeg))))), some (.int (if (x3 + ((((if 0 ≤ (x1 - (u.2 27 x7.toNatClampNeg)) then (x1 - (u.2 27 x7.toNatClampNeg)) else 0 - (x1 - (u.2 27 x7.toNatClampNeg))) + (if 0 ≤ (x2 - (u.2 28 x7.toNatClampNeg)) then (x2 - (u.2 28 x7.toNatClampNeg)) else 0 - (x2 - (u.2 28 x7.toNatClampNeg)))) * x4) / 100)) < (u.2 24 x7.toNatClampNeg) then (u.2 24 x7.toNatClampNeg) else (x3 + ((((if 0 ≤ (x1 - (u.2 27 x7.toNatClampNeg)) then (x1 - (u.2 27 x7.toNatClampNeg)) else 0 - (x1 - (u.2 27 x7.toNatClampNeg))) + (if 0 ≤ (x2 - (u.2 28 x7.toNatClampNeg)) then (x2 - (u.2 28 x7.toNatClampNeg)) else 0 - (x2 - (u.2 28 x7.toNatClampNeg)))) * x4) / 100))))]) dX4_firstIn_95 rfl rfl (by decide) rfl rfl ?_
        refine go_goto (tgt := 12) dX4_firstIn_98 (by decide) ?_
        refine go_mask [true, true, true, true, true, true, true, true, false, false] rfl ?_
        exact h
set_option maxRecDepth 100000 in
set_option maxHeartbeats 4000000 in
theorem B_X8_isMissing_0 {g : gp} {u : sg} {Q : Option Value → sg → Prop} (x1 : Int32) (h : (vp_in x1 8 ∧ ((¬ (u.2 43 x1.toNatClampNeg) = (-1 : Int32) → Q (some (.int (0 : Int32))) u) ∧ ((u.2 43 x1.toNatClampNeg) = (-1 : Int32) → Q (some (.int (1 : Int32))) u)))) : Go g iX8_isMissing 0 [some (.ref (gd g 9)), some (.int x1)] [] u Q := by
  refine go_aload_n dX8_isMissing_0 rfl rfl ?_
  refine go_get (k := 2) (v := .ref (gd g 43)) dX8_isMissing_1 ob_9 (by decide) qf_X8_16 rfl ?_
  refine go_iload_n dX8_isMissing_4 rfl rfl ?_
  obtain ⟨hi, h⟩ := h
  refine go_ild (a := 43) (n := 8) dX8_isMissing_5 (by decide) (by decide) rfl hi ?_
  refine go_iconst (v := (-1)) dX8_isMissing_6 (by decide) ?_
  refine go_icmp_ne (tgt := 14) dX8_isMissing_7 (by decide) (fun hc => ?_) (fun hc => ?_)
  · replace h := h.1 hc
    refine go_iconst (v := 0) dX8_isMissing_14 (by decide) ?_
    exact go_zret dX8_isMissing_15 rfl (by decide) h
  · replace h := h.2 hc
    refine go_iconst (v := 1) dX8_isMissing_10 (by decide) ?_
    refine go_goto (tgt := 15) dX8_isMissing_11 (by decide) ?_
    exact go_zret dX8_isMissing_15 rfl (by decide) h
set_option maxRecDepth 100000 in
set_option maxHeartbeats 4000000 in
theorem B_X8_laneOf_0 {g : gp} {u : sg} {Q : Option Value → sg → Prop} (x1 : Int32) (h : (vp_in x1 8 ∧ Q (some (.int (u.2 42 x1.toNatClampNeg))) u)) : Go g iX8_laneOf 0 [some (.ref (gd g 9)), some (.int x1)] [] u Q := by
  refine go_aload_n dX8_laneOf_0 rfl rfl ?_
  refine go_get (k := 1) (v := .ref (gd g 42)) dX8_laneOf_1 ob_9 (by decide) qf_X8_13 rfl ?_
  refine go_iload_n dX8_laneOf_4 rfl rfl ?_
  obtain ⟨hi, h⟩ := h
  refine go_ild (a := 42) (n := 8) dX8_laneOf_5 (by decide) (by decide) rfl hi ?_
  exact go_iret dX8_laneOf_6 rfl h
set_option maxRecDepth 100000 in
set_option maxHeartbeats 4000000 in
theorem B_X8_hasPlaces_0 {g : gp} {u : sg} {Q : Option Value → sg → Prop} (x1 : Int32) (x2 : Int32) (x3 : Int32) (h : ((x2 < (0 : Int32) → Q (some (.int (0 : Int32))) u) ∧ (¬ x2 < (0 : Int32) → ((x3 < (0 : Int32) → Q (some (.int (0 : Int32))) u) ∧ (¬ x3 < (0 : Int32) → (vp_in x1 8 ∧ (((u.2 43 x1.toNatClampNeg) < x3 → Q (some (.int (0 : Int32))) u) ∧ (¬ (u.2 43 x1.toNatClampNeg) < x3 → (vp_in x1 8 ∧ ((((u.2 43 x1.toNatClampNeg) - x3) < x2 → Q (some (.int (0 : Int32))) u) ∧ (¬ ((u.2 43 x1.toNatClampNeg) - x3) < x2 → Q (some (.int (1 : Int32))) u))))))))))) : Go g iX8_hasPlaces 0 [some (.ref (gd g 9)), some (.int x1), some (.int x2), some (.int x3)] [] u Q := by
  refine go_iload_n dX8_hasPlaces_0 rfl rfl ?_
  refine go_if_lt (tgt := 34) dX8_hasPlaces_1 (by decide) (fun hc => ?_) (fun hc => ?_)
  · replace h := h.1 hc
    refine go_iconst (v := 0) dX8_hasPlaces_34 (by decide) ?_
    exact go_zret dX8_hasPlaces_35 rfl (by decide) h
  · replace h := h.2 hc
    refine go_iload_n dX8_hasPlaces_4 rfl rfl ?_
    refine go_if_lt (tgt := 34) dX8_hasPlaces_5 (by decide) (fun hc => ?_) (fun hc => ?_)
    · replace h := h.1 hc
      refine go_iconst (v := 0) dX8_hasPlaces_34 (by decide) ?_
      exact go_zret dX8_hasPlaces_35 rfl (by decide) h
    · replace h := h.2 hc
      refine go_iload_n dX8_hasPlaces_8 rfl rfl ?_
      refine go_aload_n dX8_hasPlaces_9 rfl rfl ?_
      refine go_get (k := 2) (v := .ref (gd g 43)) dX8_hasPlaces_10 ob_9 (by decide) qf_X8_16 rfl ?_
      refine go_iload_n dX8_hasPlaces_13 rfl rfl ?_
      obtain ⟨hi, h⟩ := h
      refine go_ild (a := 43) (n := 8) dX8_hasPlaces_14 (by decide) (by decide) rfl hi ?_
      refine go_icmp_gt (tgt := 34) dX8_hasPlaces_15 (by decide) (fun hc => ?_) (fun hc => ?_)
      · replace h := h.1 hc
        refine go_iconst (v := 0) dX8_hasPlaces_34 (by decide) ?_
        exact go_zret dX8_hasPlaces_35 rfl (by decide) h
      · replace h := h.2 hc
        refine go_iload_n dX8_hasPlaces_18 rfl rfl ?_
        refine go_aload_n dX8_hasPlaces_19 rfl rfl ?_
        refine go_get (k := 2) (v := .ref (gd g 43)) dX8_hasPlaces_20 ob_9 (by decide) qf_X8_16 rfl ?_
        refine go_iload_n dX8_hasPlaces_23 rfl rfl ?_
        obtain ⟨hi, h⟩ := h
        refine go_ild (a := 43) (n := 8) dX8_hasPlaces_24 (by decide) (by decide) rfl hi ?_
        refine go_iload_n dX8_hasPlaces_25 rfl rfl ?_
        refine go_isub dX8_hasPlaces_26 ?_
        refine go_icmp_gt (tgt := 34) dX8_hasPlaces_27 (by decide) (fun hc => ?_) (fun hc => ?_)
        · replace h := h.1 hc
          refine go_iconst (v := 0) dX8_hasPlaces_34 (by decide) ?_
          exact go_zret dX8_hasPlaces_35 rfl (by decide) h
        · replace h := h.2 hc
          refine go_iconst (v := 1) dX8_hasPlaces_30 (by decide) ?_
          refine go_goto (tgt := 35) dX8_hasPlaces_31 (by decide) ?_
          exact go_zret dX8_hasPlaces_35 rfl (by decide) h
set_option maxRecDepth 100000 in
set_option maxHeartbeats 4000000 in
theorem B_X8_itemAt_0 {g : gp} {u : sg} {Q : Option Value → sg → Prop} (x1 : Int32) (x2 : Int32) (h : (vp_in ((x1 * 64) + x2) 512 ∧ Q (some (.int (u.2 41 ((x1 * 64) + x2).toNatClampNeg))) u)) : Go g iX8_itemAt 0 [some (.ref (gd g 9)), some (.int x1), some (.int x2)] [] u Q := by
  refine go_aload_n dX8_itemAt_0 rfl rfl ?_
  refine go_get (k := 0) (v := .ref (gd g 41)) dX8_itemAt_1 ob_9 (by decide) qf_X8_9 rfl ?_
  refine go_iload_n dX8_itemAt_4 rfl rfl ?_
  refine go_bipush (v := 64) dX8_itemAt_5 (by decide) ?_
  refine go_imul dX8_itemAt_7 ?_
  refine go_iload_n dX8_itemAt_8 rfl rfl ?_
  refine go_iadd dX8_itemAt_9 ?_
  obtain ⟨hi, h⟩ := h
  refine go_ild (a := 41) (n := 512) dX8_itemAt_10 (by decide) (by decide) rfl hi ?_
  exact go_iret dX8_itemAt_11 rfl h
set_option maxRecDepth 100000 in
set_option maxHeartbeats 4000000 in
theorem B_X8_lay_0 {g : gp} {u : sg} {Q : Option Value → sg → Prop} (x1 : Int32) (x2 : Int32) (x3 : Int32) (h : (vp_in x1 8 ∧ (vp_in x1 8 ∧ Go g iX8_lay 17 [some (.ref (gd g 9)), some (.int x1), none, some (.int x3), some (.int 0)] [] (sA (sA u 42 x1.toNatClampNeg x2) 43 x1.toNatClampNeg x3) Q))) : Go g iX8_lay 0 [some (.ref (gd g 9)), some (.int x1), some (.int x2), some (.int x3), none] [] u Q := by
  refine go_aload_n dX8_lay_0 rfl rfl ?_
  refine go_get (k := 1) (v := .ref (gd g 42)) dX8_lay_1 ob_9 (by decide) qf_X8_13 rfl ?_
  refine go_iload_n dX8_lay_4 rfl rfl ?_
  refine go_iload_n dX8_lay_5 rfl rfl ?_
  obtain ⟨hi, h⟩ := h
  refine go_ist (a := 42) (n := 8) dX8_lay_6 (by decide) (by decide) rfl hi ?_
  refine go_aload_n dX8_lay_7 rfl rfl ?_
  refine go_get (k := 2) (v := .ref (gd g 43)) dX8_lay_8 ob_9 (by decide) qf_X8_16 rfl ?_
  refine go_iload_n dX8_lay_11 rfl rfl ?_
  refine go_iload_n dX8_lay_12 rfl rfl ?_
  obtain ⟨hi, h⟩ := h
  refine go_ist (a := 43) (n := 8) dX8_lay_13 (by decide) (by decide) rfl hi ?_
  refine go_iconst (v := 0) dX8_lay_14 (by decide) ?_
  refine go_istore (lm := [some (.ref (gd g 9)), some (.int x1), some (.int x2), some (.int x3), some (.int 0)]) dX8_lay_15 (by decide) rfl rfl ?_
  refine go_mask [true, true, false, true, true] rfl ?_
  exact h
set_option maxRecDepth 100000 in
set_option maxHeartbeats 4000000 in
theorem B_X8_lay_17 {g : gp} {u : sg} {Q : Option Value → sg → Prop} (x1 : Int32) (x3 : Int32) (x4 : Int32) (h : ((x3 ≤ x4 → Q none u) ∧ (¬ x3 ≤ x4 → (vp_in ((x1 * 64) + x4) 512 ∧ Go g iX8_lay 17 [some (.ref (gd g 9)), some (.int x1), none, some (.int x3), some (.int (x4 + 1))] [] (sA u 41 ((x1 * 64) + x4).toNatClampNeg (0 : Int32)) Q)))) : Go g iX8_lay 17 [some (.ref (gd g 9)), some (.int x1), none, some (.int x3), some (.int x4)] [] u Q := by
  refine go_iload dX8_lay_17 rfl ?_
  refine go_iload_n dX8_lay_19 rfl rfl ?_
  refine go_icmp_ge (tgt := 42) dX8_lay_20 (by decide) (fun hc => ?_) (fun hc => ?_)
  · replace h := h.1 hc
    exact go_vret dX8_lay_42 rfl h
  · replace h := h.2 hc
    refine go_aload_n dX8_lay_23 rfl rfl ?_
    refine go_get (k := 0) (v := .ref (gd g 41)) dX8_lay_24 ob_9 (by decide) qf_X8_9 rfl ?_
    refine go_iload_n dX8_lay_27 rfl rfl ?_
    refine go_bipush (v := 64) dX8_lay_28 (by decide) ?_
    refine go_imul dX8_lay_30 ?_
    refine go_iload dX8_lay_31 rfl ?_
    refine go_iadd dX8_lay_33 ?_
    refine go_iconst (v := 0) dX8_lay_34 (by decide) ?_
    obtain ⟨hi, h⟩ := h
    refine go_ist (a := 41) (n := 512) dX8_lay_35 (by decide) (by decide) rfl hi ?_
    refine go_iinc (v := x4 + 1) (lm := [some (.ref (gd g 9)), some (.int x1), none, some (.int x3), some (.int (x4 + 1))]) dX8_lay_36 rfl rfl (by decide) rfl rfl ?_
    refine go_goto (tgt := 17) dX8_lay_39 (by decide) ?_
    exact h
set_option maxRecDepth 100000 in
set_option maxHeartbeats 4000000 in
theorem B_X8_put_0 {g : gp} {u : sg} {Q : Option Value → sg → Prop} (x1 : Int32) (x2 : Int32) (x3 : Int32) (h : (vp_in x1 8 ∧ Go g iX8_cutTo 0 [some (.int (u.2 42 x1.toNatClampNeg)), some (.int x3)] [] u (QI (fun r1 u1 => (vp_in ((x1 * 64) + x2) 512 ∧ Q (some (.int r1)) (sA u1 41 ((x1 * 64) + x2).toNatClampNeg r1)))))) : Go g iX8_put 0 [some (.ref (gd g 9)), some (.int x1), some (.int x2), some (.int x3), none] [] u Q := by
  refine go_aload_n dX8_put_0 rfl rfl ?_
  refine go_get (k := 1) (v := .ref (gd g 42)) dX8_put_1 ob_9 (by decide) qf_X8_13 rfl ?_
  refine go_iload_n dX8_put_4 rfl rfl ?_
  obtain ⟨hi, h⟩ := h
  refine go_ild (a := 42) (n := 8) dX8_put_5 (by decide) (by decide) rfl hi ?_
  refine go_iload_n dX8_put_6 rfl rfl ?_
  refine go_cSi (As := [.int (u.2 42 x1.toNatClampNeg), .int x3]) (st := []) (lc := [some (.int (u.2 42 x1.toNatClampNeg)), some (.int x3)]) dX8_put_7 me_X8_cutTo qm_X8_19 rfl (Nat.le_of_ble_eq_true rfl) rfl ⟨Nat.le_of_ble_eq_true rfl, Nat.le_of_ble_eq_true rfl⟩ rfl (Nat.le_of_ble_eq_true rfl) h (fun r1 u1 h => ?_)
  refine go_istore (lm := [some (.ref (gd g 9)), some (.int x1), some (.int x2), some (.int x3), some (.int r1)]) dX8_put_10 (by decide) rfl rfl ?_
  refine go_aload_n dX8_put_12 rfl rfl ?_
  refine go_get (k := 0) (v := .ref (gd g 41)) dX8_put_13 ob_9 (by decide) qf_X8_9 rfl ?_
  refine go_iload_n dX8_put_16 rfl rfl ?_
  refine go_bipush (v := 64) dX8_put_17 (by decide) ?_
  refine go_imul dX8_put_19 ?_
  refine go_iload_n dX8_put_20 rfl rfl ?_
  refine go_iadd dX8_put_21 ?_
  refine go_iload dX8_put_22 rfl ?_
  obtain ⟨hi, h⟩ := h
  refine go_ist (a := 41) (n := 512) dX8_put_24 (by decide) (by decide) rfl hi ?_
  refine go_iload dX8_put_25 rfl ?_
  exact go_iret dX8_put_27 rfl h
set_option maxRecDepth 100000 in
set_option maxHeartbeats 4000000 in
theorem B_X8_move_0 {g : gp} {u : sg} {Q : Option Value → sg → Prop} (x1 : Int32) (x2 : Int32) (x3 : Int32) (x4 : Int32) (x5 : Int32) (h : (¬ ((x1 * 64) + x2) < 0 ∧ ¬ ((x3 * 64) + x4) < 0 ∧ ¬ x5 < 0 ∧ ((x1 * 64) + x2).toNatClampNeg + x5.toNatClampNeg ≤ 512 ∧ ((x3 * 64) + x4).toNatClampNeg + x5.toNatClampNeg ≤ 512 ∧ Q none (sF u 41 (va_cpy (u.2 41) (u.2 41) ((x1 * 64) + x2).toNatClampNeg ((x3 * 64) + x4).toNatClampNeg x5.toNatClampNeg)))) : Go g iX8_move 0 [some (.ref (gd g 9)), some (.int x1), some (.int x2), some (.int x3), some (.int x4), some (.int x5)] [] u Q := by
  refine go_aload_n dX8_move_0 rfl rfl ?_
  refine go_get (k := 0) (v := .ref (gd g 41)) dX8_move_1 ob_9 (by decide) qf_X8_9 rfl ?_
  refine go_iload_n dX8_move_4 rfl rfl ?_
  refine go_bipush (v := 64) dX8_move_5 (by decide) ?_
  refine go_imul dX8_move_7 ?_
  refine go_iload_n dX8_move_8 rfl rfl ?_
  refine go_iadd dX8_move_9 ?_
  refine go_aload_n dX8_move_10 rfl rfl ?_
  refine go_get (k := 0) (v := .ref (gd g 41)) dX8_move_11 ob_9 (by decide) qf_X8_9 rfl ?_
  refine go_iload_n dX8_move_14 rfl rfl ?_
  refine go_bipush (v := 64) dX8_move_15 (by decide) ?_
  refine go_imul dX8_move_17 ?_
  refine go_iload dX8_move_18 rfl ?_
  refine go_iadd dX8_move_20 ?_
  refine go_iload dX8_move_21 rfl ?_
  obtain ⟨e1, e2, e3, e4, e5, h⟩ := h
  refine go_cpy (a := 41) (b := 41) (na := 512) (nb := 512) dX8_move_23 qm_X8_23 rfl (by decide) (by decide) rfl (by decide) (by decide) rfl e1 e2 e3 e4 e5 ⟨Nat.le_of_ble_eq_true rfl, Nat.le_of_ble_eq_true rfl⟩ ?_
  exact go_vret dX8_move_26 rfl h
set_option maxRecDepth 100000 in
set_option maxHeartbeats 4000000 in
theorem B_X8_takeAway_0 {g : gp} {u : sg} {Q : Option Value → sg → Prop} (x1 : Int32) (h : (vp_in x1 8 ∧ (vp_in x1 8 ∧ Q (some (.int (u.2 43 x1.toNatClampNeg))) (sA u 43 x1.toNatClampNeg (-1 : Int32))))) : Go g iX8_takeAway 0 [some (.ref (gd g 9)), some (.int x1), none] [] u Q := by
  refine go_aload_n dX8_takeAway_0 rfl rfl ?_
  refine go_get (k := 2) (v := .ref (gd g 43)) dX8_takeAway_1 ob_9 (by decide) qf_X8_16 rfl ?_
  refine go_iload_n dX8_takeAway_4 rfl rfl ?_
  obtain ⟨hi, h⟩ := h
  refine go_ild (a := 43) (n := 8) dX8_takeAway_5 (by decide) (by decide) rfl hi ?_
  refine go_istore_n (lm := [some (.ref (gd g 9)), some (.int x1), some (.int (u.2 43 x1.toNatClampNeg))]) dX8_takeAway_6 rfl (by decide) rfl rfl ?_
  refine go_aload_n dX8_takeAway_7 rfl rfl ?_
  refine go_get (k := 2) (v := .ref (gd g 43)) dX8_takeAway_8 ob_9 (by decide) qf_X8_16 rfl ?_
  refine go_iload_n dX8_takeAway_11 rfl rfl ?_
  refine go_iconst (v := (-1)) dX8_takeAway_12 (by decide) ?_
  obtain ⟨hi, h⟩ := h
  refine go_ist (a := 43) (n := 8) dX8_takeAway_13 (by decide) (by decide) rfl hi ?_
  refine go_iload_n dX8_takeAway_14 rfl rfl ?_
  exact go_iret dX8_takeAway_15 rfl h
set_option maxRecDepth 100000 in
set_option maxHeartbeats 4000000 in
theorem B_X8_present_0 {g : gp} {u : sg} {Q : Option Value → sg → Prop}  (h : Go g iX8_present 4 [some (.ref (gd g 9)), some (.int 0), some (.int 0)] [] u Q) : Go g iX8_present 0 [some (.ref (gd g 9)), none, none] [] u Q := by
  refine go_iconst (v := 0) dX8_present_0 (by decide) ?_
  refine go_istore_n (lm := [some (.ref (gd g 9)), some (.int 0), none]) dX8_present_1 rfl (by decide) rfl rfl ?_
  refine go_iconst (v := 0) dX8_present_2 (by decide) ?_
  refine go_istore_n (lm := [some (.ref (gd g 9)), some (.int 0), some (.int 0)]) dX8_present_3 rfl (by decide) rfl rfl ?_
  exact h
set_option maxRecDepth 100000 in
set_option maxHeartbeats 4000000 in
theorem B_X8_present_4 {g : gp} {u : sg} {Q : Option Value → sg → Prop} (x1 : Int32) (x2 : Int32) (h : (((8 : Int32) ≤ x2 → Q (some (.int x1)) u) ∧ (¬ (8 : Int32) ≤ x2 → Go g iX8_isMissing 0 [some (.ref (gd g 9)), some (.int x2)] [] u (QI (fun r1 u1 => ((¬ r1 = (0 : Int32) → Go g iX8_present 4 [some (.ref (gd g 9)), some (.int x1), some (.int (x2 + 1))] [] u1 Q) ∧ (r1 = (0 : Int32) → Go g iX8_present 4 [some (.ref (gd g 9)), some (.int (x1 + 1)), some (.int (x2 + 1))] [] u1 Q))))))) : Go g iX8_present 4 [some (.ref (gd g 9)), some (.int x1), some (.int x2)] [] u Q := by
  refine go_iload_n dX8_present_4 rfl rfl ?_
  refine go_bipush (v := 8) dX8_present_5 (by decide) ?_
  refine go_icmp_ge (tgt := 27) dX8_present_7 (by decide) (fun hc => ?_) (fun hc => ?_)
  · replace h := h.1 hc
    refine go_iload_n dX8_present_27 rfl rfl ?_
    exact go_iret dX8_present_28 rfl h
  · replace h := h.2 hc
    refine go_aload_n dX8_present_10 rfl rfl ?_
    refine go_iload_n dX8_present_11 rfl rfl ?_
    refine go_cVi (o := 9) (As := [.int x2]) (st := []) (lc := [some (.ref (gd g 9)), some (.int x2)]) dX8_present_12 me_X8_isMissing rfl ob_9 qm_X8_29 rfl (Nat.le_of_ble_eq_true rfl) rfl ⟨Nat.le_of_ble_eq_true rfl, Nat.le_of_ble_eq_true rfl⟩ rfl (Nat.le_of_ble_eq_true rfl) h (fun r1 u1 h => ?_)
    refine go_if_ne (tgt := 21) dX8_present_15 (by decide) (fun hc => ?_) (fun hc => ?_)
    · replace h := h.1 hc
      refine go_iinc (v := x2 + 1) (lm := [some (.ref (gd g 9)), some (.int x1), some (.int (x2 + 1))]) dX8_present_21 rfl rfl (by decide) rfl rfl ?_
      refine go_goto (tgt := 4) dX8_present_24 (by decide) ?_
      exact h
    · replace h := h.2 hc
      refine go_iinc (v := x1 + 1) (lm := [some (.ref (gd g 9)), some (.int (x1 + 1)), some (.int x2)]) dX8_present_18 rfl rfl (by decide) rfl rfl ?_
      refine go_iinc (v := x2 + 1) (lm := [some (.ref (gd g 9)), some (.int (x1 + 1)), some (.int (x2 + 1))]) dX8_present_21 rfl rfl (by decide) rfl rfl ?_
      refine go_goto (tgt := 4) dX8_present_24 (by decide) ?_
      exact h
set_option maxRecDepth 100000 in
set_option maxHeartbeats 4000000 in
theorem B_X8_cutTo_0 {g : gp} {u : sg} {Q : Option Value → sg → Prop} (x0 : Int32) (x1 : Int32) (h : ((¬ x0 = (0 : Int32) → ((¬ x0 = (1 : Int32) → Q (some (.int x1)) u) ∧ (x0 = (1 : Int32) → Q (some (.int (x1.toInt16.toInt32))) u))) ∧ (x0 = (0 : Int32) → Q (some (.int (x1.toInt8.toInt32))) u))) : Go g iX8_cutTo 0 [some (.int x0), some (.int x1)] [] u Q := by
  refine go_iload_n dX8_cutTo_0 rfl rfl ?_
  refine go_if_ne (tgt := 7) dX8_cutTo_1 (by decide) (fun hc => ?_) (fun hc => ?_)
  · replace h := h.1 hc
    refine go_iload_n dX8_cutTo_7 rfl rfl ?_
    refine go_iconst (v := 1) dX8_cutTo_8 (by decide) ?_
    refine go_icmp_ne (tgt := 17) dX8_cutTo_9 (by decide) (fun hc => ?_) (fun hc => ?_)
    · replace h := h.1 hc
      refine go_iload_n dX8_cutTo_17 rfl rfl ?_
      exact go_iret dX8_cutTo_18 rfl h
    · replace h := h.2 hc
      refine go_iload_n dX8_cutTo_12 rfl rfl ?_
      refine go_i2s dX8_cutTo_13 ?_
      refine go_goto (tgt := 18) dX8_cutTo_14 (by decide) ?_
      exact go_iret dX8_cutTo_18 rfl h
  · replace h := h.2 hc
    refine go_iload_n dX8_cutTo_4 rfl rfl ?_
    refine go_i2b dX8_cutTo_5 ?_
    exact go_iret dX8_cutTo_6 rfl h
set_option maxRecDepth 100000 in
set_option maxHeartbeats 4000000 in
theorem B_X10_addHouse_0 {g : gp} {u : sg} {Q : Option Value → sg → Prop} (x1 : Int32) (x2 : Int32) (x3 : Int32) (h : (vp_in x1 12 ∧ (vp_in x1 12 ∧ (vp_in x1 12 ∧ (vp_in x1 12 ∧ Q (some (.int ((u.1 11 3) + 1))) (sI (sA (sA u 50 x1.toNatClampNeg (if (u.2 50 x1.toNatClampNeg) < x2 then x2 else (u.2 50 x1.toNatClampNeg))) 51 x1.toNatClampNeg (if (u.2 51 x1.toNatClampNeg) < x3 then x3 else (u.2 51 x1.toNatClampNeg))) 11 3 ((u.1 11 3) + 1))))))) : Go g iX10_addHouse 0 [some (.ref (gd g 11)), some (.int x1), some (.int x2), some (.int x3)] [] u Q := by
  refine go_aload_n dX10_addHouse_0 rfl rfl ?_
  refine go_get (k := 1) (v := .ref (gd g 50)) dX10_addHouse_1 ob_11 (by decide) qf_X10_15 rfl ?_
  refine go_iload_n dX10_addHouse_4 rfl rfl ?_
  refine go_aload_n dX10_addHouse_5 rfl rfl ?_
  refine go_get (k := 1) (v := .ref (gd g 50)) dX10_addHouse_6 ob_11 (by decide) qf_X10_15 rfl ?_
  refine go_iload_n dX10_addHouse_9 rfl rfl ?_
  obtain ⟨hi, h⟩ := h
  refine go_ild (a := 50) (n := 12) dX10_addHouse_10 (by decide) (by decide) rfl hi ?_
  refine go_iload_n dX10_addHouse_11 rfl rfl ?_
  refine go_mmax dX10_addHouse_12 qm_X10_21 ⟨Nat.le_of_ble_eq_true rfl, Nat.le_of_ble_eq_true rfl⟩ ?_
  obtain ⟨hi, h⟩ := h
  refine go_ist (a := 50) (n := 12) dX10_addHouse_15 (by decide) (by decide) rfl hi ?_
  refine go_aload_n dX10_addHouse_16 rfl rfl ?_
  refine go_get (k := 2) (v := .ref (gd g 51)) dX10_addHouse_17 ob_11 (by decide) qf_X10_18 rfl ?_
  refine go_iload_n dX10_addHouse_20 rfl rfl ?_
  refine go_aload_n dX10_addHouse_21 rfl rfl ?_
  refine go_get (k := 2) (v := .ref (gd g 51)) dX10_addHouse_22 ob_11 (by decide) qf_X10_18 rfl ?_
  refine go_iload_n dX10_addHouse_25 rfl rfl ?_
  obtain ⟨hi, h⟩ := h
  refine go_ild (a := 51) (n := 12) dX10_addHouse_26 (by decide) (by decide) rfl hi ?_
  refine go_iload_n dX10_addHouse_27 rfl rfl ?_
  refine go_mmax dX10_addHouse_28 qm_X10_21 ⟨Nat.le_of_ble_eq_true rfl, Nat.le_of_ble_eq_true rfl⟩ ?_
  obtain ⟨hi, h⟩ := h
  refine go_ist (a := 51) (n := 12) dX10_addHouse_31 (by decide) (by decide) rfl hi ?_
  refine go_aload_n dX10_addHouse_32 rfl rfl ?_
  refine go_dup dX10_addHouse_33 rfl ?_
  refine go_get (k := 3) (v := .int (u.1 11 3)) dX10_addHouse_34 ob_11 (by decide) qf_X10_27 rfl ?_
  refine go_iconst (v := 1) dX10_addHouse_37 (by decide) ?_
  refine go_iadd dX10_addHouse_38 ?_
  refine go_put (k := 3) dX10_addHouse_39 ob_11 (by decide) qf_X10_27 rfl rfl pf_I ?_
  refine go_aload_n dX10_addHouse_42 rfl rfl ?_
  refine go_get (k := 3) (v := .int ((u.1 11 3) + 1)) dX10_addHouse_43 ob_11 (by decide) qf_X10_27 rfl ?_
  exact go_iret dX10_addHouse_46 rfl h
set_option maxRecDepth 100000 in
set_option maxHeartbeats 4000000 in
theorem B_X10_passable_0 {g : gp} {u : sg} {Q : Option Value → sg → Prop}  (h : Go g iX10_passable 4 [some (.ref (gd g 11)), some (.int 0), some (.int 0)] [] u Q) : Go g iX10_passable 0 [some (.ref (gd g 11)), none, none] [] u Q := by
  refine go_iconst (v := 0) dX10_passable_0 (by decide) ?_
  refine go_istore_n (lm := [some (.ref (gd g 11)), some (.int 0), none]) dX10_passable_1 rfl (by decide) rfl rfl ?_
  refine go_iconst (v := 0) dX10_passable_2 (by decide) ?_
  refine go_istore_n (lm := [some (.ref (gd g 11)), some (.int 0), some (.int 0)]) dX10_passable_3 rfl (by decide) rfl rfl ?_
  exact h
set_option maxRecDepth 100000 in
set_option maxHeartbeats 4000000 in
theorem B_X10_passable_4 {g : gp} {u : sg} {Q : Option Value → sg → Prop} (x1 : Int32) (x2 : Int32) (h : (((12 : Int32) ≤ x2 → Q (some (.int x1)) u) ∧ (¬ (12 : Int32) ≤ x2 → (vp_in x2 12 ∧ (vp_in x2 12 ∧ (((u.2 50 x2.toNatClampNeg) < ((u.2 49 x2.toNatClampNeg) - 2) → Go g iX10_passable 4 [some (.ref (gd g 11)), some (.int x1), some (.int (x2 + 1))] [] u Q) ∧ (¬ (u.2 50 x2.toNatClampNeg) < ((u.2 49 x2.toNatClampNeg) - 2) → (vp_in x2 12 ∧ (vp_in x2 12 ∧ (((u.2 51 x2.toNatClampNeg) < ((u.2 49 x2.toNatClampNeg) - 4) → Go g iX10_passable 4 [some (.ref (gd g 11)), some (.int x1), some (.int (x2 + 1))] [] u Q) ∧ (¬ (u.2 51 x2.toNatClampNeg) < ((u.2 49 x2.toNatClampNeg) - 4) → Go g iX10_passable 4 [some (.ref (gd g 11)), some (.int (x1 ||| (1 <<< (x2 &&& 31)))), some (.int (x2 + 1))] [] u Q))))))))))) : Go g iX10_passable 4 [some (.ref (gd g 11)), some (.int x1), some (.int x2)] [] u Q := by
  refine go_iload_n dX10_passable_4 rfl rfl ?_
  refine go_bipush (v := 12) dX10_passable_5 (by decide) ?_
  refine go_icmp_ge (tgt := 56) dX10_passable_7 (by decide) (fun hc => ?_) (fun hc => ?_)
  · replace h := h.1 hc
    refine go_iload_n dX10_passable_56 rfl rfl ?_
    exact go_iret dX10_passable_57 rfl h
  · replace h := h.2 hc
    refine go_aload_n dX10_passable_10 rfl rfl ?_
    refine go_get (k := 1) (v := .ref (gd g 50)) dX10_passable_11 ob_11 (by decide) qf_X10_15 rfl ?_
    refine go_iload_n dX10_passable_14 rfl rfl ?_
    obtain ⟨hi, h⟩ := h
    refine go_ild (a := 50) (n := 12) dX10_passable_15 (by decide) (by decide) rfl hi ?_
    refine go_aload_n dX10_passable_16 rfl rfl ?_
    refine go_get (k := 0) (v := .ref (gd g 49)) dX10_passable_17 ob_11 (by decide) qf_X10_9 rfl ?_
    refine go_iload_n dX10_passable_20 rfl rfl ?_
    obtain ⟨hi, h⟩ := h
    refine go_ild (a := 49) (n := 12) dX10_passable_21 (by decide) (by decide) rfl hi ?_
    refine go_iconst (v := 2) dX10_passable_22 (by decide) ?_
    refine go_isub dX10_passable_23 ?_
    refine go_icmp_lt (tgt := 50) dX10_passable_24 (by decide) (fun hc => ?_) (fun hc => ?_)
    · replace h := h.1 hc
      refine go_iinc (v := x2 + 1) (lm := [some (.ref (gd g 11)), some (.int x1), some (.int (x2 + 1))]) dX10_passable_50 rfl rfl (by decide) rfl rfl ?_
      refine go_goto (tgt := 4) dX10_passable_53 (by decide) ?_
      exact h
    · replace h := h.2 hc
      refine go_aload_n dX10_passable_27 rfl rfl ?_
      refine go_get (k := 2) (v := .ref (gd g 51)) dX10_passable_28 ob_11 (by decide) qf_X10_18 rfl ?_
      refine go_iload_n dX10_passable_31 rfl rfl ?_
      obtain ⟨hi, h⟩ := h
      refine go_ild (a := 51) (n := 12) dX10_passable_32 (by decide) (by decide) rfl hi ?_
      refine go_aload_n dX10_passable_33 rfl rfl ?_
      refine go_get (k := 0) (v := .ref (gd g 49)) dX10_passable_34 ob_11 (by decide) qf_X10_9 rfl ?_
      refine go_iload_n dX10_passable_37 rfl rfl ?_
      obtain ⟨hi, h⟩ := h
      refine go_ild (a := 49) (n := 12) dX10_passable_38 (by decide) (by decide) rfl hi ?_
      refine go_iconst (v := 4) dX10_passable_39 (by decide) ?_
      refine go_isub dX10_passable_40 ?_
      refine go_icmp_lt (tgt := 50) dX10_passable_41 (by decide) (fun hc => ?_) (fun hc => ?_)
      · replace h := h.1 hc
        refine go_iinc (v := x2 + 1) (lm := [some (.ref (gd g 11)), some (.int x1), some (.int (x2 + 1))]) dX10_passable_50 rfl rfl (by decide) rfl rfl ?_
        refine go_goto (tgt := 4) dX10_passable_53 (by decide) ?_
        exact h
      · replace h := h.2 hc
        refine go_iload_n dX10_passable_44 rfl rfl ?_
        refine go_iconst (v := 1) dX10_passable_45 (by decide) ?_
        refine go_iload_n dX10_passable_46 rfl rfl ?_
        refine go_ishl dX10_passable_47 ?_
        refine go_ior dX10_passable_48 ?_
        refine go_istore_n (lm := [some (.ref (gd g 11)), some (.int (x1 ||| (1 <<< (x2 &&& 31)))), some (.int x2)]) dX10_passable_49 rfl (by decide) rfl rfl ?_
        refine go_iinc (v := x2 + 1) (lm := [some (.ref (gd g 11)), some (.int (x1 ||| (1 <<< (x2 &&& 31)))), some (.int (x2 + 1))]) dX10_passable_50 rfl rfl (by decide) rfl rfl ?_
        refine go_goto (tgt := 4) dX10_passable_53 (by decide) ?_
        exact h
