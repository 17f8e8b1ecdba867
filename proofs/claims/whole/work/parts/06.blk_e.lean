theorem dX7_hasRoom_0 : decode cX7_hasRoom 0 = .ok (.iload_n 1, 1) := by decide +kernel
theorem dX7_hasRoom_1 : decode cX7_hasRoom 1 = .ok (.sipush 400, 3) := by decide +kernel
theorem dX7_hasRoom_4 : decode cX7_hasRoom 4 = .ok (.aload_n 0, 1) := by decide +kernel
theorem dX7_hasRoom_5 : decode cX7_hasRoom 5 = .ok (.getfield 19, 3) := by decide +kernel
theorem dX7_hasRoom_8 : decode cX7_hasRoom 8 = .ok (.isub, 1) := by decide +kernel
theorem dX7_hasRoom_9 : decode cX7_hasRoom 9 = .ok (.if_icmp .gt 7, 3) := by decide +kernel
theorem dX7_hasRoom_12 : decode cX7_hasRoom 12 = .ok (.iconst 1, 1) := by decide +kernel
theorem dX7_hasRoom_13 : decode cX7_hasRoom 13 = .ok (.goto 4, 3) := by decide +kernel
theorem dX7_hasRoom_16 : decode cX7_hasRoom 16 = .ok (.iconst 0, 1) := by decide +kernel
theorem dX7_hasRoom_17 : decode cX7_hasRoom 17 = .ok (.ireturn, 1) := by decide +kernel
theorem dX7_append_0 : decode cX7_append 0 = .ok (.iload_n 3, 1) := by decide +kernel
theorem dX7_append_1 : decode cX7_append 1 = .ok (.iconst 1, 1) := by decide +kernel
theorem dX7_append_2 : decode cX7_append 2 = .ok (.isub, 1) := by decide +kernel
theorem dX7_append_3 : decode cX7_append 3 = .ok (.istore 4, 2) := by decide +kernel
theorem dX7_append_5 : decode cX7_append 5 = .ok (.iload 4, 2) := by decide +kernel
theorem dX7_append_7 : decode cX7_append 7 = .ok (.ifCond .lt 40, 3) := by decide +kernel
theorem dX7_append_10 : decode cX7_append 10 = .ok (.aload_n 0, 1) := by decide +kernel
theorem dX7_append_11 : decode cX7_append 11 = .ok (.getfield 11, 3) := by decide +kernel
theorem dX7_append_14 : decode cX7_append 14 = .ok (.aload_n 0, 1) := by decide +kernel
theorem dX7_append_15 : decode cX7_append 15 = .ok (.getfield 19, 3) := by decide +kernel
theorem dX7_append_18 : decode cX7_append 18 = .ok (.lload_n 1, 1) := by decide +kernel
theorem dX7_append_19 : decode cX7_append 19 = .ok (.bipush 8, 2) := by decide +kernel
theorem dX7_append_21 : decode cX7_append 21 = .ok (.iload 4, 2) := by decide +kernel
theorem dX7_append_23 : decode cX7_append 23 = .ok (.imul, 1) := by decide +kernel
theorem dX7_append_24 : decode cX7_append 24 = .ok (.lushr, 1) := by decide +kernel
theorem dX7_append_25 : decode cX7_append 25 = .ok (.l2i, 1) := by decide +kernel
theorem dX7_append_26 : decode cX7_append 26 = .ok (.sipush 255, 3) := by decide +kernel
theorem dX7_append_29 : decode cX7_append 29 = .ok (.iand, 1) := by decide +kernel
theorem dX7_append_30 : decode cX7_append 30 = .ok (.iastore, 1) := by decide +kernel
theorem dX7_append_31 : decode cX7_append 31 = .ok (.aload_n 0, 1) := by decide +kernel
theorem dX7_append_32 : decode cX7_append 32 = .ok (.dup, 1) := by decide +kernel
theorem dX7_append_33 : decode cX7_append 33 = .ok (.getfield 19, 3) := by decide +kernel
theorem dX7_append_36 : decode cX7_append 36 = .ok (.iconst 1, 1) := by decide +kernel
theorem dX7_append_37 : decode cX7_append 37 = .ok (.iadd, 1) := by decide +kernel
theorem dX7_append_38 : decode cX7_append 38 = .ok (.putfield 19, 3) := by decide +kernel
theorem dX7_append_41 : decode cX7_append 41 = .ok (.iinc 4 (-1), 3) := by decide +kernel
theorem dX7_append_44 : decode cX7_append 44 = .ok (.goto (-39), 3) := by decide +kernel
theorem dX7_append_47 : decode cX7_append 47 = .ok (.return_, 1) := by decide +kernel
theorem dX7_readTape_0 : decode cX7_readTape 0 = .ok (.aload_n 0, 1) := by decide +kernel
theorem dX7_readTape_1 : decode cX7_readTape 1 = .ok (.iconst 0, 1) := by decide +kernel
theorem dX7_readTape_2 : decode cX7_readTape 2 = .ok (.putfield 23, 3) := by decide +kernel
theorem dX7_readTape_5 : decode cX7_readTape 5 = .ok (.aload_n 0, 1) := by decide +kernel
theorem dX7_readTape_6 : decode cX7_readTape 6 = .ok (.getfield 15, 3) := by decide +kernel
theorem dX7_readTape_9 : decode cX7_readTape 9 = .ok (.invokevirtual 26, 3) := by decide +kernel
theorem dX7_readTape_12 : decode cX7_readTape 12 = .ok (.aload_n 0, 1) := by decide +kernel
theorem dX7_readTape_13 : decode cX7_readTape 13 = .ok (.invokevirtual 31, 3) := by decide +kernel
theorem dX7_readTape_16 : decode cX7_readTape 16 = .ok (.iconst 1, 1) := by decide +kernel
theorem dX7_readTape_17 : decode cX7_readTape 17 = .ok (.istore_n 1, 1) := by decide +kernel
theorem dX7_readTape_18 : decode cX7_readTape 18 = .ok (.iconst 0, 1) := by decide +kernel
theorem dX7_readTape_19 : decode cX7_readTape 19 = .ok (.istore_n 2, 1) := by decide +kernel
theorem dX7_readTape_20 : decode cX7_readTape 20 = .ok (.iload_n 2, 1) := by decide +kernel
theorem dX7_readTape_21 : decode cX7_readTape 21 = .ok (.sipush 400, 3) := by decide +kernel
theorem dX7_readTape_24 : decode cX7_readTape 24 = .ok (.if_icmp .ge 25, 3) := by decide +kernel
theorem dX7_readTape_27 : decode cX7_readTape 27 = .ok (.iload_n 1, 1) := by decide +kernel
theorem dX7_readTape_28 : decode cX7_readTape 28 = .ok (.ifCond .eq 21, 3) := by decide +kernel
theorem dX7_readTape_31 : decode cX7_readTape 31 = .ok (.aload_n 0, 1) := by decide +kernel
theorem dX7_readTape_32 : decode cX7_readTape 32 = .ok (.getfield 34, 3) := by decide +kernel
theorem dX7_readTape_35 : decode cX7_readTape 35 = .ok (.ifCond .eq 14, 3) := by decide +kernel
theorem dX7_readTape_38 : decode cX7_readTape 38 = .ok (.aload_n 0, 1) := by decide +kernel
theorem dX7_readTape_39 : decode cX7_readTape 39 = .ok (.invokevirtual 37, 3) := by decide +kernel
theorem dX7_readTape_42 : decode cX7_readTape 42 = .ok (.istore_n 1, 1) := by decide +kernel
theorem dX7_readTape_43 : decode cX7_readTape 43 = .ok (.iinc 2 1, 3) := by decide +kernel
theorem dX7_readTape_46 : decode cX7_readTape 46 = .ok (.goto (-26), 3) := by decide +kernel
theorem dX7_readTape_49 : decode cX7_readTape 49 = .ok (.iload_n 1, 1) := by decide +kernel
theorem dX7_readTape_50 : decode cX7_readTape 50 = .ok (.ifCond .eq 10, 3) := by decide +kernel
theorem dX7_readTape_53 : decode cX7_readTape 53 = .ok (.aload_n 0, 1) := by decide +kernel
theorem dX7_readTape_54 : decode cX7_readTape 54 = .ok (.getfield 15, 3) := by decide +kernel
theorem dX7_readTape_57 : decode cX7_readTape 57 = .ok (.invokevirtual 41, 3) := by decide +kernel
theorem dX7_readTape_60 : decode cX7_readTape 60 = .ok (.aload_n 0, 1) := by decide +kernel
theorem dX7_readTape_61 : decode cX7_readTape 61 = .ok (.iconst 0, 1) := by decide +kernel
theorem dX7_readTape_62 : decode cX7_readTape 62 = .ok (.putfield 19, 3) := by decide +kernel
theorem dX7_readTape_65 : decode cX7_readTape 65 = .ok (.iload_n 1, 1) := by decide +kernel
theorem dX7_readTape_66 : decode cX7_readTape 66 = .ok (.ireturn, 1) := by decide +kernel
theorem dX7_readSection_0 : decode cX7_readSection 0 = .ok (.aload_n 0, 1) := by decide +kernel
theorem dX7_readSection_1 : decode cX7_readSection 1 = .ok (.ldc 44, 2) := by decide +kernel
theorem dX7_readSection_3 : decode cX7_readSection 3 = .ok (.invokevirtual 46, 3) := by decide +kernel
theorem dX7_readSection_6 : decode cX7_readSection 6 = .ok (.ifCond .ne 9, 3) := by decide +kernel
theorem dX7_readSection_9 : decode cX7_readSection 9 = .ok (.aload_n 0, 1) := by decide +kernel
theorem dX7_readSection_10 : decode cX7_readSection 10 = .ok (.iconst 1, 1) := by decide +kernel
theorem dX7_readSection_11 : decode cX7_readSection 11 = .ok (.invokevirtual 50, 3) := by decide +kernel
theorem dX7_readSection_14 : decode cX7_readSection 14 = .ok (.ireturn, 1) := by decide +kernel
theorem dX7_readSection_15 : decode cX7_readSection 15 = .ok (.aload_n 0, 1) := by decide +kernel
theorem dX7_readSection_16 : decode cX7_readSection 16 = .ok (.invokevirtual 31, 3) := by decide +kernel
theorem dX7_readSection_19 : decode cX7_readSection 19 = .ok (.aload_n 0, 1) := by decide +kernel
theorem dX7_readSection_20 : decode cX7_readSection 20 = .ok (.sipush 999, 3) := by decide +kernel
theorem dX7_readSection_23 : decode cX7_readSection 23 = .ok (.invokevirtual 54, 3) := by decide +kernel
theorem dX7_readSection_26 : decode cX7_readSection 26 = .ok (.ifCond .ne 5, 3) := by decide +kernel
theorem dX7_readSection_29 : decode cX7_readSection 29 = .ok (.iconst 0, 1) := by decide +kernel
theorem dX7_readSection_30 : decode cX7_readSection 30 = .ok (.ireturn, 1) := by decide +kernel
theorem dX7_readSection_31 : decode cX7_readSection 31 = .ok (.aload_n 0, 1) := by decide +kernel
theorem dX7_readSection_32 : decode cX7_readSection 32 = .ok (.getfield 57, 3) := by decide +kernel
theorem dX7_readSection_35 : decode cX7_readSection 35 = .ok (.istore_n 1, 1) := by decide +kernel
theorem dX7_readSection_36 : decode cX7_readSection 36 = .ok (.aload_n 0, 1) := by decide +kernel
theorem dX7_readSection_37 : decode cX7_readSection 37 = .ok (.invokevirtual 31, 3) := by decide +kernel
theorem dX7_readSection_40 : decode cX7_readSection 40 = .ok (.aload_n 0, 1) := by decide +kernel
theorem dX7_readSection_41 : decode cX7_readSection 41 = .ok (.iload_n 1, 1) := by decide +kernel
theorem dX7_readSection_42 : decode cX7_readSection 42 = .ok (.invokevirtual 60, 3) := by decide +kernel
theorem dX7_readSection_45 : decode cX7_readSection 45 = .ok (.istore_n 2, 1) := by decide +kernel
theorem dX7_readSection_46 : decode cX7_readSection 46 = .ok (.iconst 0, 1) := by decide +kernel
theorem dX7_readSection_47 : decode cX7_readSection 47 = .ok (.istore_n 3, 1) := by decide +kernel
theorem dX7_readSection_48 : decode cX7_readSection 48 = .ok (.iload_n 3, 1) := by decide +kernel
theorem dX7_readSection_49 : decode cX7_readSection 49 = .ok (.sipush 400, 3) := by decide +kernel
theorem dX7_readSection_52 : decode cX7_readSection 52 = .ok (.if_icmp .ge 27, 3) := by decide +kernel
theorem dX7_readSection_55 : decode cX7_readSection 55 = .ok (.iload_n 2, 1) := by decide +kernel
theorem dX7_readSection_56 : decode cX7_readSection 56 = .ok (.ifCond .eq 23, 3) := by decide +kernel
theorem dX7_readSection_59 : decode cX7_readSection 59 = .ok (.aload_n 0, 1) := by decide +kernel
theorem dX7_readSection_60 : decode cX7_readSection 60 = .ok (.getfield 34, 3) := by decide +kernel
theorem dX7_readSection_63 : decode cX7_readSection 63 = .ok (.iconst 3, 1) := by decide +kernel
theorem dX7_readSection_64 : decode cX7_readSection 64 = .ok (.if_icmp .eq 15, 3) := by decide +kernel
theorem dX7_readSection_67 : decode cX7_readSection 67 = .ok (.aload_n 0, 1) := by decide +kernel
theorem dX7_readSection_68 : decode cX7_readSection 68 = .ok (.iload_n 1, 1) := by decide +kernel
theorem dX7_readSection_69 : decode cX7_readSection 69 = .ok (.invokevirtual 60, 3) := by decide +kernel
theorem dX7_readSection_72 : decode cX7_readSection 72 = .ok (.istore_n 2, 1) := by decide +kernel
theorem dX7_readSection_73 : decode cX7_readSection 73 = .ok (.iinc 3 1, 3) := by decide +kernel
theorem dX7_readSection_76 : decode cX7_readSection 76 = .ok (.goto (-28), 3) := by decide +kernel
theorem dX7_readSection_79 : decode cX7_readSection 79 = .ok (.iload_n 2, 1) := by decide +kernel
theorem dX7_readSection_80 : decode cX7_readSection 80 = .ok (.ifCond .eq 7, 3) := by decide +kernel
theorem dX7_readSection_83 : decode cX7_readSection 83 = .ok (.aload_n 0, 1) := by decide +kernel
theorem dX7_readSection_84 : decode cX7_readSection 84 = .ok (.invokevirtual 31, 3) := by decide +kernel
theorem dX7_readSection_87 : decode cX7_readSection 87 = .ok (.iload_n 2, 1) := by decide +kernel
theorem dX7_readSection_88 : decode cX7_readSection 88 = .ok (.ireturn, 1) := by decide +kernel
theorem dX7_readLaw_0 : decode cX7_readLaw 0 = .ok (.aload_n 0, 1) := by decide +kernel
theorem dX7_readLaw_1 : decode cX7_readLaw 1 = .ok (.invokevirtual 63, 3) := by decide +kernel
theorem dX7_readLaw_4 : decode cX7_readLaw 4 = .ok (.istore_n 2, 1) := by decide +kernel
theorem dX7_readLaw_5 : decode cX7_readLaw 5 = .ok (.iload_n 2, 1) := by decide +kernel
theorem dX7_readLaw_6 : decode cX7_readLaw 6 = .ok (.iconst (-1), 1) := by decide +kernel
theorem dX7_readLaw_7 : decode cX7_readLaw 7 = .ok (.if_icmp .ne 9, 3) := by decide +kernel
theorem dX7_readLaw_10 : decode cX7_readLaw 10 = .ok (.aload_n 0, 1) := by decide +kernel
theorem dX7_readLaw_11 : decode cX7_readLaw 11 = .ok (.iconst 1, 1) := by decide +kernel
theorem dX7_readLaw_12 : decode cX7_readLaw 12 = .ok (.invokevirtual 50, 3) := by decide +kernel
theorem dX7_readLaw_15 : decode cX7_readLaw 15 = .ok (.ireturn, 1) := by decide +kernel
theorem dX7_readLaw_16 : decode cX7_readLaw 16 = .ok (.aload_n 0, 1) := by decide +kernel
theorem dX7_readLaw_17 : decode cX7_readLaw 17 = .ok (.getfield 15, 3) := by decide +kernel
theorem dX7_readLaw_20 : decode cX7_readLaw 20 = .ok (.invokevirtual 67, 3) := by decide +kernel
theorem dX7_readLaw_23 : decode cX7_readLaw 23 = .ok (.ifCond .eq 9, 3) := by decide +kernel
theorem dX7_readLaw_26 : decode cX7_readLaw 26 = .ok (.aload_n 0, 1) := by decide +kernel
theorem dX7_readLaw_27 : decode cX7_readLaw 27 = .ok (.iconst 3, 1) := by decide +kernel
theorem dX7_readLaw_28 : decode cX7_readLaw 28 = .ok (.invokevirtual 50, 3) := by decide +kernel
theorem dX7_readLaw_31 : decode cX7_readLaw 31 = .ok (.ireturn, 1) := by decide +kernel
theorem dX7_readLaw_32 : decode cX7_readLaw 32 = .ok (.aload_n 0, 1) := by decide +kernel
theorem dX7_readLaw_33 : decode cX7_readLaw 33 = .ok (.invokevirtual 31, 3) := by decide +kernel
theorem dX7_readLaw_36 : decode cX7_readLaw 36 = .ok (.aload_n 0, 1) := by decide +kernel
theorem dX7_readLaw_37 : decode cX7_readLaw 37 = .ok (.getstatic 70, 3) := by decide +kernel
theorem dX7_readLaw_40 : decode cX7_readLaw 40 = .ok (.iload_n 2, 1) := by decide +kernel
theorem dX7_readLaw_41 : decode cX7_readLaw 41 = .ok (.iaload, 1) := by decide +kernel
theorem dX7_readLaw_42 : decode cX7_readLaw 42 = .ok (.invokevirtual 54, 3) := by decide +kernel
theorem dX7_readLaw_45 : decode cX7_readLaw 45 = .ok (.ifCond .ne 5, 3) := by decide +kernel
theorem dX7_readLaw_48 : decode cX7_readLaw 48 = .ok (.iconst 0, 1) := by decide +kernel
theorem dX7_readLaw_49 : decode cX7_readLaw 49 = .ok (.ireturn, 1) := by decide +kernel
theorem dX7_readLaw_50 : decode cX7_readLaw 50 = .ok (.aload_n 0, 1) := by decide +kernel
theorem dX7_readLaw_51 : decode cX7_readLaw 51 = .ok (.getfield 57, 3) := by decide +kernel
theorem dX7_readLaw_54 : decode cX7_readLaw 54 = .ok (.istore_n 3, 1) := by decide +kernel
theorem dX7_readLaw_55 : decode cX7_readLaw 55 = .ok (.aload_n 0, 1) := by decide +kernel
theorem dX7_readLaw_56 : decode cX7_readLaw 56 = .ok (.invokevirtual 31, 3) := by decide +kernel
theorem dX7_readLaw_59 : decode cX7_readLaw 59 = .ok (.iload_n 2, 1) := by decide +kernel
theorem dX7_readLaw_60 : decode cX7_readLaw 60 = .ok (.iconst 1, 1) := by decide +kernel
theorem dX7_readLaw_61 : decode cX7_readLaw 61 = .ok (.if_icmp .eq 8, 3) := by decide +kernel
theorem dX7_readLaw_64 : decode cX7_readLaw 64 = .ok (.iload_n 2, 1) := by decide +kernel
theorem dX7_readLaw_65 : decode cX7_readLaw 65 = .ok (.iconst 2, 1) := by decide +kernel
theorem dX7_readLaw_66 : decode cX7_readLaw 66 = .ok (.if_icmp .ne 41, 3) := by decide +kernel
theorem dX7_readLaw_69 : decode cX7_readLaw 69 = .ok (.aload_n 0, 1) := by decide +kernel
theorem dX7_readLaw_70 : decode cX7_readLaw 70 = .ok (.sipush 999, 3) := by decide +kernel
theorem dX7_readLaw_73 : decode cX7_readLaw 73 = .ok (.invokevirtual 54, 3) := by decide +kernel
theorem dX7_readLaw_76 : decode cX7_readLaw 76 = .ok (.ifCond .ne 5, 3) := by decide +kernel
theorem dX7_readLaw_79 : decode cX7_readLaw 79 = .ok (.iconst 0, 1) := by decide +kernel
theorem dX7_readLaw_80 : decode cX7_readLaw 80 = .ok (.ireturn, 1) := by decide +kernel
theorem dX7_readLaw_81 : decode cX7_readLaw 81 = .ok (.aload_n 0, 1) := by decide +kernel
theorem dX7_readLaw_82 : decode cX7_readLaw 82 = .ok (.getfield 15, 3) := by decide +kernel
theorem dX7_readLaw_85 : decode cX7_readLaw 85 = .ok (.iload_n 1, 1) := by decide +kernel
theorem dX7_readLaw_86 : decode cX7_readLaw 86 = .ok (.getstatic 73, 3) := by decide +kernel
theorem dX7_readLaw_89 : decode cX7_readLaw 89 = .ok (.iload_n 2, 1) := by decide +kernel
theorem dX7_readLaw_90 : decode cX7_readLaw 90 = .ok (.iaload, 1) := by decide +kernel
theorem dX7_readLaw_91 : decode cX7_readLaw 91 = .ok (.iload_n 3, 1) := by decide +kernel
theorem dX7_readLaw_92 : decode cX7_readLaw 92 = .ok (.iadd, 1) := by decide +kernel
theorem dX7_readLaw_93 : decode cX7_readLaw 93 = .ok (.aload_n 0, 1) := by decide +kernel
theorem dX7_readLaw_94 : decode cX7_readLaw 94 = .ok (.getfield 57, 3) := by decide +kernel
theorem dX7_readLaw_97 : decode cX7_readLaw 97 = .ok (.invokevirtual 76, 3) := by decide +kernel
theorem dX7_readLaw_100 : decode cX7_readLaw 100 = .ok (.aload_n 0, 1) := by decide +kernel
theorem dX7_readLaw_101 : decode cX7_readLaw 101 = .ok (.invokevirtual 31, 3) := by decide +kernel
theorem dX7_readLaw_104 : decode cX7_readLaw 104 = .ok (.goto 54, 3) := by decide +kernel
theorem dX7_readLaw_107 : decode cX7_readLaw 107 = .ok (.iload_n 2, 1) := by decide +kernel
theorem dX7_readLaw_108 : decode cX7_readLaw 108 = .ok (.ifCond .ne 20, 3) := by decide +kernel
theorem dX7_readLaw_111 : decode cX7_readLaw 111 = .ok (.aload_n 0, 1) := by decide +kernel
theorem dX7_readLaw_112 : decode cX7_readLaw 112 = .ok (.getfield 15, 3) := by decide +kernel
theorem dX7_readLaw_115 : decode cX7_readLaw 115 = .ok (.iload_n 1, 1) := by decide +kernel
theorem dX7_readLaw_116 : decode cX7_readLaw 116 = .ok (.getstatic 73, 3) := by decide +kernel
theorem dX7_readLaw_119 : decode cX7_readLaw 119 = .ok (.iload_n 2, 1) := by decide +kernel
theorem dX7_readLaw_120 : decode cX7_readLaw 120 = .ok (.iaload, 1) := by decide +kernel
theorem dX7_readLaw_121 : decode cX7_readLaw 121 = .ok (.iload_n 3, 1) := by decide +kernel
theorem dX7_readLaw_122 : decode cX7_readLaw 122 = .ok (.invokevirtual 76, 3) := by decide +kernel
theorem dX7_readLaw_125 : decode cX7_readLaw 125 = .ok (.goto 33, 3) := by decide +kernel
theorem dX7_readLaw_128 : decode cX7_readLaw 128 = .ok (.aload_n 0, 1) := by decide +kernel
theorem dX7_readLaw_129 : decode cX7_readLaw 129 = .ok (.getfield 15, 3) := by decide +kernel
theorem dX7_readLaw_132 : decode cX7_readLaw 132 = .ok (.iload_n 1, 1) := by decide +kernel
theorem dX7_readLaw_133 : decode cX7_readLaw 133 = .ok (.getstatic 73, 3) := by decide +kernel
theorem dX7_readLaw_136 : decode cX7_readLaw 136 = .ok (.iload_n 2, 1) := by decide +kernel
theorem dX7_readLaw_137 : decode cX7_readLaw 137 = .ok (.iaload, 1) := by decide +kernel
theorem dX7_readLaw_138 : decode cX7_readLaw 138 = .ok (.iload_n 3, 1) := by decide +kernel
theorem dX7_readLaw_139 : decode cX7_readLaw 139 = .ok (.iadd, 1) := by decide +kernel
theorem dX7_readLaw_140 : decode cX7_readLaw 140 = .ok (.iload_n 2, 1) := by decide +kernel
theorem dX7_readLaw_141 : decode cX7_readLaw 141 = .ok (.iconst 3, 1) := by decide +kernel
theorem dX7_readLaw_142 : decode cX7_readLaw 142 = .ok (.if_icmp .eq 8, 3) := by decide +kernel
theorem dX7_readLaw_145 : decode cX7_readLaw 145 = .ok (.iload_n 2, 1) := by decide +kernel
theorem dX7_readLaw_146 : decode cX7_readLaw 146 = .ok (.iconst 5, 1) := by decide +kernel
theorem dX7_readLaw_147 : decode cX7_readLaw 147 = .ok (.if_icmp .ne 7, 3) := by decide +kernel
theorem dX7_readLaw_150 : decode cX7_readLaw 150 = .ok (.iconst 1, 1) := by decide +kernel
theorem dX7_readLaw_151 : decode cX7_readLaw 151 = .ok (.goto 4, 3) := by decide +kernel
theorem dX7_readLaw_154 : decode cX7_readLaw 154 = .ok (.iconst 0, 1) := by decide +kernel
theorem dX7_readLaw_155 : decode cX7_readLaw 155 = .ok (.invokevirtual 76, 3) := by decide +kernel
theorem dX7_readLaw_158 : decode cX7_readLaw 158 = .ok (.iconst 1, 1) := by decide +kernel
theorem dX7_readLaw_159 : decode cX7_readLaw 159 = .ok (.ireturn, 1) := by decide +kernel
theorem dX7_lawWord_0 : decode cX7_lawWord 0 = .ok (.aload_n 0, 1) := by decide +kernel
theorem dX7_lawWord_1 : decode cX7_lawWord 1 = .ok (.ldc 80, 2) := by decide +kernel
theorem dX7_lawWord_3 : decode cX7_lawWord 3 = .ok (.invokevirtual 46, 3) := by decide +kernel
theorem dX7_lawWord_6 : decode cX7_lawWord 6 = .ok (.ifCond .eq 5, 3) := by decide +kernel
theorem dX7_lawWord_9 : decode cX7_lawWord 9 = .ok (.iconst 0, 1) := by decide +kernel
theorem dX7_lawWord_10 : decode cX7_lawWord 10 = .ok (.ireturn, 1) := by decide +kernel
theorem dX7_lawWord_11 : decode cX7_lawWord 11 = .ok (.aload_n 0, 1) := by decide +kernel
theorem dX7_lawWord_12 : decode cX7_lawWord 12 = .ok (.ldc 82, 2) := by decide +kernel
theorem dX7_lawWord_14 : decode cX7_lawWord 14 = .ok (.invokevirtual 46, 3) := by decide +kernel
theorem dX7_lawWord_17 : decode cX7_lawWord 17 = .ok (.ifCond .eq 5, 3) := by decide +kernel
theorem dX7_lawWord_20 : decode cX7_lawWord 20 = .ok (.iconst 1, 1) := by decide +kernel
theorem dX7_lawWord_21 : decode cX7_lawWord 21 = .ok (.ireturn, 1) := by decide +kernel
theorem dX7_lawWord_22 : decode cX7_lawWord 22 = .ok (.aload_n 0, 1) := by decide +kernel
theorem dX7_lawWord_23 : decode cX7_lawWord 23 = .ok (.ldc 84, 2) := by decide +kernel
theorem dX7_lawWord_25 : decode cX7_lawWord 25 = .ok (.invokevirtual 46, 3) := by decide +kernel
theorem dX7_lawWord_28 : decode cX7_lawWord 28 = .ok (.ifCond .eq 5, 3) := by decide +kernel
theorem dX7_lawWord_31 : decode cX7_lawWord 31 = .ok (.iconst 2, 1) := by decide +kernel
theorem dX7_lawWord_32 : decode cX7_lawWord 32 = .ok (.ireturn, 1) := by decide +kernel
theorem dX7_lawWord_33 : decode cX7_lawWord 33 = .ok (.aload_n 0, 1) := by decide +kernel
theorem dX7_lawWord_34 : decode cX7_lawWord 34 = .ok (.ldc 86, 2) := by decide +kernel
theorem dX7_lawWord_36 : decode cX7_lawWord 36 = .ok (.invokevirtual 46, 3) := by decide +kernel
theorem dX7_lawWord_39 : decode cX7_lawWord 39 = .ok (.ifCond .eq 5, 3) := by decide +kernel
theorem dX7_lawWord_42 : decode cX7_lawWord 42 = .ok (.iconst 3, 1) := by decide +kernel
theorem dX7_lawWord_43 : decode cX7_lawWord 43 = .ok (.ireturn, 1) := by decide +kernel
theorem dX7_lawWord_44 : decode cX7_lawWord 44 = .ok (.aload_n 0, 1) := by decide +kernel
theorem dX7_lawWord_45 : decode cX7_lawWord 45 = .ok (.ldc 88, 2) := by decide +kernel
theorem dX7_lawWord_47 : decode cX7_lawWord 47 = .ok (.invokevirtual 46, 3) := by decide +kernel
theorem dX7_lawWord_50 : decode cX7_lawWord 50 = .ok (.ifCond .eq 5, 3) := by decide +kernel
theorem dX7_lawWord_53 : decode cX7_lawWord 53 = .ok (.iconst 4, 1) := by decide +kernel
theorem dX7_lawWord_54 : decode cX7_lawWord 54 = .ok (.ireturn, 1) := by decide +kernel
theorem dX7_lawWord_55 : decode cX7_lawWord 55 = .ok (.aload_n 0, 1) := by decide +kernel
theorem dX7_lawWord_56 : decode cX7_lawWord 56 = .ok (.ldc 90, 2) := by decide +kernel
theorem dX7_lawWord_58 : decode cX7_lawWord 58 = .ok (.invokevirtual 46, 3) := by decide +kernel
theorem dX7_lawWord_61 : decode cX7_lawWord 61 = .ok (.ifCond .eq 5, 3) := by decide +kernel
theorem dX7_lawWord_64 : decode cX7_lawWord 64 = .ok (.iconst 5, 1) := by decide +kernel
theorem dX7_lawWord_65 : decode cX7_lawWord 65 = .ok (.ireturn, 1) := by decide +kernel
theorem dX7_lawWord_66 : decode cX7_lawWord 66 = .ok (.aload_n 0, 1) := by decide +kernel
theorem dX7_lawWord_67 : decode cX7_lawWord 67 = .ok (.ldc 92, 2) := by decide +kernel
theorem dX7_lawWord_69 : decode cX7_lawWord 69 = .ok (.invokevirtual 46, 3) := by decide +kernel
theorem dX7_lawWord_72 : decode cX7_lawWord 72 = .ok (.ifCond .eq 8, 3) := by decide +kernel
theorem dX7_lawWord_75 : decode cX7_lawWord 75 = .ok (.bipush 6, 2) := by decide +kernel
theorem dX7_lawWord_77 : decode cX7_lawWord 77 = .ok (.goto 4, 3) := by decide +kernel
theorem dX7_lawWord_80 : decode cX7_lawWord 80 = .ok (.iconst (-1), 1) := by decide +kernel
theorem dX7_lawWord_81 : decode cX7_lawWord 81 = .ok (.ireturn, 1) := by decide +kernel
theorem dX7_isNumberUpTo_0 : decode cX7_isNumberUpTo 0 = .ok (.aload_n 0, 1) := by decide +kernel
theorem dX7_isNumberUpTo_1 : decode cX7_isNumberUpTo 1 = .ok (.getfield 34, 3) := by decide +kernel
theorem dX7_isNumberUpTo_4 : decode cX7_isNumberUpTo 4 = .ok (.iconst 2, 1) := by decide +kernel
theorem dX7_isNumberUpTo_5 : decode cX7_isNumberUpTo 5 = .ok (.if_icmp .eq 9, 3) := by decide +kernel
theorem dX7_isNumberUpTo_8 : decode cX7_isNumberUpTo 8 = .ok (.aload_n 0, 1) := by decide +kernel
theorem dX7_isNumberUpTo_9 : decode cX7_isNumberUpTo 9 = .ok (.iconst 1, 1) := by decide +kernel
theorem dX7_isNumberUpTo_10 : decode cX7_isNumberUpTo 10 = .ok (.invokevirtual 50, 3) := by decide +kernel
theorem dX7_isNumberUpTo_13 : decode cX7_isNumberUpTo 13 = .ok (.ireturn, 1) := by decide +kernel
theorem dX7_isNumberUpTo_14 : decode cX7_isNumberUpTo 14 = .ok (.aload_n 0, 1) := by decide +kernel
theorem dX7_isNumberUpTo_15 : decode cX7_isNumberUpTo 15 = .ok (.getfield 57, 3) := by decide +kernel
theorem dX7_isNumberUpTo_18 : decode cX7_isNumberUpTo 18 = .ok (.iload_n 1, 1) := by decide +kernel
theorem dX7_isNumberUpTo_19 : decode cX7_isNumberUpTo 19 = .ok (.if_icmp .le 11, 3) := by decide +kernel
theorem dX7_isNumberUpTo_22 : decode cX7_isNumberUpTo 22 = .ok (.aload_n 0, 1) := by decide +kernel
theorem dX7_isNumberUpTo_23 : decode cX7_isNumberUpTo 23 = .ok (.iconst 2, 1) := by decide +kernel
theorem dX7_isNumberUpTo_24 : decode cX7_isNumberUpTo 24 = .ok (.invokevirtual 50, 3) := by decide +kernel
theorem dX7_isNumberUpTo_27 : decode cX7_isNumberUpTo 27 = .ok (.ifCond .eq 7, 3) := by decide +kernel
theorem dX7_isNumberUpTo_30 : decode cX7_isNumberUpTo 30 = .ok (.iconst 1, 1) := by decide +kernel
theorem dX7_isNumberUpTo_31 : decode cX7_isNumberUpTo 31 = .ok (.goto 4, 3) := by decide +kernel
theorem dX7_isNumberUpTo_34 : decode cX7_isNumberUpTo 34 = .ok (.iconst 0, 1) := by decide +kernel
theorem dX7_isNumberUpTo_35 : decode cX7_isNumberUpTo 35 = .ok (.ireturn, 1) := by decide +kernel
theorem dX7_blame_0 : decode cX7_blame 0 = .ok (.aload_n 0, 1) := by decide +kernel
theorem dX7_blame_1 : decode cX7_blame 1 = .ok (.iload_n 1, 1) := by decide +kernel
theorem dX7_blame_2 : decode cX7_blame 2 = .ok (.putfield 94, 3) := by decide +kernel
theorem dX7_blame_5 : decode cX7_blame 5 = .ok (.aload_n 0, 1) := by decide +kernel
theorem dX7_blame_6 : decode cX7_blame 6 = .ok (.aload_n 0, 1) := by decide +kernel
theorem dX7_blame_7 : decode cX7_blame 7 = .ok (.getfield 97, 3) := by decide +kernel
theorem dX7_blame_10 : decode cX7_blame 10 = .ok (.putfield 100, 3) := by decide +kernel
theorem dX7_blame_13 : decode cX7_blame 13 = .ok (.iconst 0, 1) := by decide +kernel
theorem dX7_blame_14 : decode cX7_blame 14 = .ok (.ireturn, 1) := by decide +kernel
theorem dX7_spells_0 : decode cX7_spells 0 = .ok (.aload_n 0, 1) := by decide +kernel
theorem dX7_spells_1 : decode cX7_spells 1 = .ok (.getfield 34, 3) := by decide +kernel
theorem dX7_spells_4 : decode cX7_spells 4 = .ok (.iconst 1, 1) := by decide +kernel
theorem dX7_spells_5 : decode cX7_spells 5 = .ok (.if_icmp .ne 19, 3) := by decide +kernel
theorem dX7_spells_8 : decode cX7_spells 8 = .ok (.aload_n 0, 1) := by decide +kernel
theorem dX7_spells_9 : decode cX7_spells 9 = .ok (.getfield 23, 3) := by decide +kernel
theorem dX7_spells_12 : decode cX7_spells 12 = .ok (.aload_n 0, 1) := by decide +kernel
theorem dX7_spells_13 : decode cX7_spells 13 = .ok (.getfield 97, 3) := by decide +kernel
theorem dX7_spells_16 : decode cX7_spells 16 = .ok (.isub, 1) := by decide +kernel
theorem dX7_spells_17 : decode cX7_spells 17 = .ok (.aload_n 1, 1) := by decide +kernel
theorem dX7_spells_18 : decode cX7_spells 18 = .ok (.invokevirtual 103, 3) := by decide +kernel
theorem dX7_spells_21 : decode cX7_spells 21 = .ok (.if_icmp .eq 5, 3) := by decide +kernel
theorem dX7_spells_24 : decode cX7_spells 24 = .ok (.iconst 0, 1) := by decide +kernel
theorem dX7_spells_25 : decode cX7_spells 25 = .ok (.ireturn, 1) := by decide +kernel
theorem dX7_spells_26 : decode cX7_spells 26 = .ok (.iconst 0, 1) := by decide +kernel
theorem dX7_spells_27 : decode cX7_spells 27 = .ok (.istore_n 2, 1) := by decide +kernel
theorem dX7_spells_28 : decode cX7_spells 28 = .ok (.iload_n 2, 1) := by decide +kernel
theorem dX7_spells_29 : decode cX7_spells 29 = .ok (.aload_n 1, 1) := by decide +kernel
theorem dX7_spells_30 : decode cX7_spells 30 = .ok (.invokevirtual 103, 3) := by decide +kernel
theorem dX7_spells_33 : decode cX7_spells 33 = .ok (.if_icmp .ge 30, 3) := by decide +kernel
theorem dX7_spells_36 : decode cX7_spells 36 = .ok (.aload_n 0, 1) := by decide +kernel
theorem dX7_spells_37 : decode cX7_spells 37 = .ok (.getfield 11, 3) := by decide +kernel
theorem dX7_spells_40 : decode cX7_spells 40 = .ok (.aload_n 0, 1) := by decide +kernel
theorem dX7_spells_41 : decode cX7_spells 41 = .ok (.getfield 97, 3) := by decide +kernel
theorem dX7_spells_44 : decode cX7_spells 44 = .ok (.iload_n 2, 1) := by decide +kernel
theorem dX7_spells_45 : decode cX7_spells 45 = .ok (.iadd, 1) := by decide +kernel
theorem dX7_spells_46 : decode cX7_spells 46 = .ok (.iaload, 1) := by decide +kernel
theorem dX7_spells_47 : decode cX7_spells 47 = .ok (.aload_n 1, 1) := by decide +kernel
theorem dX7_spells_48 : decode cX7_spells 48 = .ok (.iload_n 2, 1) := by decide +kernel
theorem dX7_spells_49 : decode cX7_spells 49 = .ok (.invokevirtual 107, 3) := by decide +kernel
theorem dX7_spells_52 : decode cX7_spells 52 = .ok (.if_icmp .eq 5, 3) := by decide +kernel
theorem dX7_spells_55 : decode cX7_spells 55 = .ok (.iconst 0, 1) := by decide +kernel
theorem dX7_spells_56 : decode cX7_spells 56 = .ok (.ireturn, 1) := by decide +kernel
theorem dX7_spells_57 : decode cX7_spells 57 = .ok (.iinc 2 1, 3) := by decide +kernel
theorem dX7_spells_60 : decode cX7_spells 60 = .ok (.goto (-32), 3) := by decide +kernel
theorem dX7_spells_63 : decode cX7_spells 63 = .ok (.iconst 1, 1) := by decide +kernel
theorem dX7_spells_64 : decode cX7_spells 64 = .ok (.ireturn, 1) := by decide +kernel
theorem dX7_nextToken_0 : decode cX7_nextToken 0 = .ok (.aload_n 0, 1) := by decide +kernel
theorem dX7_nextToken_1 : decode cX7_nextToken 1 = .ok (.getfield 23, 3) := by decide +kernel
theorem dX7_nextToken_4 : decode cX7_nextToken 4 = .ok (.aload_n 0, 1) := by decide +kernel
theorem dX7_nextToken_5 : decode cX7_nextToken 5 = .ok (.getfield 19, 3) := by decide +kernel
theorem dX7_nextToken_8 : decode cX7_nextToken 8 = .ok (.if_icmp .ge 44, 3) := by decide +kernel
theorem dX7_nextToken_11 : decode cX7_nextToken 11 = .ok (.aload_n 0, 1) := by decide +kernel
theorem dX7_nextToken_12 : decode cX7_nextToken 12 = .ok (.getfield 11, 3) := by decide +kernel
theorem dX7_nextToken_15 : decode cX7_nextToken 15 = .ok (.aload_n 0, 1) := by decide +kernel
theorem dX7_nextToken_16 : decode cX7_nextToken 16 = .ok (.getfield 23, 3) := by decide +kernel
theorem dX7_nextToken_19 : decode cX7_nextToken 19 = .ok (.iaload, 1) := by decide +kernel
theorem dX7_nextToken_20 : decode cX7_nextToken 20 = .ok (.bipush 32, 2) := by decide +kernel
theorem dX7_nextToken_22 : decode cX7_nextToken 22 = .ok (.if_icmp .eq 17, 3) := by decide +kernel
theorem dX7_nextToken_25 : decode cX7_nextToken 25 = .ok (.aload_n 0, 1) := by decide +kernel
theorem dX7_nextToken_26 : decode cX7_nextToken 26 = .ok (.getfield 11, 3) := by decide +kernel
theorem dX7_nextToken_29 : decode cX7_nextToken 29 = .ok (.aload_n 0, 1) := by decide +kernel
theorem dX7_nextToken_30 : decode cX7_nextToken 30 = .ok (.getfield 23, 3) := by decide +kernel
theorem dX7_nextToken_33 : decode cX7_nextToken 33 = .ok (.iaload, 1) := by decide +kernel
theorem dX7_nextToken_34 : decode cX7_nextToken 34 = .ok (.bipush 10, 2) := by decide +kernel
theorem dX7_nextToken_36 : decode cX7_nextToken 36 = .ok (.if_icmp .ne 16, 3) := by decide +kernel
theorem dX7_nextToken_39 : decode cX7_nextToken 39 = .ok (.aload_n 0, 1) := by decide +kernel
theorem dX7_nextToken_40 : decode cX7_nextToken 40 = .ok (.dup, 1) := by decide +kernel
theorem dX7_nextToken_41 : decode cX7_nextToken 41 = .ok (.getfield 23, 3) := by decide +kernel
theorem dX7_nextToken_44 : decode cX7_nextToken 44 = .ok (.iconst 1, 1) := by decide +kernel
theorem dX7_nextToken_45 : decode cX7_nextToken 45 = .ok (.iadd, 1) := by decide +kernel
theorem dX7_nextToken_46 : decode cX7_nextToken 46 = .ok (.putfield 23, 3) := by decide +kernel
theorem dX7_nextToken_49 : decode cX7_nextToken 49 = .ok (.goto (-49), 3) := by decide +kernel
theorem dX7_nextToken_52 : decode cX7_nextToken 52 = .ok (.aload_n 0, 1) := by decide +kernel
theorem dX7_nextToken_53 : decode cX7_nextToken 53 = .ok (.aload_n 0, 1) := by decide +kernel
theorem dX7_nextToken_54 : decode cX7_nextToken 54 = .ok (.getfield 23, 3) := by decide +kernel
theorem dX7_nextToken_57 : decode cX7_nextToken 57 = .ok (.putfield 97, 3) := by decide +kernel
theorem dX7_nextToken_60 : decode cX7_nextToken 60 = .ok (.aload_n 0, 1) := by decide +kernel
theorem dX7_nextToken_61 : decode cX7_nextToken 61 = .ok (.getfield 23, 3) := by decide +kernel
theorem dX7_nextToken_64 : decode cX7_nextToken 64 = .ok (.aload_n 0, 1) := by decide +kernel
theorem dX7_nextToken_65 : decode cX7_nextToken 65 = .ok (.getfield 19, 3) := by decide +kernel
theorem dX7_nextToken_68 : decode cX7_nextToken 68 = .ok (.if_icmp .lt 11, 3) := by decide +kernel
theorem dX7_nextToken_71 : decode cX7_nextToken 71 = .ok (.aload_n 0, 1) := by decide +kernel
theorem dX7_nextToken_72 : decode cX7_nextToken 72 = .ok (.iconst 0, 1) := by decide +kernel
theorem dX7_nextToken_73 : decode cX7_nextToken 73 = .ok (.putfield 34, 3) := by decide +kernel
theorem dX7_nextToken_76 : decode cX7_nextToken 76 = .ok (.goto 80, 3) := by decide +kernel
theorem dX7_nextToken_79 : decode cX7_nextToken 79 = .ok (.aload_n 0, 1) := by decide +kernel
theorem dX7_nextToken_80 : decode cX7_nextToken 80 = .ok (.getfield 11, 3) := by decide +kernel
theorem dX7_nextToken_83 : decode cX7_nextToken 83 = .ok (.aload_n 0, 1) := by decide +kernel
theorem dX7_nextToken_84 : decode cX7_nextToken 84 = .ok (.getfield 23, 3) := by decide +kernel
theorem dX7_nextToken_87 : decode cX7_nextToken 87 = .ok (.iaload, 1) := by decide +kernel
theorem dX7_nextToken_88 : decode cX7_nextToken 88 = .ok (.invokestatic 111, 3) := by decide +kernel
theorem dX7_nextToken_91 : decode cX7_nextToken 91 = .ok (.ifCond .eq 10, 3) := by decide +kernel
theorem dX7_nextToken_94 : decode cX7_nextToken 94 = .ok (.aload_n 0, 1) := by decide +kernel
theorem dX7_nextToken_95 : decode cX7_nextToken 95 = .ok (.invokevirtual 114, 3) := by decide +kernel
theorem dX7_nextToken_98 : decode cX7_nextToken 98 = .ok (.goto 58, 3) := by decide +kernel
theorem dX7_nextToken_101 : decode cX7_nextToken 101 = .ok (.aload_n 0, 1) := by decide +kernel
theorem dX7_nextToken_102 : decode cX7_nextToken 102 = .ok (.getfield 11, 3) := by decide +kernel
theorem dX7_nextToken_105 : decode cX7_nextToken 105 = .ok (.aload_n 0, 1) := by decide +kernel
theorem dX7_nextToken_106 : decode cX7_nextToken 106 = .ok (.getfield 23, 3) := by decide +kernel
theorem dX7_nextToken_109 : decode cX7_nextToken 109 = .ok (.iaload, 1) := by decide +kernel
theorem dX7_nextToken_110 : decode cX7_nextToken 110 = .ok (.invokestatic 117, 3) := by decide +kernel
theorem dX7_nextToken_113 : decode cX7_nextToken 113 = .ok (.ifCond .eq 10, 3) := by decide +kernel
theorem dX7_nextToken_116 : decode cX7_nextToken 116 = .ok (.aload_n 0, 1) := by decide +kernel
theorem dX7_nextToken_117 : decode cX7_nextToken 117 = .ok (.invokevirtual 120, 3) := by decide +kernel
theorem dX7_nextToken_120 : decode cX7_nextToken 120 = .ok (.goto 36, 3) := by decide +kernel
theorem dX7_nextToken_123 : decode cX7_nextToken 123 = .ok (.aload_n 0, 1) := by decide +kernel
theorem dX7_nextToken_124 : decode cX7_nextToken 124 = .ok (.aload_n 0, 1) := by decide +kernel
theorem dX7_nextToken_125 : decode cX7_nextToken 125 = .ok (.getfield 11, 3) := by decide +kernel
theorem dX7_nextToken_128 : decode cX7_nextToken 128 = .ok (.aload_n 0, 1) := by decide +kernel
theorem dX7_nextToken_129 : decode cX7_nextToken 129 = .ok (.getfield 23, 3) := by decide +kernel
theorem dX7_nextToken_132 : decode cX7_nextToken 132 = .ok (.iaload, 1) := by decide +kernel
theorem dX7_nextToken_133 : decode cX7_nextToken 133 = .ok (.bipush 59, 2) := by decide +kernel
theorem dX7_nextToken_135 : decode cX7_nextToken 135 = .ok (.if_icmp .ne 7, 3) := by decide +kernel
theorem dX7_nextToken_138 : decode cX7_nextToken 138 = .ok (.iconst 3, 1) := by decide +kernel
theorem dX7_nextToken_139 : decode cX7_nextToken 139 = .ok (.goto 4, 3) := by decide +kernel
theorem dX7_nextToken_142 : decode cX7_nextToken 142 = .ok (.iconst 4, 1) := by decide +kernel
theorem dX7_nextToken_143 : decode cX7_nextToken 143 = .ok (.putfield 34, 3) := by decide +kernel
theorem dX7_nextToken_146 : decode cX7_nextToken 146 = .ok (.aload_n 0, 1) := by decide +kernel
theorem dX7_nextToken_147 : decode cX7_nextToken 147 = .ok (.dup, 1) := by decide +kernel
theorem dX7_nextToken_148 : decode cX7_nextToken 148 = .ok (.getfield 23, 3) := by decide +kernel
theorem dX7_nextToken_151 : decode cX7_nextToken 151 = .ok (.iconst 1, 1) := by decide +kernel
theorem dX7_nextToken_152 : decode cX7_nextToken 152 = .ok (.iadd, 1) := by decide +kernel
theorem dX7_nextToken_153 : decode cX7_nextToken 153 = .ok (.putfield 23, 3) := by decide +kernel
theorem dX7_nextToken_156 : decode cX7_nextToken 156 = .ok (.return_, 1) := by decide +kernel
theorem dX7_readName_0 : decode cX7_readName 0 = .ok (.aload_n 0, 1) := by decide +kernel
theorem dX7_readName_1 : decode cX7_readName 1 = .ok (.iconst 1, 1) := by decide +kernel
theorem dX7_readName_2 : decode cX7_readName 2 = .ok (.putfield 34, 3) := by decide +kernel
theorem dX7_readName_5 : decode cX7_readName 5 = .ok (.aload_n 0, 1) := by decide +kernel
theorem dX7_readName_6 : decode cX7_readName 6 = .ok (.getfield 23, 3) := by decide +kernel
theorem dX7_readName_9 : decode cX7_readName 9 = .ok (.aload_n 0, 1) := by decide +kernel
theorem dX7_readName_10 : decode cX7_readName 10 = .ok (.getfield 19, 3) := by decide +kernel
theorem dX7_readName_13 : decode cX7_readName 13 = .ok (.if_icmp .ge 31, 3) := by decide +kernel
theorem dX7_readName_16 : decode cX7_readName 16 = .ok (.aload_n 0, 1) := by decide +kernel
theorem dX7_readName_17 : decode cX7_readName 17 = .ok (.getfield 11, 3) := by decide +kernel
theorem dX7_readName_20 : decode cX7_readName 20 = .ok (.aload_n 0, 1) := by decide +kernel
theorem dX7_readName_21 : decode cX7_readName 21 = .ok (.getfield 23, 3) := by decide +kernel
theorem dX7_readName_24 : decode cX7_readName 24 = .ok (.iaload, 1) := by decide +kernel
theorem dX7_readName_25 : decode cX7_readName 25 = .ok (.invokestatic 111, 3) := by decide +kernel
theorem dX7_readName_28 : decode cX7_readName 28 = .ok (.ifCond .eq 16, 3) := by decide +kernel
theorem dX7_readName_31 : decode cX7_readName 31 = .ok (.aload_n 0, 1) := by decide +kernel
theorem dX7_readName_32 : decode cX7_readName 32 = .ok (.dup, 1) := by decide +kernel
theorem dX7_readName_33 : decode cX7_readName 33 = .ok (.getfield 23, 3) := by decide +kernel
theorem dX7_readName_36 : decode cX7_readName 36 = .ok (.iconst 1, 1) := by decide +kernel
theorem dX7_readName_37 : decode cX7_readName 37 = .ok (.iadd, 1) := by decide +kernel
theorem dX7_readName_38 : decode cX7_readName 38 = .ok (.putfield 23, 3) := by decide +kernel
theorem dX7_readName_41 : decode cX7_readName 41 = .ok (.goto (-36), 3) := by decide +kernel
theorem dX7_readName_44 : decode cX7_readName 44 = .ok (.return_, 1) := by decide +kernel
theorem dX7_readNumber_0 : decode cX7_readNumber 0 = .ok (.aload_n 0, 1) := by decide +kernel
theorem dX7_readNumber_1 : decode cX7_readNumber 1 = .ok (.iconst 0, 1) := by decide +kernel
theorem dX7_readNumber_2 : decode cX7_readNumber 2 = .ok (.putfield 57, 3) := by decide +kernel
theorem dX7_readNumber_5 : decode cX7_readNumber 5 = .ok (.aload_n 0, 1) := by decide +kernel
theorem dX7_readNumber_6 : decode cX7_readNumber 6 = .ok (.getfield 23, 3) := by decide +kernel
theorem dX7_readNumber_9 : decode cX7_readNumber 9 = .ok (.aload_n 0, 1) := by decide +kernel
theorem dX7_readNumber_10 : decode cX7_readNumber 10 = .ok (.getfield 19, 3) := by decide +kernel
theorem dX7_readNumber_13 : decode cX7_readNumber 13 = .ok (.if_icmp .ge 68, 3) := by decide +kernel
theorem dX7_readNumber_16 : decode cX7_readNumber 16 = .ok (.aload_n 0, 1) := by decide +kernel
theorem dX7_readNumber_17 : decode cX7_readNumber 17 = .ok (.getfield 11, 3) := by decide +kernel
theorem dX7_readNumber_20 : decode cX7_readNumber 20 = .ok (.aload_n 0, 1) := by decide +kernel
theorem dX7_readNumber_21 : decode cX7_readNumber 21 = .ok (.getfield 23, 3) := by decide +kernel
theorem dX7_readNumber_24 : decode cX7_readNumber 24 = .ok (.iaload, 1) := by decide +kernel
theorem dX7_readNumber_25 : decode cX7_readNumber 25 = .ok (.invokestatic 117, 3) := by decide +kernel
theorem dX7_readNumber_28 : decode cX7_readNumber 28 = .ok (.ifCond .eq 53, 3) := by decide +kernel
theorem dX7_readNumber_31 : decode cX7_readNumber 31 = .ok (.aload_n 0, 1) := by decide +kernel
theorem dX7_readNumber_32 : decode cX7_readNumber 32 = .ok (.getfield 23, 3) := by decide +kernel
theorem dX7_readNumber_35 : decode cX7_readNumber 35 = .ok (.aload_n 0, 1) := by decide +kernel
theorem dX7_readNumber_36 : decode cX7_readNumber 36 = .ok (.getfield 97, 3) := by decide +kernel
theorem dX7_readNumber_39 : decode cX7_readNumber 39 = .ok (.isub, 1) := by decide +kernel
theorem dX7_readNumber_40 : decode cX7_readNumber 40 = .ok (.iconst 4, 1) := by decide +kernel
theorem dX7_readNumber_41 : decode cX7_readNumber 41 = .ok (.if_icmp .ge 27, 3) := by decide +kernel
theorem dX7_readNumber_44 : decode cX7_readNumber 44 = .ok (.aload_n 0, 1) := by decide +kernel
theorem dX7_readNumber_45 : decode cX7_readNumber 45 = .ok (.aload_n 0, 1) := by decide +kernel
theorem dX7_readNumber_46 : decode cX7_readNumber 46 = .ok (.getfield 57, 3) := by decide +kernel
theorem dX7_readNumber_49 : decode cX7_readNumber 49 = .ok (.bipush 10, 2) := by decide +kernel
theorem dX7_readNumber_51 : decode cX7_readNumber 51 = .ok (.imul, 1) := by decide +kernel
theorem dX7_readNumber_52 : decode cX7_readNumber 52 = .ok (.aload_n 0, 1) := by decide +kernel
theorem dX7_readNumber_53 : decode cX7_readNumber 53 = .ok (.getfield 11, 3) := by decide +kernel
theorem dX7_readNumber_56 : decode cX7_readNumber 56 = .ok (.aload_n 0, 1) := by decide +kernel
theorem dX7_readNumber_57 : decode cX7_readNumber 57 = .ok (.getfield 23, 3) := by decide +kernel
theorem dX7_readNumber_60 : decode cX7_readNumber 60 = .ok (.iaload, 1) := by decide +kernel
theorem dX7_readNumber_61 : decode cX7_readNumber 61 = .ok (.iadd, 1) := by decide +kernel
theorem dX7_readNumber_62 : decode cX7_readNumber 62 = .ok (.bipush 48, 2) := by decide +kernel
theorem dX7_readNumber_64 : decode cX7_readNumber 64 = .ok (.isub, 1) := by decide +kernel
theorem dX7_readNumber_65 : decode cX7_readNumber 65 = .ok (.putfield 57, 3) := by decide +kernel
theorem dX7_readNumber_68 : decode cX7_readNumber 68 = .ok (.aload_n 0, 1) := by decide +kernel
theorem dX7_readNumber_69 : decode cX7_readNumber 69 = .ok (.dup, 1) := by decide +kernel
theorem dX7_readNumber_70 : decode cX7_readNumber 70 = .ok (.getfield 23, 3) := by decide +kernel
theorem dX7_readNumber_73 : decode cX7_readNumber 73 = .ok (.iconst 1, 1) := by decide +kernel
theorem dX7_readNumber_74 : decode cX7_readNumber 74 = .ok (.iadd, 1) := by decide +kernel
theorem dX7_readNumber_75 : decode cX7_readNumber 75 = .ok (.putfield 23, 3) := by decide +kernel
theorem dX7_readNumber_78 : decode cX7_readNumber 78 = .ok (.goto (-73), 3) := by decide +kernel
theorem dX7_readNumber_81 : decode cX7_readNumber 81 = .ok (.aload_n 0, 1) := by decide +kernel
theorem dX7_readNumber_82 : decode cX7_readNumber 82 = .ok (.aload_n 0, 1) := by decide +kernel
theorem dX7_readNumber_83 : decode cX7_readNumber 83 = .ok (.getfield 23, 3) := by decide +kernel
theorem dX7_readNumber_86 : decode cX7_readNumber 86 = .ok (.aload_n 0, 1) := by decide +kernel
theorem dX7_readNumber_87 : decode cX7_readNumber 87 = .ok (.getfield 97, 3) := by decide +kernel
theorem dX7_readNumber_90 : decode cX7_readNumber 90 = .ok (.isub, 1) := by decide +kernel
theorem dX7_readNumber_91 : decode cX7_readNumber 91 = .ok (.iconst 4, 1) := by decide +kernel
theorem dX7_readNumber_92 : decode cX7_readNumber 92 = .ok (.if_icmp .gt 7, 3) := by decide +kernel
theorem dX7_readNumber_95 : decode cX7_readNumber 95 = .ok (.iconst 2, 1) := by decide +kernel
theorem dX7_readNumber_96 : decode cX7_readNumber 96 = .ok (.goto 4, 3) := by decide +kernel
theorem dX7_readNumber_99 : decode cX7_readNumber 99 = .ok (.iconst 4, 1) := by decide +kernel
theorem dX7_readNumber_100 : decode cX7_readNumber 100 = .ok (.putfield 34, 3) := by decide +kernel
theorem dX7_readNumber_103 : decode cX7_readNumber 103 = .ok (.return_, 1) := by decide +kernel
theorem dX7_isLetter_0 : decode cX7_isLetter 0 = .ok (.iload_n 0, 1) := by decide +kernel
theorem dX7_isLetter_1 : decode cX7_isLetter 1 = .ok (.bipush 97, 2) := by decide +kernel
theorem dX7_isLetter_3 : decode cX7_isLetter 3 = .ok (.if_icmp .lt 13, 3) := by decide +kernel
theorem dX7_isLetter_6 : decode cX7_isLetter 6 = .ok (.iload_n 0, 1) := by decide +kernel
theorem dX7_isLetter_7 : decode cX7_isLetter 7 = .ok (.bipush 122, 2) := by decide +kernel
theorem dX7_isLetter_9 : decode cX7_isLetter 9 = .ok (.if_icmp .gt 7, 3) := by decide +kernel
theorem dX7_isLetter_12 : decode cX7_isLetter 12 = .ok (.iconst 1, 1) := by decide +kernel
theorem dX7_isLetter_13 : decode cX7_isLetter 13 = .ok (.goto 4, 3) := by decide +kernel
theorem dX7_isLetter_16 : decode cX7_isLetter 16 = .ok (.iconst 0, 1) := by decide +kernel
theorem dX7_isLetter_17 : decode cX7_isLetter 17 = .ok (.ireturn, 1) := by decide +kernel
theorem dX7_isFigure_0 : decode cX7_isFigure 0 = .ok (.iload_n 0, 1) := by decide +kernel
theorem dX7_isFigure_1 : decode cX7_isFigure 1 = .ok (.bipush 48, 2) := by decide +kernel
theorem dX7_isFigure_3 : decode cX7_isFigure 3 = .ok (.if_icmp .lt 13, 3) := by decide +kernel
theorem dX7_isFigure_6 : decode cX7_isFigure 6 = .ok (.iload_n 0, 1) := by decide +kernel
theorem dX7_isFigure_7 : decode cX7_isFigure 7 = .ok (.bipush 57, 2) := by decide +kernel
theorem dX7_isFigure_9 : decode cX7_isFigure 9 = .ok (.if_icmp .gt 7, 3) := by decide +kernel
theorem dX7_isFigure_12 : decode cX7_isFigure 12 = .ok (.iconst 1, 1) := by decide +kernel
theorem dX7_isFigure_13 : decode cX7_isFigure 13 = .ok (.goto 4, 3) := by decide +kernel
theorem dX7_isFigure_16 : decode cX7_isFigure 16 = .ok (.iconst 0, 1) := by decide +kernel
theorem dX7_isFigure_17 : decode cX7_isFigure 17 = .ok (.ireturn, 1) := by decide +kernel
theorem dJ6_bitCount_0f7a4_0 : decode cJ6_bitCount_0f7a4 0 = .ok (.iload_n 0, 1) := by decide +kernel
theorem dJ6_bitCount_0f7a4_1 : decode cJ6_bitCount_0f7a4 1 = .ok (.iload_n 0, 1) := by decide +kernel
theorem dJ6_bitCount_0f7a4_2 : decode cJ6_bitCount_0f7a4 2 = .ok (.iconst 1, 1) := by decide +kernel
theorem dJ6_bitCount_0f7a4_3 : decode cJ6_bitCount_0f7a4 3 = .ok (.iushr, 1) := by decide +kernel
theorem dJ6_bitCount_0f7a4_4 : decode cJ6_bitCount_0f7a4 4 = .ok (.ldc_w 265, 3) := by decide +kernel
theorem dJ6_bitCount_0f7a4_7 : decode cJ6_bitCount_0f7a4 7 = .ok (.iand, 1) := by decide +kernel
theorem dJ6_bitCount_0f7a4_8 : decode cJ6_bitCount_0f7a4 8 = .ok (.isub, 1) := by decide +kernel
theorem dJ6_bitCount_0f7a4_9 : decode cJ6_bitCount_0f7a4 9 = .ok (.istore_n 0, 1) := by decide +kernel
theorem dJ6_bitCount_0f7a4_10 : decode cJ6_bitCount_0f7a4 10 = .ok (.iload_n 0, 1) := by decide +kernel
theorem dJ6_bitCount_0f7a4_11 : decode cJ6_bitCount_0f7a4 11 = .ok (.ldc_w 266, 3) := by decide +kernel
theorem dJ6_bitCount_0f7a4_14 : decode cJ6_bitCount_0f7a4 14 = .ok (.iand, 1) := by decide +kernel
theorem dJ6_bitCount_0f7a4_15 : decode cJ6_bitCount_0f7a4 15 = .ok (.iload_n 0, 1) := by decide +kernel
theorem dJ6_bitCount_0f7a4_16 : decode cJ6_bitCount_0f7a4 16 = .ok (.iconst 2, 1) := by decide +kernel
theorem dJ6_bitCount_0f7a4_17 : decode cJ6_bitCount_0f7a4 17 = .ok (.iushr, 1) := by decide +kernel
theorem dJ6_bitCount_0f7a4_18 : decode cJ6_bitCount_0f7a4 18 = .ok (.ldc_w 266, 3) := by decide +kernel
theorem dJ6_bitCount_0f7a4_21 : decode cJ6_bitCount_0f7a4 21 = .ok (.iand, 1) := by decide +kernel
theorem dJ6_bitCount_0f7a4_22 : decode cJ6_bitCount_0f7a4 22 = .ok (.iadd, 1) := by decide +kernel
theorem dJ6_bitCount_0f7a4_23 : decode cJ6_bitCount_0f7a4 23 = .ok (.istore_n 0, 1) := by decide +kernel
theorem dJ6_bitCount_0f7a4_24 : decode cJ6_bitCount_0f7a4 24 = .ok (.iload_n 0, 1) := by decide +kernel
theorem dJ6_bitCount_0f7a4_25 : decode cJ6_bitCount_0f7a4 25 = .ok (.iload_n 0, 1) := by decide +kernel
theorem dJ6_bitCount_0f7a4_26 : decode cJ6_bitCount_0f7a4 26 = .ok (.iconst 4, 1) := by decide +kernel
theorem dJ6_bitCount_0f7a4_27 : decode cJ6_bitCount_0f7a4 27 = .ok (.iushr, 1) := by decide +kernel
theorem dJ6_bitCount_0f7a4_28 : decode cJ6_bitCount_0f7a4 28 = .ok (.iadd, 1) := by decide +kernel
theorem dJ6_bitCount_0f7a4_29 : decode cJ6_bitCount_0f7a4 29 = .ok (.ldc_w 267, 3) := by decide +kernel
theorem dJ6_bitCount_0f7a4_32 : decode cJ6_bitCount_0f7a4 32 = .ok (.iand, 1) := by decide +kernel
theorem dJ6_bitCount_0f7a4_33 : decode cJ6_bitCount_0f7a4 33 = .ok (.istore_n 0, 1) := by decide +kernel
theorem dJ6_bitCount_0f7a4_34 : decode cJ6_bitCount_0f7a4 34 = .ok (.iload_n 0, 1) := by decide +kernel
theorem dJ6_bitCount_0f7a4_35 : decode cJ6_bitCount_0f7a4 35 = .ok (.iload_n 0, 1) := by decide +kernel
theorem dJ6_bitCount_0f7a4_36 : decode cJ6_bitCount_0f7a4 36 = .ok (.bipush 8, 2) := by decide +kernel
theorem dJ6_bitCount_0f7a4_38 : decode cJ6_bitCount_0f7a4 38 = .ok (.iushr, 1) := by decide +kernel
theorem dJ6_bitCount_0f7a4_39 : decode cJ6_bitCount_0f7a4 39 = .ok (.iadd, 1) := by decide +kernel
theorem dJ6_bitCount_0f7a4_40 : decode cJ6_bitCount_0f7a4 40 = .ok (.istore_n 0, 1) := by decide +kernel
theorem dJ6_bitCount_0f7a4_41 : decode cJ6_bitCount_0f7a4 41 = .ok (.iload_n 0, 1) := by decide +kernel
theorem dJ6_bitCount_0f7a4_42 : decode cJ6_bitCount_0f7a4 42 = .ok (.iload_n 0, 1) := by decide +kernel
theorem dJ6_bitCount_0f7a4_43 : decode cJ6_bitCount_0f7a4 43 = .ok (.bipush 16, 2) := by decide +kernel
theorem dJ6_bitCount_0f7a4_45 : decode cJ6_bitCount_0f7a4 45 = .ok (.iushr, 1) := by decide +kernel
theorem dJ6_bitCount_0f7a4_46 : decode cJ6_bitCount_0f7a4 46 = .ok (.iadd, 1) := by decide +kernel
theorem dJ6_bitCount_0f7a4_47 : decode cJ6_bitCount_0f7a4 47 = .ok (.istore_n 0, 1) := by decide +kernel
theorem dJ6_bitCount_0f7a4_48 : decode cJ6_bitCount_0f7a4 48 = .ok (.iload_n 0, 1) := by decide +kernel
theorem dJ6_bitCount_0f7a4_49 : decode cJ6_bitCount_0f7a4 49 = .ok (.bipush 63, 2) := by decide +kernel
theorem dJ6_bitCount_0f7a4_51 : decode cJ6_bitCount_0f7a4 51 = .ok (.iand, 1) := by decide +kernel
theorem dJ6_bitCount_0f7a4_52 : decode cJ6_bitCount_0f7a4 52 = .ok (.ireturn, 1) := by decide +kernel
theorem dJ0_length_8abf5_0 : decode cJ0_length_8abf5 0 = .ok (.aload_n 0, 1) := by decide +kernel
theorem dJ0_length_8abf5_1 : decode cJ0_length_8abf5 1 = .ok (.getfield 9, 3) := by decide +kernel
theorem dJ0_length_8abf5_4 : decode cJ0_length_8abf5 4 = .ok (.arraylength, 1) := by decide +kernel
theorem dJ0_length_8abf5_5 : decode cJ0_length_8abf5 5 = .ok (.aload_n 0, 1) := by decide +kernel
theorem dJ0_length_8abf5_6 : decode cJ0_length_8abf5 6 = .ok (.invokevirtual 335, 3) := by decide +kernel
theorem dJ0_length_8abf5_9 : decode cJ0_length_8abf5 9 = .ok (.ishr, 1) := by decide +kernel
theorem dJ0_length_8abf5_10 : decode cJ0_length_8abf5 10 = .ok (.ireturn, 1) := by decide +kernel
theorem dJ0_charAt_5068e_0 : decode cJ0_charAt_5068e 0 = .ok (.aload_n 0, 1) := by decide +kernel
theorem dJ0_charAt_5068e_1 : decode cJ0_charAt_5068e 1 = .ok (.invokevirtual 492, 3) := by decide +kernel
theorem dJ0_charAt_5068e_4 : decode cJ0_charAt_5068e 4 = .ok (.ifCond .eq 12, 3) := by decide +kernel
theorem dJ0_charAt_5068e_7 : decode cJ0_charAt_5068e 7 = .ok (.aload_n 0, 1) := by decide +kernel
theorem dJ0_charAt_5068e_8 : decode cJ0_charAt_5068e 8 = .ok (.getfield 9, 3) := by decide +kernel
theorem dJ0_charAt_5068e_11 : decode cJ0_charAt_5068e 11 = .ok (.iload_n 1, 1) := by decide +kernel
theorem dJ0_charAt_5068e_12 : decode cJ0_charAt_5068e 12 = .ok (.invokestatic 495, 3) := by decide +kernel
theorem dJ0_charAt_5068e_15 : decode cJ0_charAt_5068e 15 = .ok (.ireturn, 1) := by decide +kernel
theorem dJ0_charAt_5068e_16 : decode cJ0_charAt_5068e 16 = .ok (.aload_n 0, 1) := by decide +kernel
theorem dJ0_charAt_5068e_17 : decode cJ0_charAt_5068e 17 = .ok (.getfield 9, 3) := by decide +kernel
theorem dJ0_charAt_5068e_20 : decode cJ0_charAt_5068e 20 = .ok (.iload_n 1, 1) := by decide +kernel
theorem dJ0_charAt_5068e_21 : decode cJ0_charAt_5068e 21 = .ok (.invokestatic 498, 3) := by decide +kernel
theorem dJ0_charAt_5068e_24 : decode cJ0_charAt_5068e 24 = .ok (.ireturn, 1) := by decide +kernel
theorem dJ0_coder_7d493_0 : decode cJ0_coder_7d493 0 = .ok (.getstatic 38, 3) := by decide +kernel
theorem dJ0_coder_7d493_3 : decode cJ0_coder_7d493 3 = .ok (.ifCond .eq 10, 3) := by decide +kernel
theorem dJ0_coder_7d493_6 : decode cJ0_coder_7d493 6 = .ok (.aload_n 0, 1) := by decide +kernel
theorem dJ0_coder_7d493_7 : decode cJ0_coder_7d493 7 = .ok (.getfield 15, 3) := by decide +kernel
theorem dJ0_coder_7d493_10 : decode cJ0_coder_7d493 10 = .ok (.goto 4, 3) := by decide +kernel
theorem dJ0_coder_7d493_13 : decode cJ0_coder_7d493 13 = .ok (.iconst 1, 1) := by decide +kernel
theorem dJ0_coder_7d493_14 : decode cJ0_coder_7d493 14 = .ok (.ireturn, 1) := by decide +kernel
theorem dJ0_isLatin1_aae02_0 : decode cJ0_isLatin1_aae02 0 = .ok (.getstatic 38, 3) := by decide +kernel
theorem dJ0_isLatin1_aae02_3 : decode cJ0_isLatin1_aae02 3 = .ok (.ifCond .eq 14, 3) := by decide +kernel
theorem dJ0_isLatin1_aae02_6 : decode cJ0_isLatin1_aae02 6 = .ok (.aload_n 0, 1) := by decide +kernel
theorem dJ0_isLatin1_aae02_7 : decode cJ0_isLatin1_aae02 7 = .ok (.getfield 15, 3) := by decide +kernel
theorem dJ0_isLatin1_aae02_10 : decode cJ0_isLatin1_aae02 10 = .ok (.ifCond .ne 7, 3) := by decide +kernel
theorem dJ0_isLatin1_aae02_13 : decode cJ0_isLatin1_aae02 13 = .ok (.iconst 1, 1) := by decide +kernel
theorem dJ0_isLatin1_aae02_14 : decode cJ0_isLatin1_aae02 14 = .ok (.goto 4, 3) := by decide +kernel
theorem dJ0_isLatin1_aae02_17 : decode cJ0_isLatin1_aae02 17 = .ok (.iconst 0, 1) := by decide +kernel
theorem dJ0_isLatin1_aae02_18 : decode cJ0_isLatin1_aae02 18 = .ok (.ireturn, 1) := by decide +kernel
theorem dJ1_charAt_3b067_0 : decode cJ1_charAt_3b067 0 = .ok (.iload_n 1, 1) := by decide +kernel
theorem dJ1_charAt_3b067_1 : decode cJ1_charAt_3b067 1 = .ok (.aload_n 0, 1) := by decide +kernel
theorem dJ1_charAt_3b067_2 : decode cJ1_charAt_3b067 2 = .ok (.arraylength, 1) := by decide +kernel
theorem dJ1_charAt_3b067_3 : decode cJ1_charAt_3b067 3 = .ok (.invokestatic 9, 3) := by decide +kernel
theorem dJ1_charAt_3b067_6 : decode cJ1_charAt_3b067 6 = .ok (.aload_n 0, 1) := by decide +kernel
theorem dJ1_charAt_3b067_7 : decode cJ1_charAt_3b067 7 = .ok (.iload_n 1, 1) := by decide +kernel
theorem dJ1_charAt_3b067_8 : decode cJ1_charAt_3b067 8 = .ok (.baload, 1) := by decide +kernel
theorem dJ1_charAt_3b067_9 : decode cJ1_charAt_3b067 9 = .ok (.sipush 255, 3) := by decide +kernel
theorem dJ1_charAt_3b067_12 : decode cJ1_charAt_3b067 12 = .ok (.iand, 1) := by decide +kernel
theorem dJ1_charAt_3b067_13 : decode cJ1_charAt_3b067 13 = .ok (.i2c, 1) := by decide +kernel
theorem dJ1_charAt_3b067_14 : decode cJ1_charAt_3b067 14 = .ok (.ireturn, 1) := by decide +kernel
set_option maxRecDepth 100000 in
set_option maxHeartbeats 4000000 in
theorem B_X7_hasRoom_0 {g : gp} {u : sg} {Q : Option Value → sg → Prop} (x1 : Int32) (h : (((400 - (u.1 8 2)) < x1 → Q (some (.int (0 : Int32))) u) ∧ (¬ (400 - (u.1 8 2)) < x1 → Q (some (.int (1 : Int32))) u))) : Go g iX7_hasRoom 0 [some (.ref (gd g 8)), some (.int x1)] [] u Q := by
  refine go_iload_n dX7_hasRoom_0 rfl rfl ?_
  refine go_sipush (v := 400) dX7_hasRoom_1 (by decide) ?_
  refine go_aload_n dX7_hasRoom_4 rfl rfl ?_
  refine go_get (k := 2) (v := .int (u.1 8 2)) dX7_hasRoom_5 ob_8 (by decide) qf_X7_19 rfl ?_
  refine go_isub dX7_hasRoom_8 ?_
  refine go_icmp_gt (tgt := 16) dX7_hasRoom_9 (by decide) (fun hc => ?_) (fun hc => ?_)
  · replace h := h.1 hc
    refine go_iconst (v := 0) dX7_hasRoom_16 (by decide) ?_
    exact go_zret dX7_hasRoom_17 rfl (by decide) h
  · replace h := h.2 hc
    refine go_iconst (v := 1) dX7_hasRoom_12 (by decide) ?_
    refine go_goto (tgt := 17) dX7_hasRoom_13 (by decide) ?_
    exact go_zret dX7_hasRoom_17 rfl (by decide) h
set_option maxRecDepth 100000 in
set_option maxHeartbeats 4000000 in
theorem B_X7_append_0 {g : gp} {u : sg} {Q : Option Value → sg → Prop} (x1 : Int64) (x3 : Int32) (h : Go g iX7_append 5 [some (.ref (gd g 8)), some (.long x1), none, none, some (.int (x3 - 1))] [] u Q) : Go g iX7_append 0 [some (.ref (gd g 8)), some (.long x1), none, some (.int x3), none] [] u Q := by
  refine go_iload_n dX7_append_0 rfl rfl ?_
  refine go_iconst (v := 1) dX7_append_1 (by decide) ?_
  refine go_isub dX7_append_2 ?_
  refine go_istore (lm := [some (.ref (gd g 8)), some (.long x1), none, some (.int x3), some (.int (x3 - 1))]) dX7_append_3 (by decide) rfl rfl ?_
  refine go_mask [true, true, true, false, true] rfl ?_
  exact h
set_option maxRecDepth 100000 in
set_option maxHeartbeats 4000000 in
theorem B_X7_append_5 {g : gp} {u : sg} {Q : Option Value → sg → Prop} (x1 : Int64) (x4 : Int32) (h : ((x4 < (0 : Int32) → Q none u) ∧ (¬ x4 < (0 : Int32) → (vp_in (u.1 8 2) 400 ∧ Go g iX7_append 5 [some (.ref (gd g 8)), some (.long x1), none, none, some (.int (x4 + (-1)))] [] (sI (sA u 40 (u.1 8 2).toNatClampNeg ((((x1.toUInt64 >>> ((8 * x4).toInt64.toUInt64 &&& Int64.toUInt64 63)).toInt64).toInt32) &&& 255)) 8 2 ((u.1 8 2) + 1)) Q)))) : Go g iX7_append 5 [some (.ref (gd g 8)), some (.long x1), none, none, some (.int x4)] [] u Q := by
  refine go_iload dX7_append_5 rfl ?_
  refine go_if_lt (tgt := 47) dX7_append_7 (by decide) (fun hc => ?_) (fun hc => ?_)
  · replace h := h.1 hc
    exact go_vret dX7_append_47 rfl h
  · replace h := h.2 hc
    refine go_aload_n dX7_append_10 rfl rfl ?_
    refine go_get (k := 1) (v := .ref (gd g 40)) dX7_append_11 ob_8 (by decide) qf_X7_11 rfl ?_
    refine go_aload_n dX7_append_14 rfl rfl ?_
    refine go_get (k := 2) (v := .int (u.1 8 2)) dX7_append_15 ob_8 (by decide) qf_X7_19 rfl ?_
    refine go_lload_n dX7_append_18 rfl rfl ?_
    refine go_bipush (v := 8) dX7_append_19 (by decide) ?_
    refine go_iload dX7_append_21 rfl ?_
    refine go_imul dX7_append_23 ?_
    refine go_lushr dX7_append_24 ?_
    refine go_l2i dX7_append_25 ?_
    refine go_sipush (v := 255) dX7_append_26 (by decide) ?_
    refine go_iand dX7_append_29 ?_
    obtain ⟨hi, h⟩ := h
    refine go_ist (a := 40) (n := 400) dX7_append_30 (by decide) (by decide) rfl hi ?_
    refine go_aload_n dX7_append_31 rfl rfl ?_
    refine go_dup dX7_append_32 rfl ?_
    refine go_get (k := 2) (v := .int (u.1 8 2)) dX7_append_33 ob_8 (by decide) qf_X7_19 rfl ?_
    refine go_iconst (v := 1) dX7_append_36 (by decide) ?_
    refine go_iadd dX7_append_37 ?_
    refine go_put (k := 2) dX7_append_38 ob_8 (by decide) qf_X7_19 rfl rfl pf_I ?_
    refine go_iinc (v := x4 + (-1)) (lm := [some (.ref (gd g 8)), some (.long x1), none, none, some (.int (x4 + (-1)))]) dX7_append_41 rfl rfl (by decide) rfl rfl ?_
    refine go_goto (tgt := 5) dX7_append_44 (by decide) ?_
    exact h
set_option maxRecDepth 100000 in
set_option maxHeartbeats 4000000 in
theorem B_X7_readTape_0 {g : gp} {u : sg} {Q : Option Value → sg → Prop}  (h : Go g iX1_beginDraft 0 [some (.ref (gd g 2))] [] (sI u 8 3 (0 : Int32)) (QV (fun u1 => Go g iX7_nextToken 0 [some (.ref (gd g 8))] [] u1 (QV (fun u2 => Go g iX7_readTape 20 [some (.ref (gd g 8)), some (.int 1), some (.int 0)] [] u2 Q))))) : Go g iX7_readTape 0 [some (.ref (gd g 8)), none, none] [] u Q := by
  refine go_aload_n dX7_readTape_0 rfl rfl ?_
  refine go_iconst (v := 0) dX7_readTape_1 (by decide) ?_
  refine go_put (k := 3) dX7_readTape_2 ob_8 (by decide) qf_X7_23 rfl rfl pf_I ?_
  refine go_aload_n dX7_readTape_5 rfl rfl ?_
  refine go_get (k := 0) (v := .ref (gd g 2)) dX7_readTape_6 ob_8 (by decide) qf_X7_15 rfl ?_
  refine go_cVv (o := 2) (As := []) (st := []) (lc := [some (.ref (gd g 2))]) dX7_readTape_9 me_X1_beginDraft rfl ob_2 qm_X7_26 rfl (Nat.le_of_ble_eq_true rfl) rfl ⟨Nat.le_of_ble_eq_true rfl, Nat.le_of_ble_eq_true rfl⟩ rfl (Nat.le_of_ble_eq_true rfl) h (fun u1 h => ?_)
  refine go_aload_n dX7_readTape_12 rfl rfl ?_
  refine go_cVv (o := 8) (As := []) (st := []) (lc := [some (.ref (gd g 8))]) dX7_readTape_13 me_X7_nextToken rfl ob_8 qm_X7_31 rfl (Nat.le_of_ble_eq_true rfl) rfl ⟨Nat.le_of_ble_eq_true rfl, Nat.le_of_ble_eq_true rfl⟩ rfl (Nat.le_of_ble_eq_true rfl) h (fun u2 h => ?_)
  refine go_iconst (v := 1) dX7_readTape_16 (by decide) ?_
  refine go_istore_n (lm := [some (.ref (gd g 8)), some (.int 1), none]) dX7_readTape_17 rfl (by decide) rfl rfl ?_
  refine go_iconst (v := 0) dX7_readTape_18 (by decide) ?_
  refine go_istore_n (lm := [some (.ref (gd g 8)), some (.int 1), some (.int 0)]) dX7_readTape_19 rfl (by decide) rfl rfl ?_
  exact h
set_option maxRecDepth 100000 in
set_option maxHeartbeats 4000000 in
theorem B_X7_readTape_20 {g : gp} {u : sg} {Q : Option Value → sg → Prop} (x1 : Int32) (x2 : Int32) (h : (((400 : Int32) ≤ x2 → Go g iX7_readTape 49 [some (.ref (gd g 8)), some (.int x1), none] [] u Q) ∧ (¬ (400 : Int32) ≤ x2 → ((x1 = (0 : Int32) → Go g iX7_readTape 49 [some (.ref (gd g 8)), some (.int x1), none] [] u Q) ∧ (¬ x1 = (0 : Int32) → (((u.1 8 5) = (0 : Int32) → Go g iX7_readTape 49 [some (.ref (gd g 8)), some (.int x1), none] [] u Q) ∧ (¬ (u.1 8 5) = (0 : Int32) → Go g iX7_readSection 0 [some (.ref (gd g 8)), none, none, none] [] u (QI (fun r1 u1 => Go g iX7_readTape 20 [some (.ref (gd g 8)), some (.int r1), some (.int (x2 + 1))] [] u1 Q))))))))) : Go g iX7_readTape 20 [some (.ref (gd g 8)), some (.int x1), some (.int x2)] [] u Q := by
  refine go_iload_n dX7_readTape_20 rfl rfl ?_
  refine go_sipush (v := 400) dX7_readTape_21 (by decide) ?_
  refine go_icmp_ge (tgt := 49) dX7_readTape_24 (by decide) (fun hc => ?_) (fun hc => ?_)
  · replace h := h.1 hc
    refine go_mask [true, true, false] rfl ?_
    exact h
  · replace h := h.2 hc
    refine go_iload_n dX7_readTape_27 rfl rfl ?_
    refine go_if_eq (tgt := 49) dX7_readTape_28 (by decide) (fun hc => ?_) (fun hc => ?_)
    · replace h := h.1 hc
      refine go_mask [true, true, false] rfl ?_
      exact h
    · replace h := h.2 hc
      refine go_aload_n dX7_readTape_31 rfl rfl ?_
      refine go_get (k := 5) (v := .int (u.1 8 5)) dX7_readTape_32 ob_8 (by decide) qf_X7_34 rfl ?_
      refine go_if_eq (tgt := 49) dX7_readTape_35 (by decide) (fun hc => ?_) (fun hc => ?_)
      · replace h := h.1 hc
        refine go_mask [true, true, false] rfl ?_
        exact h
      · replace h := h.2 hc
        refine go_aload_n dX7_readTape_38 rfl rfl ?_
        refine go_cVi (o := 8) (As := []) (st := []) (lc := [some (.ref (gd g 8)), none, none, none]) dX7_readTape_39 me_X7_readSection rfl ob_8 qm_X7_37 rfl (Nat.le_of_ble_eq_true rfl) rfl ⟨Nat.le_of_ble_eq_true rfl, Nat.le_of_ble_eq_true rfl⟩ rfl (Nat.le_of_ble_eq_true rfl) h (fun r1 u1 h => ?_)
        refine go_istore_n (lm := [some (.ref (gd g 8)), some (.int r1), some (.int x2)]) dX7_readTape_42 rfl (by decide) rfl rfl ?_
        refine go_iinc (v := x2 + 1) (lm := [some (.ref (gd g 8)), some (.int r1), some (.int (x2 + 1))]) dX7_readTape_43 rfl rfl (by decide) rfl rfl ?_
        refine go_goto (tgt := 20) dX7_readTape_46 (by decide) ?_
        exact h
set_option maxRecDepth 100000 in
set_option maxHeartbeats 4000000 in
theorem B_X7_readTape_49 {g : gp} {u : sg} {Q : Option Value → sg → Prop} (x1 : Int32) (h : ((x1 = (0 : Int32) → (narrow .boolean (.int x1) = .int x1 ∧ Q (some (.int x1)) (sI u 8 2 (0 : Int32)))) ∧ (¬ x1 = (0 : Int32) → Go g iX1_passDraft 0 [some (.ref (gd g 2))] [] u (QV (fun u1 => (narrow .boolean (.int x1) = .int x1 ∧ Q (some (.int x1)) (sI u1 8 2 (0 : Int32)))))))) : Go g iX7_readTape 49 [some (.ref (gd g 8)), some (.int x1), none] [] u Q := by
  refine go_iload_n dX7_readTape_49 rfl rfl ?_
  refine go_if_eq (tgt := 60) dX7_readTape_50 (by decide) (fun hc => ?_) (fun hc => ?_)
  · replace h := h.1 hc
    refine go_aload_n dX7_readTape_60 rfl rfl ?_
    refine go_iconst (v := 0) dX7_readTape_61 (by decide) ?_
    refine go_put (k := 2) dX7_readTape_62 ob_8 (by decide) qf_X7_19 rfl rfl pf_I ?_
    refine go_iload_n dX7_readTape_65 rfl rfl ?_
    exact go_zret dX7_readTape_66 rfl h.1 h.2
  · replace h := h.2 hc
    refine go_aload_n dX7_readTape_53 rfl rfl ?_
    refine go_get (k := 0) (v := .ref (gd g 2)) dX7_readTape_54 ob_8 (by decide) qf_X7_15 rfl ?_
    refine go_cVv (o := 2) (As := []) (st := []) (lc := [some (.ref (gd g 2))]) dX7_readTape_57 me_X1_passDraft rfl ob_2 qm_X7_41 rfl (Nat.le_of_ble_eq_true rfl) rfl ⟨Nat.le_of_ble_eq_true rfl, Nat.le_of_ble_eq_true rfl⟩ rfl (Nat.le_of_ble_eq_true rfl) h (fun u1 h => ?_)
    refine go_aload_n dX7_readTape_60 rfl rfl ?_
    refine go_iconst (v := 0) dX7_readTape_61 (by decide) ?_
    refine go_put (k := 2) dX7_readTape_62 ob_8 (by decide) qf_X7_19 rfl rfl pf_I ?_
    refine go_iload_n dX7_readTape_65 rfl rfl ?_
    exact go_zret dX7_readTape_66 rfl h.1 h.2
set_option maxRecDepth 100000 in
set_option maxHeartbeats 4000000 in
theorem B_X7_readSection_0 {g : gp} {u : sg} {Q : Option Value → sg → Prop}  (h : Go g iX7_spells 0 [some (.ref (gd g 8)), some (.ref (gk g 0)), none] [] u (QI (fun r1 u1 => ((¬ r1 = (0 : Int32) → Go g iX7_nextToken 0 [some (.ref (gd g 8))] [] u1 (QV (fun u2 => Go g iX7_isNumberUpTo 0 [some (.ref (gd g 8)), some (.int 999)] [] u2 (QI (fun r3 u3 => ((¬ r3 = (0 : Int32) → Go g iX7_nextToken 0 [some (.ref (gd g 8))] [] u3 (QV (fun u4 => Go g iX7_readLaw 0 [some (.ref (gd g 8)), some (.int (u3.1 8 6)), none, none] [] u4 (QI (fun r5 u5 => Go g iX7_readSection 48 [some (.ref (gd g 8)), some (.int (u3.1 8 6)), some (.int r5), some (.int 0)] [] u5 Q))))) ∧ (r3 = (0 : Int32) → Q (some (.int (0 : Int32))) u3))))))) ∧ (r1 = (0 : Int32) → Go g iX7_blame 0 [some (.ref (gd g 8)), some (.int 1)] [] u1 (QI (fun r6 u6 => (narrow .boolean (.int r6) = .int r6 ∧ Q (some (.int r6)) u6)))))))) : Go g iX7_readSection 0 [some (.ref (gd g 8)), none, none, none] [] u Q := by
  refine go_aload_n dX7_readSection_0 rfl rfl ?_
  refine go_kst (w := 0) dX7_readSection_1 (by decide) rfl rfl ?_
  refine go_cVi (o := 8) (As := [.ref (gk g 0)]) (st := []) (lc := [some (.ref (gd g 8)), some (.ref (gk g 0)), none]) dX7_readSection_3 me_X7_spells rfl ob_8 qm_X7_46 rfl (Nat.le_of_ble_eq_true rfl) rfl ⟨Nat.le_of_ble_eq_true rfl, Nat.le_of_ble_eq_true rfl⟩ rfl (Nat.le_of_ble_eq_true rfl) h (fun r1 u1 h => ?_)
  refine go_if_ne (tgt := 15) dX7_readSection_6 (by decide) (fun hc => ?_) (fun hc => ?_)
  · replace h := h.1 hc
    refine go_aload_n dX7_readSection_15 rfl rfl ?_
    refine go_cVv (o := 8) (As := []) (st := []) (lc := [some (.ref (gd g 8))]) dX7_readSection_16 me_X7_nextToken rfl ob_8 qm_X7_31 rfl (Nat.le_of_ble_eq_true rfl) rfl ⟨Nat.le_of_ble_eq_true rfl, Nat.le_of_ble_eq_true rfl⟩ rfl (Nat.le_of_ble_eq_true rfl) h (fun u2 h => ?_)
    refine go_aload_n dX7_readSection_19 rfl rfl ?_
    refine go_sipush (v := 999) dX7_readSection_20 (by decide) ?_
    refine go_cVi (o := 8) (As := [.int 999]) (st := []) (lc := [some (.ref (gd g 8)), some (.int 999)]) dX7_readSection_23 me_X7_isNumberUpTo rfl ob_8 qm_X7_54 rfl (Nat.le_of_ble_eq_true rfl) rfl ⟨Nat.le_of_ble_eq_true rfl, Nat.le_of_ble_eq_true rfl⟩ rfl (Nat.le_of_ble_eq_true rfl) h (fun r3 u3 h => ?_)
    refine go_if_ne (tgt := 31) dX7_readSection_26 (by decide) (fun hc => ?_) (fun hc => ?_)
    · replace h := h.1 hc
      refine go_aload_n dX7_readSection_31 rfl rfl ?_
      refine go_get (k := 6) (v := .int (u3.1 8 6)) dX7_readSection_32 ob_8 (by decide) qf_X7_57 rfl ?_
      refine go_istore_n (lm := [some (.ref (gd g 8)), some (.int (u3.1 8 6)), none, none]) dX7_readSection_35 rfl (by decide) rfl rfl ?_
      refine go_aload_n dX7_readSection_36 rfl rfl ?_
      refine go_cVv (o := 8) (As := []) (st := []) (lc := [some (.ref (gd g 8))]) dX7_readSection_37 me_X7_nextToken rfl ob_8 qm_X7_31 rfl (Nat.le_of_ble_eq_true rfl) rfl ⟨Nat.le_of_ble_eq_true rfl, Nat.le_of_ble_eq_true rfl⟩ rfl (Nat.le_of_ble_eq_true rfl) h (fun u4 h => ?_)
      refine go_aload_n dX7_readSection_40 rfl rfl ?_
      refine go_iload_n dX7_readSection_41 rfl rfl ?_
      refine go_cVi (o := 8) (As := [.int (u3.1 8 6)]) (st := []) (lc := [some (.ref (gd g 8)), some (.int (u3.1 8 6)), none, none]) dX7_readSection_42 me_X7_readLaw rfl ob_8 qm_X7_60 rfl (Nat.le_of_ble_eq_true rfl) rfl ⟨Nat.le_of_ble_eq_true rfl, Nat.le_of_ble_eq_true rfl⟩ rfl (Nat.le_of_ble_eq_true rfl) h (fun r5 u5 h => ?_)
      refine go_istore_n (lm := [some (.ref (gd g 8)), some (.int (u3.1 8 6)), some (.int r5), none]) dX7_readSection_45 rfl (by decide) rfl rfl ?_
      refine go_iconst (v := 0) dX7_readSection_46 (by decide) ?_
      refine go_istore_n (lm := [some (.ref (gd g 8)), some (.int (u3.1 8 6)), some (.int r5), some (.int 0)]) dX7_readSection_47 rfl (by decide) rfl rfl ?_
      exact h
    · replace h := h.2 hc
      refine go_iconst (v := 0) dX7_readSection_29 (by decide) ?_
      exact go_zret dX7_readSection_30 rfl (by decide) h
  · replace h := h.2 hc
    refine go_aload_n dX7_readSection_9 rfl rfl ?_
    refine go_iconst (v := 1) dX7_readSection_10 (by decide) ?_
    refine go_cVi (o := 8) (As := [.int 1]) (st := []) (lc := [some (.ref (gd g 8)), some (.int 1)]) dX7_readSection_11 me_X7_blame rfl ob_8 qm_X7_50 rfl (Nat.le_of_ble_eq_true rfl) rfl ⟨Nat.le_of_ble_eq_true rfl, Nat.le_of_ble_eq_true rfl⟩ rfl (Nat.le_of_ble_eq_true rfl) h (fun r6 u6 h => ?_)
    exact go_zret dX7_readSection_14 rfl h.1 h.2
set_option maxRecDepth 100000 in
set_option maxHeartbeats 4000000 in
theorem B_X7_readSection_48 {g : gp} {u : sg} {Q : Option Value → sg → Prop} (x1 : Int32) (x2 : Int32) (x3 : Int32) (h : (((400 : Int32) ≤ x3 → ((x2 = (0 : Int32) → (narrow .boolean (.int x2) = .int x2 ∧ Q (some (.int x2)) u)) ∧ (¬ x2 = (0 : Int32) → Go g iX7_nextToken 0 [some (.ref (gd g 8))] [] u (QV (fun u1 => (narrow .boolean (.int x2) = .int x2 ∧ Q (some (.int x2)) u1)))))) ∧ (¬ (400 : Int32) ≤ x3 → ((x2 = (0 : Int32) → ((x2 = (0 : Int32) → (narrow .boolean (.int x2) = .int x2 ∧ Q (some (.int x2)) u)) ∧ (¬ x2 = (0 : Int32) → Go g iX7_nextToken 0 [some (.ref (gd g 8))] [] u (QV (fun u2 => (narrow .boolean (.int x2) = .int x2 ∧ Q (some (.int x2)) u2)))))) ∧ (¬ x2 = (0 : Int32) → (((u.1 8 5) = (3 : Int32) → ((x2 = (0 : Int32) → (narrow .boolean (.int x2) = .int x2 ∧ Q (some (.int x2)) u)) ∧ (¬ x2 = (0 : Int32) → Go g iX7_nextToken 0 [some (.ref (gd g 8))] [] u (QV (fun u3 => (narrow .boolean (.int x2) = .int x2 ∧ Q (some (.int x2)) u3)))))) ∧ (¬ (u.1 8 5) = (3 : Int32) → Go g iX7_readLaw 0 [some (.ref (gd g 8)), some (.int x1), none, none] [] u (QI (fun r4 u4 => Go g iX7_readSection 48 [some (.ref (gd g 8)), some (.int x1), some (.int r4), some (.int (x3 + 1))] [] u4 Q))))))))) : Go g iX7_readSection 48 [some (.ref (gd g 8)), some (.int x1), some (.int x2), some (.int x3)] [] u Q := by
  refine go_iload_n dX7_readSection_48 rfl rfl ?_
  refine go_sipush (v := 400) dX7_readSection_49 (by decide) ?_
  refine go_icmp_ge (tgt := 79) dX7_readSection_52 (by decide) (fun hc => ?_) (fun hc => ?_)
  · replace h := h.1 hc
    refine go_iload_n dX7_readSection_79 rfl rfl ?_
    refine go_if_eq (tgt := 87) dX7_readSection_80 (by decide) (fun hc => ?_) (fun hc => ?_)
    · replace h := h.1 hc
      refine go_iload_n dX7_readSection_87 rfl rfl ?_
      exact go_zret dX7_readSection_88 rfl h.1 h.2
    · replace h := h.2 hc
      refine go_aload_n dX7_readSection_83 rfl rfl ?_
      refine go_cVv (o := 8) (As := []) (st := []) (lc := [some (.ref (gd g 8))]) dX7_readSection_84 me_X7_nextToken rfl ob_8 qm_X7_31 rfl (Nat.le_of_ble_eq_true rfl) rfl ⟨Nat.le_of_ble_eq_true rfl, Nat.le_of_ble_eq_true rfl⟩ rfl (Nat.le_of_ble_eq_true rfl) h (fun u1 h => ?_)
      refine go_iload_n dX7_readSection_87 rfl rfl ?_
      exact go_zret dX7_readSection_88 rfl h.1 h.2
  · replace h := h.2 hc
    refine go_iload_n dX7_readSection_55 rfl rfl ?_
    refine go_if_eq (tgt := 79) dX7_readSection_56 (by decide) (fun hc => ?_) (fun hc => ?_)
    · replace h := h.1 hc
      refine go_iload_n dX7_readSection_79 rfl rfl ?_
      refine go_if_eq (tgt := 87) dX7_readSection_80 (by decide) (fun hc => ?_) (fun hc => ?_)
      · replace h := h.1 hc
        refine go_iload_n dX7_readSection_87 rfl rfl ?_
        exact go_zret dX7_readSection_88 rfl h.1 h.2
      · replace h := h.2 hc
        refine go_aload_n dX7_readSection_83 rfl rfl ?_
        refine go_cVv (o := 8) (As := []) (st := []) (lc := [some (.ref (gd g 8))]) dX7_readSection_84 me_X7_nextToken rfl ob_8 qm_X7_31 rfl (Nat.le_of_ble_eq_true rfl) rfl ⟨Nat.le_of_ble_eq_true rfl, Nat.le_of_ble_eq_true rfl⟩ rfl (Nat.le_of_ble_eq_true rfl) h (fun u2 h => ?_)
        refine go_iload_n dX7_readSection_87 rfl rfl ?_
        exact go_zret dX7_readSection_88 rfl h.1 h.2
    · replace h := h.2 hc
      refine go_aload_n dX7_readSection_59 rfl rfl ?_
      refine go_get (k := 5) (v := .int (u.1 8 5)) dX7_readSection_60 ob_8 (by decide) qf_X7_34 rfl ?_
      refine go_iconst (v := 3) dX7_readSection_63 (by decide) ?_
      refine go_icmp_eq (tgt := 79) dX7_readSection_64 (by decide) (fun hc => ?_) (fun hc => ?_)
      · replace h := h.1 hc
        refine go_iload_n dX7_readSection_79 rfl rfl ?_
        refine go_if_eq (tgt := 87) dX7_readSection_80 (by decide) (fun hc => ?_) (fun hc => ?_)
        · replace h := h.1 hc
          refine go_iload_n dX7_readSection_87 rfl rfl ?_
          exact go_zret dX7_readSection_88 rfl h.1 h.2
        · replace h := h.2 hc
          refine go_aload_n dX7_readSection_83 rfl rfl ?_
          refine go_cVv (o := 8) (As := []) (st := []) (lc := [some (.ref (gd g 8))]) dX7_readSection_84 me_X7_nextToken rfl ob_8 qm_X7_31 rfl (Nat.le_of_ble_eq_true rfl) rfl ⟨Nat.le_of_ble_eq_true rfl, Nat.le_of_ble_eq_true rfl⟩ rfl (Nat.le_of_ble_eq_true rfl) h (fun u3 h => ?_)
          refine go_iload_n dX7_readSection_87 rfl rfl ?_
          exact go_zret dX7_readSection_88 rfl h.1 h.2
      · replace h := h.2 hc
        refine go_aload_n dX7_readSection_67 rfl rfl ?_
        refine go_iload_n dX7_readSection_68 rfl rfl ?_
        refine go_cVi (o := 8) (As := [.int x1]) (st := []) (lc := [some (.ref (gd g 8)), some (.int x1), none, none]) dX7_readSection_69 me_X7_readLaw rfl ob_8 qm_X7_60 rfl (Nat.le_of_ble_eq_true rfl) rfl ⟨Nat.le_of_ble_eq_true rfl, Nat.le_of_ble_eq_true rfl⟩ rfl (Nat.le_of_ble_eq_true rfl) h (fun r4 u4 h => ?_)
        refine go_istore_n (lm := [some (.ref (gd g 8)), some (.int x1), some (.int r4), some (.int x3)]) dX7_readSection_72 rfl (by decide) rfl rfl ?_
        refine go_iinc (v := x3 + 1) (lm := [some (.ref (gd g 8)), some (.int x1), some (.int r4), some (.int (x3 + 1))]) dX7_readSection_73 rfl rfl (by decide) rfl rfl ?_
        refine go_goto (tgt := 48) dX7_readSection_76 (by decide) ?_
        exact h
set_option maxRecDepth 100000 in
set_option maxHeartbeats 4000000 in
theorem B_X7_readLaw_0 {g : gp} {u : sg} {Q : Option Value → sg → Prop} (x1 : Int32) (h : Go g iX7_lawWord 0 [some (.ref (gd g 8))] [] u (QI (fun r1 u1 => ((¬ r1 = (-1 : Int32) → Go g iX1_isDraftFull 0 [some (.ref (gd g 2))] [] u1 (QI (fun r2 u2 => ((r2 = (0 : Int32) → Go g iX7_nextToken 0 [some (.ref (gd g 8))] [] u2 (QV (fun u3 => (vp_in r1 7 ∧ Go g iX7_isNumberUpTo 0 [some (.ref (gd g 8)), some (.int ((stV.getD 0 []).getD r1.toNatClampNeg 0))] [] u3 (QI (fun r4 u4 => ((¬ r4 = (0 : Int32) → Go g iX7_nextToken 0 [some (.ref (gd g 8))] [] u4 (QV (fun u5 => ((r1 = (1 : Int32) → Go g iX7_readLaw 69 [some (.ref (gd g 8)), some (.int x1), some (.int r1), some (.int (u4.1 8 6))] [] u5 Q) ∧ (¬ r1 = (1 : Int32) → ((¬ r1 = (2 : Int32) → ((¬ r1 = (0 : Int32) → (vp_in r1 7 ∧ ((r1 = (3 : Int32) → Go g iX1_draft 0 [some (.ref (gd g 2)), some (.int x1), some (.int (((stV.getD 1 []).getD r1.toNatClampNeg 0) + (u4.1 8 6))), some (.int 1)] [] u5 (QV (fun u6 => Q (some (.int (1 : Int32))) u6))) ∧ (¬ r1 = (3 : Int32) → ((¬ r1 = (5 : Int32) → Go g iX1_draft 0 [some (.ref (gd g 2)), some (.int x1), some (.int (((stV.getD 1 []).getD r1.toNatClampNeg 0) + (u4.1 8 6))), some (.int 0)] [] u5 (QV (fun u7 => Q (some (.int (1 : Int32))) u7))) ∧ (r1 = (5 : Int32) → Go g iX1_draft 0 [some (.ref (gd g 2)), some (.int x1), some (.int (((stV.getD 1 []).getD r1.toNatClampNeg 0) + (u4.1 8 6))), some (.int 1)] [] u5 (QV (fun u8 => Q (some (.int (1 : Int32))) u8)))))))) ∧ (r1 = (0 : Int32) → (vp_in r1 7 ∧ Go g iX1_draft 0 [some (.ref (gd g 2)), some (.int x1), some (.int ((stV.getD 1 []).getD r1.toNatClampNeg 0)), some (.int (u4.1 8 6))] [] u5 (QV (fun u9 => Q (some (.int (1 : Int32))) u9)))))) ∧ (r1 = (2 : Int32) → Go g iX7_readLaw 69 [some (.ref (gd g 8)), some (.int x1), some (.int r1), some (.int (u4.1 8 6))] [] u5 Q))))))) ∧ (r4 = (0 : Int32) → Q (some (.int (0 : Int32))) u4)))))))) ∧ (¬ r2 = (0 : Int32) → Go g iX7_blame 0 [some (.ref (gd g 8)), some (.int 3)] [] u2 (QI (fun r10 u10 => (narrow .boolean (.int r10) = .int r10 ∧ Q (some (.int r10)) u10)))))))) ∧ (r1 = (-1 : Int32) → Go g iX7_blame 0 [some (.ref (gd g 8)), some (.int 1)] [] u1 (QI (fun r11 u11 => (narrow .boolean (.int r11) = .int r11 ∧ Q (some (.int r11)) u11)))))))) : Go g iX7_readLaw 0 [some (.ref (gd g 8)), some (.int x1), none, none] [] u Q := by
  refine go_aload_n dX7_readLaw_0 rfl rfl ?_
  refine go_cVi (o := 8) (As := []) (st := []) (lc := [some (.ref (gd g 8))]) dX7_readLaw_1 me_X7_lawWord rfl ob_8 qm_X7_63 rfl (Nat.le_of_ble_eq_true rfl) rfl ⟨Nat.le_of_ble_eq_true rfl, Nat.le_of_ble_eq_true rfl⟩ rfl (Nat.le_of_ble_eq_true rfl) h (fun r1 u1 h => ?_)
  refine go_istore_n (lm := [some (.ref (gd g 8)), some (.int x1), some (.int r1), none]) dX7_readLaw_4 rfl (by decide) rfl rfl ?_
  refine go_iload_n dX7_readLaw_5 rfl rfl ?_
  refine go_iconst (v := (-1)) dX7_readLaw_6 (by decide) ?_
  refine go_icmp_ne (tgt := 16) dX7_readLaw_7 (by decide) (fun hc => ?_) (fun hc => ?_)
  · replace h := h.1 hc
    refine go_aload_n dX7_readLaw_16 rfl rfl ?_
    refine go_get (k := 0) (v := .ref (gd g 2)) dX7_readLaw_17 ob_8 (by decide) qf_X7_15 rfl ?_
    refine go_cVi (o := 2) (As := []) (st := []) (lc := [some (.ref (gd g 2))]) dX7_readLaw_20 me_X1_isDraftFull rfl ob_2 qm_X7_67 rfl (Nat.le_of_ble_eq_true rfl) rfl ⟨Nat.le_of_ble_eq_true rfl, Nat.le_of_ble_eq_true rfl⟩ rfl (Nat.le_of_ble_eq_true rfl) h (fun r2 u2 h => ?_)
    refine go_if_eq (tgt := 32) dX7_readLaw_23 (by decide) (fun hc => ?_) (fun hc => ?_)
    · replace h := h.1 hc
      refine go_aload_n dX7_readLaw_32 rfl rfl ?_
      refine go_cVv (o := 8) (As := []) (st := []) (lc := [some (.ref (gd g 8))]) dX7_readLaw_33 me_X7_nextToken rfl ob_8 qm_X7_31 rfl (Nat.le_of_ble_eq_true rfl) rfl ⟨Nat.le_of_ble_eq_true rfl, Nat.le_of_ble_eq_true rfl⟩ rfl (Nat.le_of_ble_eq_true rfl) h (fun u3 h => ?_)
      refine go_aload_n dX7_readLaw_36 rfl rfl ?_
      refine go_gst (t := 0) dX7_readLaw_37 (by decide) rfl rfl qf_X7_70 ?_
      refine go_iload_n dX7_readLaw_40 rfl rfl ?_
      obtain ⟨hi, h⟩ := h
      refine go_tld (t := 0) (N := 7) dX7_readLaw_41 (by decide) rfl hi rfl ?_
      refine go_cVi (o := 8) (As := [.int ((stV.getD 0 []).getD r1.toNatClampNeg 0)]) (st := []) (lc := [some (.ref (gd g 8)), some (.int ((stV.getD 0 []).getD r1.toNatClampNeg 0))]) dX7_readLaw_42 me_X7_isNumberUpTo rfl ob_8 qm_X7_54 rfl (Nat.le_of_ble_eq_true rfl) rfl ⟨Nat.le_of_ble_eq_true rfl, Nat.le_of_ble_eq_true rfl⟩ rfl (Nat.le_of_ble_eq_true rfl) h (fun r4 u4 h => ?_)
      refine go_if_ne (tgt := 50) dX7_readLaw_45 (by decide) (fun hc => ?_) (fun hc => ?_)
      · replace h := h.1 hc
        refine go_aload_n dX7_readLaw_50 rfl rfl ?_
        refine go_get (k := 6) (v := .int (u4.1 8 6)) dX7_readLaw_51 ob_8 (by decide) qf_X7_57 rfl ?_
        refine go_istore_n (lm := [some (.ref (gd g 8)), some (.int x1), some (.int r1), some (.int (u4.1 8 6))]) dX7_readLaw_54 rfl (by decide) rfl rfl ?_
        refine go_aload_n dX7_readLaw_55 rfl rfl ?_
        refine go_cVv (o := 8) (As := []) (st := []) (lc := [some (.ref (gd g 8))]) dX7_readLaw_56 me_X7_nextToken rfl ob_8 qm_X7_31 rfl (Nat.le_of_ble_eq_true rfl) rfl ⟨Nat.le_of_ble_eq_true rfl, Nat.le_of_ble_eq_true rfl⟩ rfl (Nat.le_of_ble_eq_true rfl) h (fun u5 h => ?_)
        refine go_iload_n dX7_readLaw_59 rfl rfl ?_
        refine go_iconst (v := 1) dX7_readLaw_60 (by decide) ?_
        refine go_icmp_eq (tgt := 69) dX7_readLaw_61 (by decide) (fun hc => ?_) (fun hc => ?_)
        · replace h := h.1 hc
          exact h
        · replace h := h.2 hc
          refine go_iload_n dX7_readLaw_64 rfl rfl ?_
          refine go_iconst (v := 2) dX7_readLaw_65 (by decide) ?_
          refine go_icmp_ne (tgt := 107) dX7_readLaw_66 (by decide) (fun hc => ?_) (fun hc => ?_)
          · replace h := h.1 hc
            refine go_iload_n dX7_readLaw_107 rfl rfl ?_
            refine go_if_ne (tgt := 128) dX7_readLaw_108 (by decide) (fun hc => ?_) (fun hc => ?_)
            · replace h := h.1 hc
              refine go_aload_n dX7_readLaw_128 rfl rfl ?_
              refine go_get (k := 0) (v := .ref (gd g 2)) dX7_readLaw_129 ob_8 (by decide) qf_X7_15 rfl ?_
              refine go_iload_n dX7_readLaw_132 rfl rfl ?_
              refine go_gst (t := 1) dX7_readLaw_133 (by decide) rfl rfl qf_X7_73 ?_
              refine go_iload_n dX7_readLaw_136 rfl rfl ?_
              obtain ⟨hi, h⟩ := h
              refine go_tld (t := 1) (N := 7) dX7_readLaw_137 (by decide) rfl hi rfl ?_
              refine go_iload_n dX7_readLaw_138 rfl rfl ?_
              refine go_iadd dX7_readLaw_139 ?_
              refine go_iload_n dX7_readLaw_140 rfl rfl ?_
              refine go_iconst (v := 3) dX7_readLaw_141 (by decide) ?_
              refine go_icmp_eq (tgt := 150) dX7_readLaw_142 (by decide) (fun hc => ?_) (fun hc => ?_)
              · replace h := h.1 hc
                refine go_iconst (v := 1) dX7_readLaw_150 (by decide) ?_
                refine go_goto (tgt := 155) dX7_readLaw_151 (by decide) ?_
                refine go_cVv (o := 2) (As := [.int x1, .int (((stV.getD 1 []).getD r1.toNatClampNeg 0) + (u4.1 8 6)), .int 1]) (st := []) (lc := [some (.ref (gd g 2)), some (.int x1), some (.int (((stV.getD 1 []).getD r1.toNatClampNeg 0) + (u4.1 8 6))), some (.int 1)]) dX7_readLaw_155 me_X1_draft rfl ob_2 qm_X7_76 rfl (Nat.le_of_ble_eq_true rfl) rfl ⟨Nat.le_of_ble_eq_true rfl, Nat.le_of_ble_eq_true rfl⟩ rfl (Nat.le_of_ble_eq_true rfl) h (fun u6 h => ?_)
                refine go_iconst (v := 1) dX7_readLaw_158 (by decide) ?_
                exact go_zret dX7_readLaw_159 rfl (by decide) h
              · replace h := h.2 hc
                refine go_iload_n dX7_readLaw_145 rfl rfl ?_
                refine go_iconst (v := 5) dX7_readLaw_146 (by decide) ?_
                refine go_icmp_ne (tgt := 154) dX7_readLaw_147 (by decide) (fun hc => ?_) (fun hc => ?_)
                · replace h := h.1 hc
                  refine go_iconst (v := 0) dX7_readLaw_154 (by decide) ?_
                  refine go_cVv (o := 2) (As := [.int x1, .int (((stV.getD 1 []).getD r1.toNatClampNeg 0) + (u4.1 8 6)), .int 0]) (st := []) (lc := [some (.ref (gd g 2)), some (.int x1), some (.int (((stV.getD 1 []).getD r1.toNatClampNeg 0) + (u4.1 8 6))), some (.int 0)]) dX7_readLaw_155 me_X1_draft rfl ob_2 qm_X7_76 rfl (Nat.le_of_ble_eq_true rfl) rfl ⟨Nat.le_of_ble_eq_true rfl, Nat.le_of_ble_eq_true rfl⟩ rfl (Nat.le_of_ble_eq_true rfl) h (fun u7 h => ?_)
                  refine go_iconst (v := 1) dX7_readLaw_158 (by decide) ?_
                  exact go_zret dX7_readLaw_159 rfl (by decide) h
                · replace h := h.2 hc
                  refine go_iconst (v := 1) dX7_readLaw_150 (by decide) ?_
                  refine go_goto (tgt := 155) dX7_readLaw_151 (by decide) ?_
                  refine go_cVv (o := 2) (As := [.int x1, .int (((stV.getD 1 []).getD r1.toNatClampNeg 0) + (u4.1 8 6)), .int 1]) (st := []) (lc := [some (.ref (gd g 2)), some (.int x1), some (.int (((stV.getD 1 []).getD r1.toNatClampNeg 0) + (u4.1 8 6))), some (.int 1)]) dX7_readLaw_155 me_X1_draft rfl ob_2 qm_X7_76 rfl (Nat.le_of_ble_eq_true rfl) rfl ⟨Nat.le_of_ble_eq_true rfl, Nat.le_of_ble_eq_true rfl⟩ rfl (Nat.le_of_ble_eq_true rfl) h (fun u8 h => ?_)
                  refine go_iconst (v := 1) dX7_readLaw_158 (by decide) ?_
                  exact go_zret dX7_readLaw_159 rfl (by decide) h
            · replace h := h.2 hc
              refine go_aload_n dX7_readLaw_111 rfl rfl ?_
              refine go_get (k := 0) (v := .ref (gd g 2)) dX7_readLaw_112 ob_8 (by decide) qf_X7_15 rfl ?_
              refine go_iload_n dX7_readLaw_115 rfl rfl ?_
              refine go_gst (t := 1) dX7_readLaw_116 (by decide) rfl rfl qf_X7_73 ?_
              refine go_iload_n dX7_readLaw_119 rfl rfl ?_
              obtain ⟨hi, h⟩ := h
              refine go_tld (t := 1) (N := 7) dX7_readLaw_120 (by decide) rfl hi rfl ?_
              refine go_iload_n dX7_readLaw_121 rfl rfl ?_
              refine go_cVv (o := 2) (As := [.int x1, .int ((stV.getD 1 []).getD r1.toNatClampNeg 0), .int (u4.1 8 6)]) (st := []) (lc := [some (.ref (gd g 2)), some (.int x1), some (.int ((stV.getD 1 []).getD r1.toNatClampNeg 0)), some (.int (u4.1 8 6))]) dX7_readLaw_122 me_X1_draft rfl ob_2 qm_X7_76 rfl (Nat.le_of_ble_eq_true rfl) rfl ⟨Nat.le_of_ble_eq_true rfl, Nat.le_of_ble_eq_true rfl⟩ rfl (Nat.le_of_ble_eq_true rfl) h (fun u9 h => ?_)
              refine go_goto (tgt := 158) dX7_readLaw_125 (by decide) ?_
              refine go_iconst (v := 1) dX7_readLaw_158 (by decide) ?_
              exact go_zret dX7_readLaw_159 rfl (by decide) h
          · replace h := h.2 hc
            exact h
      · replace h := h.2 hc
        refine go_iconst (v := 0) dX7_readLaw_48 (by decide) ?_
        exact go_zret dX7_readLaw_49 rfl (by decide) h
    · replace h := h.2 hc
      refine go_aload_n dX7_readLaw_26 rfl rfl ?_
      refine go_iconst (v := 3) dX7_readLaw_27 (by decide) ?_
      refine go_cVi (o := 8) (As := [.int 3]) (st := []) (lc := [some (.ref (gd g 8)), some (.int 3)]) dX7_readLaw_28 me_X7_blame rfl ob_8 qm_X7_50 rfl (Nat.le_of_ble_eq_true rfl) rfl ⟨Nat.le_of_ble_eq_true rfl, Nat.le_of_ble_eq_true rfl⟩ rfl (Nat.le_of_ble_eq_true rfl) h (fun r10 u10 h => ?_)
      exact go_zret dX7_readLaw_31 rfl h.1 h.2
  · replace h := h.2 hc
    refine go_aload_n dX7_readLaw_10 rfl rfl ?_
    refine go_iconst (v := 1) dX7_readLaw_11 (by decide) ?_
    refine go_cVi (o := 8) (As := [.int 1]) (st := []) (lc := [some (.ref (gd g 8)), some (.int 1)]) dX7_readLaw_12 me_X7_blame rfl ob_8 qm_X7_50 rfl (Nat.le_of_ble_eq_true rfl) rfl ⟨Nat.le_of_ble_eq_true rfl, Nat.le_of_ble_eq_true rfl⟩ rfl (Nat.le_of_ble_eq_true rfl) h (fun r11 u11 h => ?_)
    exact go_zret dX7_readLaw_15 rfl h.1 h.2
set_option maxRecDepth 100000 in
set_option maxHeartbeats 4000000 in
theorem B_X7_readLaw_69 {g : gp} {u : sg} {Q : Option Value → sg → Prop} (x1 : Int32) (x2 : Int32) (x3 : Int32) (h : Go g iX7_isNumberUpTo 0 [some (.ref (gd g 8)), some (.int 999)] [] u (QI (fun r1 u1 => ((¬ r1 = (0 : Int32) → (vp_in x2 7 ∧ Go g iX1_draft 0 [some (.ref (gd g 2)), some (.int x1), some (.int (((stV.getD 1 []).getD x2.toNatClampNeg 0) + x3)), some (.int (u1.1 8 6))] [] u1 (QV (fun u2 => Go g iX7_nextToken 0 [some (.ref (gd g 8))] [] u2 (QV (fun u3 => Q (some (.int (1 : Int32))) u3)))))) ∧ (r1 = (0 : Int32) → Q (some (.int (0 : Int32))) u1))))) : Go g iX7_readLaw 69 [some (.ref (gd g 8)), some (.int x1), some (.int x2), some (.int x3)] [] u Q := by
  refine go_aload_n dX7_readLaw_69 rfl rfl ?_
  refine go_sipush (v := 999) dX7_readLaw_70 (by decide) ?_
  refine go_cVi (o := 8) (As := [.int 999]) (st := []) (lc := [some (.ref (gd g 8)), some (.int 999)]) dX7_readLaw_73 me_X7_isNumberUpTo rfl ob_8 qm_X7_54 rfl (Nat.le_of_ble_eq_true rfl) rfl ⟨Nat.le_of_ble_eq_true rfl, Nat.le_of_ble_eq_true rfl⟩ rfl (Nat.le_of_ble_eq_true rfl) h (fun r1 u1 h => ?_)
  refine go_if_ne (tgt := 81) dX7_readLaw_76 (by decide) (fun hc => ?_) (fun hc => ?_)
  · replace h := h.1 hc
    refine go_aload_n dX7_readLaw_81 rfl rfl ?_
    refine go_get (k := 0) (v := .ref (gd g 2)) dX7_readLaw_82 ob_8 (by decide) qf_X7_15 rfl ?_
    refine go_iload_n dX7_readLaw_85 rfl rfl ?_
    refine go_gst (t := 1) dX7_readLaw_86 (by decide) rfl rfl qf_X7_73 ?_
    refine go_iload_n dX7_readLaw_89 rfl rfl ?_
    obtain ⟨hi, h⟩ := h
    refine go_tld (t := 1) (N := 7) dX7_readLaw_90 (by decide) rfl hi rfl ?_
    refine go_iload_n dX7_readLaw_91 rfl rfl ?_
    refine go_iadd dX7_readLaw_92 ?_
    refine go_aload_n dX7_readLaw_93 rfl rfl ?_
    refine go_get (k := 6) (v := .int (u1.1 8 6)) dX7_readLaw_94 ob_8 (by decide) qf_X7_57 rfl ?_
    refine go_cVv (o := 2) (As := [.int x1, .int (((stV.getD 1 []).getD x2.toNatClampNeg 0) + x3), .int (u1.1 8 6)]) (st := []) (lc := [some (.ref (gd g 2)), some (.int x1), some (.int (((stV.getD 1 []).getD x2.toNatClampNeg 0) + x3)), some (.int (u1.1 8 6))]) dX7_readLaw_97 me_X1_draft rfl ob_2 qm_X7_76 rfl (Nat.le_of_ble_eq_true rfl) rfl ⟨Nat.le_of_ble_eq_true rfl, Nat.le_of_ble_eq_true rfl⟩ rfl (Nat.le_of_ble_eq_true rfl) h (fun u2 h => ?_)
    refine go_aload_n dX7_readLaw_100 rfl rfl ?_
    refine go_cVv (o := 8) (As := []) (st := []) (lc := [some (.ref (gd g 8))]) dX7_readLaw_101 me_X7_nextToken rfl ob_8 qm_X7_31 rfl (Nat.le_of_ble_eq_true rfl) rfl ⟨Nat.le_of_ble_eq_true rfl, Nat.le_of_ble_eq_true rfl⟩ rfl (Nat.le_of_ble_eq_true rfl) h (fun u3 h => ?_)
    refine go_goto (tgt := 158) dX7_readLaw_104 (by decide) ?_
    refine go_iconst (v := 1) dX7_readLaw_158 (by decide) ?_
    exact go_zret dX7_readLaw_159 rfl (by decide) h
  · replace h := h.2 hc
    refine go_iconst (v := 0) dX7_readLaw_79 (by decide) ?_
    exact go_zret dX7_readLaw_80 rfl (by decide) h
set_option maxRecDepth 100000 in
set_option maxHeartbeats 4000000 in
theorem B_X7_lawWord_0 {g : gp} {u : sg} {Q : Option Value → sg → Prop}  (h : Go g iX7_spells 0 [some (.ref (gd g 8)), some (.ref (gk g 1)), none] [] u (QI (fun r1 u1 => ((r1 = (0 : Int32) → Go g iX7_spells 0 [some (.ref (gd g 8)), some (.ref (gk g 2)), none] [] u1 (QI (fun r2 u2 => ((r2 = (0 : Int32) → Go g iX7_spells 0 [some (.ref (gd g 8)), some (.ref (gk g 3)), none] [] u2 (QI (fun r3 u3 => ((r3 = (0 : Int32) → Go g iX7_spells 0 [some (.ref (gd g 8)), some (.ref (gk g 4)), none] [] u3 (QI (fun r4 u4 => ((r4 = (0 : Int32) → Go g iX7_spells 0 [some (.ref (gd g 8)), some (.ref (gk g 5)), none] [] u4 (QI (fun r5 u5 => ((r5 = (0 : Int32) → Go g iX7_spells 0 [some (.ref (gd g 8)), some (.ref (gk g 6)), none] [] u5 (QI (fun r6 u6 => ((r6 = (0 : Int32) → Go g iX7_spells 0 [some (.ref (gd g 8)), some (.ref (gk g 7)), none] [] u6 (QI (fun r7 u7 => ((r7 = (0 : Int32) → Q (some (.int (-1 : Int32))) u7) ∧ (¬ r7 = (0 : Int32) → Q (some (.int (6 : Int32))) u7))))) ∧ (¬ r6 = (0 : Int32) → Q (some (.int (5 : Int32))) u6))))) ∧ (¬ r5 = (0 : Int32) → Q (some (.int (4 : Int32))) u5))))) ∧ (¬ r4 = (0 : Int32) → Q (some (.int (3 : Int32))) u4))))) ∧ (¬ r3 = (0 : Int32) → Q (some (.int (2 : Int32))) u3))))) ∧ (¬ r2 = (0 : Int32) → Q (some (.int (1 : Int32))) u2))))) ∧ (¬ r1 = (0 : Int32) → Q (some (.int (0 : Int32))) u1))))) : Go g iX7_lawWord 0 [some (.ref (gd g 8))] [] u Q := by
  refine go_aload_n dX7_lawWord_0 rfl rfl ?_
  refine go_kst (w := 1) dX7_lawWord_1 (by decide) rfl rfl ?_
  refine go_cVi (o := 8) (As := [.ref (gk g 1)]) (st := []) (lc := [some (.ref (gd g 8)), some (.ref (gk g 1)), none]) dX7_lawWord_3 me_X7_spells rfl ob_8 qm_X7_46 rfl (Nat.le_of_ble_eq_true rfl) rfl ⟨Nat.le_of_ble_eq_true rfl, Nat.le_of_ble_eq_true rfl⟩ rfl (Nat.le_of_ble_eq_true rfl) h (fun r1 u1 h => ?_)
  refine go_if_eq (tgt := 11) dX7_lawWord_6 (by decide) (fun hc => ?_) (fun hc => ?_)
  · replace h := h.1 hc
    refine go_aload_n dX7_lawWord_11 rfl rfl ?_
    refine go_kst (w := 2) dX7_lawWord_12 (by decide) rfl rfl ?_
    refine go_cVi (o := 8) (As := [.ref (gk g 2)]) (st := []) (lc := [some (.ref (gd g 8)), some (.ref (gk g 2)), none]) dX7_lawWord_14 me_X7_spells rfl ob_8 qm_X7_46 rfl (Nat.le_of_ble_eq_true rfl) rfl ⟨Nat.le_of_ble_eq_true rfl, Nat.le_of_ble_eq_true rfl⟩ rfl (Nat.le_of_ble_eq_true rfl) h (fun r2 u2 h => ?_)
    refine go_if_eq (tgt := 22) dX7_lawWord_17 (by decide) (fun hc => ?_) (fun hc => ?_)
    · replace h := h.1 hc
      refine go_aload_n dX7_lawWord_22 rfl rfl ?_
      refine go_kst (w := 3) dX7_lawWord_23 (by decide) rfl rfl ?_
      refine go_cVi (o := 8) (As := [.ref (gk g 3)]) (st := []) (lc := [some (.ref (gd g 8)), some (.ref (gk g 3)), none]) dX7_lawWord_25 me_X7_spells rfl ob_8 qm_X7_46 rfl (Nat.le_of_ble_eq_true rfl) rfl ⟨Nat.le_of_ble_eq_true rfl, Nat.le_of_ble_eq_true rfl⟩ rfl (Nat.le_of_ble_eq_true rfl) h (fun r3 u3 h => ?_)
      refine go_if_eq (tgt := 33) dX7_lawWord_28 (by decide) (fun hc => ?_) (fun hc => ?_)
      · replace h := h.1 hc
        refine go_aload_n dX7_lawWord_33 rfl rfl ?_
        refine go_kst (w := 4) dX7_lawWord_34 (by decide) rfl rfl ?_
        refine go_cVi (o := 8) (As := [.ref (gk g 4)]) (st := []) (lc := [some (.ref (gd g 8)), some (.ref (gk g 4)), none]) dX7_lawWord_36 me_X7_spells rfl ob_8 qm_X7_46 rfl (Nat.le_of_ble_eq_true rfl) rfl ⟨Nat.le_of_ble_eq_true rfl, Nat.le_of_ble_eq_true rfl⟩ rfl (Nat.le_of_ble_eq_true rfl) h (fun r4 u4 h => ?_)
        refine go_if_eq (tgt := 44) dX7_lawWord_39 (by decide) (fun hc => ?_) (fun hc => ?_)
        · replace h := h.1 hc
          refine go_aload_n dX7_lawWord_44 rfl rfl ?_
          refine go_kst (w := 5) dX7_lawWord_45 (by decide) rfl rfl ?_
          refine go_cVi (o := 8) (As := [.ref (gk g 5)]) (st := []) (lc := [some (.ref (gd g 8)), some (.ref (gk g 5)), none]) dX7_lawWord_47 me_X7_spells rfl ob_8 qm_X7_46 rfl (Nat.le_of_ble_eq_true rfl) rfl ⟨Nat.le_of_ble_eq_true rfl, Nat.le_of_ble_eq_true rfl⟩ rfl (Nat.le_of_ble_eq_true rfl) h (fun r5 u5 h => ?_)
          refine go_if_eq (tgt := 55) dX7_lawWord_50 (by decide) (fun hc => ?_) (fun hc => ?_)
          · replace h := h.1 hc
            refine go_aload_n dX7_lawWord_55 rfl rfl ?_
            refine go_kst (w := 6) dX7_lawWord_56 (by decide) rfl rfl ?_
            refine go_cVi (o := 8) (As := [.ref (gk g 6)]) (st := []) (lc := [some (.ref (gd g 8)), some (.ref (gk g 6)), none]) dX7_lawWord_58 me_X7_spells rfl ob_8 qm_X7_46 rfl (Nat.le_of_ble_eq_true rfl) rfl ⟨Nat.le_of_ble_eq_true rfl, Nat.le_of_ble_eq_true rfl⟩ rfl (Nat.le_of_ble_eq_true rfl) h (fun r6 u6 h => ?_)
            refine go_if_eq (tgt := 66) dX7_lawWord_61 (by decide) (fun hc => ?_) (fun hc => ?_)
            · replace h := h.1 hc
              refine go_aload_n dX7_lawWord_66 rfl rfl ?_
              refine go_kst (w := 7) dX7_lawWord_67 (by decide) rfl rfl ?_
              refine go_cVi (o := 8) (As := [.ref (gk g 7)]) (st := []) (lc := [some (.ref (gd g 8)), some (.ref (gk g 7)), none]) dX7_lawWord_69 me_X7_spells rfl ob_8 qm_X7_46 rfl (Nat.le_of_ble_eq_true rfl) rfl ⟨Nat.le_of_ble_eq_true rfl, Nat.le_of_ble_eq_true rfl⟩ rfl (Nat.le_of_ble_eq_true rfl) h (fun r7 u7 h => ?_)
              refine go_if_eq (tgt := 80) dX7_lawWord_72 (by decide) (fun hc => ?_) (fun hc => ?_)
              · replace h := h.1 hc
                refine go_iconst (v := (-1)) dX7_lawWord_80 (by decide) ?_
                exact go_iret dX7_lawWord_81 rfl h
              · replace h := h.2 hc
                refine go_bipush (v := 6) dX7_lawWord_75 (by decide) ?_
                refine go_goto (tgt := 81) dX7_lawWord_77 (by decide) ?_
                exact go_iret dX7_lawWord_81 rfl h
            · replace h := h.2 hc
              refine go_iconst (v := 5) dX7_lawWord_64 (by decide) ?_
              exact go_iret dX7_lawWord_65 rfl h
          · replace h := h.2 hc
            refine go_iconst (v := 4) dX7_lawWord_53 (by decide) ?_
            exact go_iret dX7_lawWord_54 rfl h
        · replace h := h.2 hc
          refine go_iconst (v := 3) dX7_lawWord_42 (by decide) ?_
          exact go_iret dX7_lawWord_43 rfl h
      · replace h := h.2 hc
        refine go_iconst (v := 2) dX7_lawWord_31 (by decide) ?_
        exact go_iret dX7_lawWord_32 rfl h
    · replace h := h.2 hc
      refine go_iconst (v := 1) dX7_lawWord_20 (by decide) ?_
      exact go_iret dX7_lawWord_21 rfl h
  · replace h := h.2 hc
    refine go_iconst (v := 0) dX7_lawWord_9 (by decide) ?_
    exact go_iret dX7_lawWord_10 rfl h
set_option maxRecDepth 100000 in
set_option maxHeartbeats 4000000 in
theorem B_X7_isNumberUpTo_0 {g : gp} {u : sg} {Q : Option Value → sg → Prop} (x1 : Int32) (h : (((u.1 8 5) = (2 : Int32) → (((u.1 8 6) ≤ x1 → Q (some (.int (1 : Int32))) u) ∧ (¬ (u.1 8 6) ≤ x1 → Go g iX7_blame 0 [some (.ref (gd g 8)), some (.int 2)] [] u (QI (fun r1 u1 => ((r1 = (0 : Int32) → Q (some (.int (0 : Int32))) u1) ∧ (¬ r1 = (0 : Int32) → Q (some (.int (1 : Int32))) u1))))))) ∧ (¬ (u.1 8 5) = (2 : Int32) → Go g iX7_blame 0 [some (.ref (gd g 8)), some (.int 1)] [] u (QI (fun r2 u2 => (narrow .boolean (.int r2) = .int r2 ∧ Q (some (.int r2)) u2)))))) : Go g iX7_isNumberUpTo 0 [some (.ref (gd g 8)), some (.int x1)] [] u Q := by
  refine go_aload_n dX7_isNumberUpTo_0 rfl rfl ?_
  refine go_get (k := 5) (v := .int (u.1 8 5)) dX7_isNumberUpTo_1 ob_8 (by decide) qf_X7_34 rfl ?_
  refine go_iconst (v := 2) dX7_isNumberUpTo_4 (by decide) ?_
  refine go_icmp_eq (tgt := 14) dX7_isNumberUpTo_5 (by decide) (fun hc => ?_) (fun hc => ?_)
  · replace h := h.1 hc
    refine go_aload_n dX7_isNumberUpTo_14 rfl rfl ?_
    refine go_get (k := 6) (v := .int (u.1 8 6)) dX7_isNumberUpTo_15 ob_8 (by decide) qf_X7_57 rfl ?_
    refine go_iload_n dX7_isNumberUpTo_18 rfl rfl ?_
    refine go_icmp_le (tgt := 30) dX7_isNumberUpTo_19 (by decide) (fun hc => ?_) (fun hc => ?_)
    · replace h := h.1 hc
      refine go_iconst (v := 1) dX7_isNumberUpTo_30 (by decide) ?_
      refine go_goto (tgt := 35) dX7_isNumberUpTo_31 (by decide) ?_
      exact go_zret dX7_isNumberUpTo_35 rfl (by decide) h
    · replace h := h.2 hc
      refine go_aload_n dX7_isNumberUpTo_22 rfl rfl ?_
      refine go_iconst (v := 2) dX7_isNumberUpTo_23 (by decide) ?_
      refine go_cVi (o := 8) (As := [.int 2]) (st := []) (lc := [some (.ref (gd g 8)), some (.int 2)]) dX7_isNumberUpTo_24 me_X7_blame rfl ob_8 qm_X7_50 rfl (Nat.le_of_ble_eq_true rfl) rfl ⟨Nat.le_of_ble_eq_true rfl, Nat.le_of_ble_eq_true rfl⟩ rfl (Nat.le_of_ble_eq_true rfl) h (fun r1 u1 h => ?_)
      refine go_if_eq (tgt := 34) dX7_isNumberUpTo_27 (by decide) (fun hc => ?_) (fun hc => ?_)
      · replace h := h.1 hc
        refine go_iconst (v := 0) dX7_isNumberUpTo_34 (by decide) ?_
        exact go_zret dX7_isNumberUpTo_35 rfl (by decide) h
      · replace h := h.2 hc
        refine go_iconst (v := 1) dX7_isNumberUpTo_30 (by decide) ?_
        refine go_goto (tgt := 35) dX7_isNumberUpTo_31 (by decide) ?_
        exact go_zret dX7_isNumberUpTo_35 rfl (by decide) h
  · replace h := h.2 hc
    refine go_aload_n dX7_isNumberUpTo_8 rfl rfl ?_
    refine go_iconst (v := 1) dX7_isNumberUpTo_9 (by decide) ?_
    refine go_cVi (o := 8) (As := [.int 1]) (st := []) (lc := [some (.ref (gd g 8)), some (.int 1)]) dX7_isNumberUpTo_10 me_X7_blame rfl ob_8 qm_X7_50 rfl (Nat.le_of_ble_eq_true rfl) rfl ⟨Nat.le_of_ble_eq_true rfl, Nat.le_of_ble_eq_true rfl⟩ rfl (Nat.le_of_ble_eq_true rfl) h (fun r2 u2 h => ?_)
    exact go_zret dX7_isNumberUpTo_13 rfl h.1 h.2
set_option maxRecDepth 100000 in
set_option maxHeartbeats 4000000 in
theorem B_X7_blame_0 {g : gp} {u : sg} {Q : Option Value → sg → Prop} (x1 : Int32) (h : Q (some (.int (0 : Int32))) (sI (sI u 8 8 x1) 8 7 (u.1 8 4))) : Go g iX7_blame 0 [some (.ref (gd g 8)), some (.int x1)] [] u Q := by
  refine go_aload_n dX7_blame_0 rfl rfl ?_
  refine go_iload_n dX7_blame_1 rfl rfl ?_
  refine go_put (k := 8) dX7_blame_2 ob_8 (by decide) qf_X7_94 rfl rfl pf_I ?_
  refine go_aload_n dX7_blame_5 rfl rfl ?_
  refine go_aload_n dX7_blame_6 rfl rfl ?_
  refine go_get (k := 4) (v := .int (u.1 8 4)) dX7_blame_7 ob_8 (by decide) qf_X7_97 rfl ?_
  refine go_put (k := 7) dX7_blame_10 ob_8 (by decide) qf_X7_100 rfl rfl pf_I ?_
  refine go_iconst (v := 0) dX7_blame_13 (by decide) ?_
  exact go_zret dX7_blame_14 rfl (by decide) h
set_option maxRecDepth 100000 in
set_option maxHeartbeats 4000000 in
theorem B_X7_spells_0 {g : gp} {u : sg} {Q : Option Value → sg → Prop} (w : Nat) (hw8 : w < 8) (h : ((¬ (u.1 8 5) = (1 : Int32) → Q (some (.int (0 : Int32))) u) ∧ ((u.1 8 5) = (1 : Int32) → Go g iJ0_length_8abf5 0 [some (.ref (gk g w))] [] u (QI (fun r1 u1 => ((((u.1 8 3) - (u.1 8 4)) = r1 → Go g iX7_spells 28 [some (.ref (gd g 8)), some (.ref (gk g w)), some (.int 0)] [] u1 Q) ∧ (¬ ((u.1 8 3) - (u.1 8 4)) = r1 → Q (some (.int (0 : Int32))) u1))))))) : Go g iX7_spells 0 [some (.ref (gd g 8)), some (.ref (gk g w)), none] [] u Q := by
  refine go_aload_n dX7_spells_0 rfl rfl ?_
  refine go_get (k := 5) (v := .int (u.1 8 5)) dX7_spells_1 ob_8 (by decide) qf_X7_34 rfl ?_
  refine go_iconst (v := 1) dX7_spells_4 (by decide) ?_
  refine go_icmp_ne (tgt := 24) dX7_spells_5 (by decide) (fun hc => ?_) (fun hc => ?_)
  · replace h := h.1 hc
    refine go_iconst (v := 0) dX7_spells_24 (by decide) ?_
    exact go_zret dX7_spells_25 rfl (by decide) h
  · replace h := h.2 hc
    refine go_aload_n dX7_spells_8 rfl rfl ?_
    refine go_get (k := 3) (v := .int (u.1 8 3)) dX7_spells_9 ob_8 (by decide) qf_X7_23 rfl ?_
    refine go_aload_n dX7_spells_12 rfl rfl ?_
    refine go_get (k := 4) (v := .int (u.1 8 4)) dX7_spells_13 ob_8 (by decide) qf_X7_97 rfl ?_
    refine go_isub dX7_spells_16 ?_
    refine go_aload_n dX7_spells_17 rfl rfl ?_
    refine go_cKi (As := []) (st := [.int ((u.1 8 3) - (u.1 8 4))]) (lc := [some (.ref (gk g w))]) dX7_spells_18 me_J0_length_8abf5 rfl hw8 qm_X7_103 rfl (Nat.le_of_ble_eq_true rfl) rfl ⟨Nat.le_of_ble_eq_true rfl, Nat.le_of_ble_eq_true rfl⟩ rfl (Nat.le_of_ble_eq_true rfl) h (fun r1 u1 h => ?_)
    refine go_icmp_eq (tgt := 26) dX7_spells_21 (by decide) (fun hc => ?_) (fun hc => ?_)
    · replace h := h.1 hc
      refine go_iconst (v := 0) dX7_spells_26 (by decide) ?_
      refine go_istore_n (lm := [some (.ref (gd g 8)), some (.ref (gk g w)), some (.int 0)]) dX7_spells_27 rfl (by decide) rfl rfl ?_
      exact h
    · replace h := h.2 hc
      refine go_iconst (v := 0) dX7_spells_24 (by decide) ?_
      exact go_zret dX7_spells_25 rfl (by decide) h
set_option maxRecDepth 100000 in
set_option maxHeartbeats 4000000 in
theorem B_X7_spells_28 {g : gp} {u : sg} {Q : Option Value → sg → Prop} (w : Nat) (x2 : Int32) (hw8 : w < 8) (h : Go g iJ0_length_8abf5 0 [some (.ref (gk g w))] [] u (QI (fun r1 u1 => ((r1 ≤ x2 → Q (some (.int (1 : Int32))) u1) ∧ (¬ r1 ≤ x2 → (vp_in ((u1.1 8 4) + x2) 400 ∧ Go g iJ0_charAt_5068e 0 [some (.ref (gk g w)), some (.int x2)] [] u1 (QI (fun r2 u2 => (((u1.2 40 ((u1.1 8 4) + x2).toNatClampNeg) = r2 → Go g iX7_spells 28 [some (.ref (gd g 8)), some (.ref (gk g w)), some (.int (x2 + 1))] [] u2 Q) ∧ (¬ (u1.2 40 ((u1.1 8 4) + x2).toNatClampNeg) = r2 → Q (some (.int (0 : Int32))) u2)))))))))) : Go g iX7_spells 28 [some (.ref (gd g 8)), some (.ref (gk g w)), some (.int x2)] [] u Q := by
  refine go_iload_n dX7_spells_28 rfl rfl ?_
  refine go_aload_n dX7_spells_29 rfl rfl ?_
  refine go_cKi (As := []) (st := [.int x2]) (lc := [some (.ref (gk g w))]) dX7_spells_30 me_J0_length_8abf5 rfl hw8 qm_X7_103 rfl (Nat.le_of_ble_eq_true rfl) rfl ⟨Nat.le_of_ble_eq_true rfl, Nat.le_of_ble_eq_true rfl⟩ rfl (Nat.le_of_ble_eq_true rfl) h (fun r1 u1 h => ?_)
  refine go_icmp_ge (tgt := 63) dX7_spells_33 (by decide) (fun hc => ?_) (fun hc => ?_)
  · replace h := h.1 hc
    refine go_iconst (v := 1) dX7_spells_63 (by decide) ?_
    exact go_zret dX7_spells_64 rfl (by decide) h
  · replace h := h.2 hc
    refine go_aload_n dX7_spells_36 rfl rfl ?_
    refine go_get (k := 1) (v := .ref (gd g 40)) dX7_spells_37 ob_8 (by decide) qf_X7_11 rfl ?_
    refine go_aload_n dX7_spells_40 rfl rfl ?_
    refine go_get (k := 4) (v := .int (u1.1 8 4)) dX7_spells_41 ob_8 (by decide) qf_X7_97 rfl ?_
    refine go_iload_n dX7_spells_44 rfl rfl ?_
    refine go_iadd dX7_spells_45 ?_
    obtain ⟨hi, h⟩ := h
    refine go_ild (a := 40) (n := 400) dX7_spells_46 (by decide) (by decide) rfl hi ?_
    refine go_aload_n dX7_spells_47 rfl rfl ?_
    refine go_iload_n dX7_spells_48 rfl rfl ?_
    refine go_cKi (As := [.int x2]) (st := [.int (u1.2 40 ((u1.1 8 4) + x2).toNatClampNeg)]) (lc := [some (.ref (gk g w)), some (.int x2)]) dX7_spells_49 me_J0_charAt_5068e rfl hw8 qm_X7_107 rfl (Nat.le_of_ble_eq_true rfl) rfl ⟨Nat.le_of_ble_eq_true rfl, Nat.le_of_ble_eq_true rfl⟩ rfl (Nat.le_of_ble_eq_true rfl) h (fun r2 u2 h => ?_)
    refine go_icmp_eq (tgt := 57) dX7_spells_52 (by decide) (fun hc => ?_) (fun hc => ?_)
    · replace h := h.1 hc
      refine go_iinc (v := x2 + 1) (lm := [some (.ref (gd g 8)), some (.ref (gk g w)), some (.int (x2 + 1))]) dX7_spells_57 rfl rfl (by decide) rfl rfl ?_
      refine go_goto (tgt := 28) dX7_spells_60 (by decide) ?_
      exact h
    · replace h := h.2 hc
      refine go_iconst (v := 0) dX7_spells_55 (by decide) ?_
      exact go_zret dX7_spells_56 rfl (by decide) h
set_option maxRecDepth 100000 in
set_option maxHeartbeats 4000000 in
theorem B_X7_nextToken_0 {g : gp} {u : sg} {Q : Option Value → sg → Prop}  (h : (((u.1 8 2) ≤ (u.1 8 3) → Go g iX7_nextToken 52 [some (.ref (gd g 8))] [] u Q) ∧ (¬ (u.1 8 2) ≤ (u.1 8 3) → (vp_in (u.1 8 3) 400 ∧ (((u.2 40 (u.1 8 3).toNatClampNeg) = (32 : Int32) → Go g iX7_nextToken 0 [some (.ref (gd g 8))] [] (sI u 8 3 ((u.1 8 3) + 1)) Q) ∧ (¬ (u.2 40 (u.1 8 3).toNatClampNeg) = (32 : Int32) → (vp_in (u.1 8 3) 400 ∧ ((¬ (u.2 40 (u.1 8 3).toNatClampNeg) = (10 : Int32) → Go g iX7_nextToken 52 [some (.ref (gd g 8))] [] u Q) ∧ ((u.2 40 (u.1 8 3).toNatClampNeg) = (10 : Int32) → Go g iX7_nextToken 0 [some (.ref (gd g 8))] [] (sI u 8 3 ((u.1 8 3) + 1)) Q))))))))) : Go g iX7_nextToken 0 [some (.ref (gd g 8))] [] u Q := by
  refine go_aload_n dX7_nextToken_0 rfl rfl ?_
  refine go_get (k := 3) (v := .int (u.1 8 3)) dX7_nextToken_1 ob_8 (by decide) qf_X7_23 rfl ?_
  refine go_aload_n dX7_nextToken_4 rfl rfl ?_
  refine go_get (k := 2) (v := .int (u.1 8 2)) dX7_nextToken_5 ob_8 (by decide) qf_X7_19 rfl ?_
  refine go_icmp_ge (tgt := 52) dX7_nextToken_8 (by decide) (fun hc => ?_) (fun hc => ?_)
  · replace h := h.1 hc
    exact h
  · replace h := h.2 hc
    refine go_aload_n dX7_nextToken_11 rfl rfl ?_
    refine go_get (k := 1) (v := .ref (gd g 40)) dX7_nextToken_12 ob_8 (by decide) qf_X7_11 rfl ?_
    refine go_aload_n dX7_nextToken_15 rfl rfl ?_
    refine go_get (k := 3) (v := .int (u.1 8 3)) dX7_nextToken_16 ob_8 (by decide) qf_X7_23 rfl ?_
    obtain ⟨hi, h⟩ := h
    refine go_ild (a := 40) (n := 400) dX7_nextToken_19 (by decide) (by decide) rfl hi ?_
    refine go_bipush (v := 32) dX7_nextToken_20 (by decide) ?_
    refine go_icmp_eq (tgt := 39) dX7_nextToken_22 (by decide) (fun hc => ?_) (fun hc => ?_)
    · replace h := h.1 hc
      refine go_aload_n dX7_nextToken_39 rfl rfl ?_
      refine go_dup dX7_nextToken_40 rfl ?_
      refine go_get (k := 3) (v := .int (u.1 8 3)) dX7_nextToken_41 ob_8 (by decide) qf_X7_23 rfl ?_
      refine go_iconst (v := 1) dX7_nextToken_44 (by decide) ?_
      refine go_iadd dX7_nextToken_45 ?_
      refine go_put (k := 3) dX7_nextToken_46 ob_8 (by decide) qf_X7_23 rfl rfl pf_I ?_
      refine go_goto (tgt := 0) dX7_nextToken_49 (by decide) ?_
      exact h
    · replace h := h.2 hc
      refine go_aload_n dX7_nextToken_25 rfl rfl ?_
      refine go_get (k := 1) (v := .ref (gd g 40)) dX7_nextToken_26 ob_8 (by decide) qf_X7_11 rfl ?_
      refine go_aload_n dX7_nextToken_29 rfl rfl ?_
      refine go_get (k := 3) (v := .int (u.1 8 3)) dX7_nextToken_30 ob_8 (by decide) qf_X7_23 rfl ?_
      obtain ⟨hi, h⟩ := h
      refine go_ild (a := 40) (n := 400) dX7_nextToken_33 (by decide) (by decide) rfl hi ?_
      refine go_bipush (v := 10) dX7_nextToken_34 (by decide) ?_
      refine go_icmp_ne (tgt := 52) dX7_nextToken_36 (by decide) (fun hc => ?_) (fun hc => ?_)
      · replace h := h.1 hc
        exact h
      · replace h := h.2 hc
        refine go_aload_n dX7_nextToken_39 rfl rfl ?_
        refine go_dup dX7_nextToken_40 rfl ?_
        refine go_get (k := 3) (v := .int (u.1 8 3)) dX7_nextToken_41 ob_8 (by decide) qf_X7_23 rfl ?_
        refine go_iconst (v := 1) dX7_nextToken_44 (by decide) ?_
        refine go_iadd dX7_nextToken_45 ?_
        refine go_put (k := 3) dX7_nextToken_46 ob_8 (by decide) qf_X7_23 rfl rfl pf_I ?_
        refine go_goto (tgt := 0) dX7_nextToken_49 (by decide) ?_
        exact h
set_option maxRecDepth 100000 in
set_option maxHeartbeats 4000000 in
theorem B_X7_nextToken_52 {g : gp} {u : sg} {Q : Option Value → sg → Prop}  (h : (((u.1 8 3) < (u.1 8 2) → (vp_in (u.1 8 3) 400 ∧ Go g iX7_isLetter 0 [some (.int (u.2 40 (u.1 8 3).toNatClampNeg))] [] (sI u 8 4 (u.1 8 3)) (QI (fun r1 u1 => ((r1 = (0 : Int32) → (vp_in (u1.1 8 3) 400 ∧ Go g iX7_isFigure 0 [some (.int (u1.2 40 (u1.1 8 3).toNatClampNeg))] [] u1 (QI (fun r2 u2 => ((r2 = (0 : Int32) → (vp_in (u2.1 8 3) 400 ∧ ((¬ (u2.2 40 (u2.1 8 3).toNatClampNeg) = (59 : Int32) → Q none (sI (sI u2 8 5 (4 : Int32)) 8 3 ((u2.1 8 3) + 1))) ∧ ((u2.2 40 (u2.1 8 3).toNatClampNeg) = (59 : Int32) → Q none (sI (sI u2 8 5 (3 : Int32)) 8 3 ((u2.1 8 3) + 1)))))) ∧ (¬ r2 = (0 : Int32) → Go g iX7_readNumber 0 [some (.ref (gd g 8))] [] u2 (QV (fun u3 => Q none u3)))))))) ∧ (¬ r1 = (0 : Int32) → Go g iX7_readName 0 [some (.ref (gd g 8))] [] u1 (QV (fun u4 => Q none u4)))))))) ∧ (¬ (u.1 8 3) < (u.1 8 2) → Q none (sI (sI u 8 4 (u.1 8 3)) 8 5 (0 : Int32))))) : Go g iX7_nextToken 52 [some (.ref (gd g 8))] [] u Q := by
  refine go_aload_n dX7_nextToken_52 rfl rfl ?_
  refine go_aload_n dX7_nextToken_53 rfl rfl ?_
  refine go_get (k := 3) (v := .int (u.1 8 3)) dX7_nextToken_54 ob_8 (by decide) qf_X7_23 rfl ?_
  refine go_put (k := 4) dX7_nextToken_57 ob_8 (by decide) qf_X7_97 rfl rfl pf_I ?_
  refine go_aload_n dX7_nextToken_60 rfl rfl ?_
  refine go_get (k := 3) (v := .int (u.1 8 3)) dX7_nextToken_61 ob_8 (by decide) qf_X7_23 rfl ?_
  refine go_aload_n dX7_nextToken_64 rfl rfl ?_
  refine go_get (k := 2) (v := .int (u.1 8 2)) dX7_nextToken_65 ob_8 (by decide) qf_X7_19 rfl ?_
  refine go_icmp_lt (tgt := 79) dX7_nextToken_68 (by decide) (fun hc => ?_) (fun hc => ?_)
  · replace h := h.1 hc
    refine go_aload_n dX7_nextToken_79 rfl rfl ?_
    refine go_get (k := 1) (v := .ref (gd g 40)) dX7_nextToken_80 ob_8 (by decide) qf_X7_11 rfl ?_
    refine go_aload_n dX7_nextToken_83 rfl rfl ?_
    refine go_get (k := 3) (v := .int (u.1 8 3)) dX7_nextToken_84 ob_8 (by decide) qf_X7_23 rfl ?_
    obtain ⟨hi, h⟩ := h
    refine go_ild (a := 40) (n := 400) dX7_nextToken_87 (by decide) (by decide) rfl hi ?_
    refine go_cSi (As := [.int (u.2 40 (u.1 8 3).toNatClampNeg)]) (st := []) (lc := [some (.int (u.2 40 (u.1 8 3).toNatClampNeg))]) dX7_nextToken_88 me_X7_isLetter qm_X7_111 rfl (Nat.le_of_ble_eq_true rfl) rfl ⟨Nat.le_of_ble_eq_true rfl, Nat.le_of_ble_eq_true rfl⟩ rfl (Nat.le_of_ble_eq_true rfl) h (fun r1 u1 h => ?_)
    refine go_if_eq (tgt := 101) dX7_nextToken_91 (by decide) (fun hc => ?_) (fun hc => ?_)
    · replace h := h.1 hc
      refine go_aload_n dX7_nextToken_101 rfl rfl ?_
      refine go_get (k := 1) (v := .ref (gd g 40)) dX7_nextToken_102 ob_8 (by decide) qf_X7_11 rfl ?_
      refine go_aload_n dX7_nextToken_105 rfl rfl ?_
      refine go_get (k := 3) (v := .int (u1.1 8 3)) dX7_nextToken_106 ob_8 (by decide) qf_X7_23 rfl ?_
      obtain ⟨hi, h⟩ := h
      refine go_ild (a := 40) (n := 400) dX7_nextToken_109 (by decide) (by decide) rfl hi ?_
      refine go_cSi (As := [.int (u1.2 40 (u1.1 8 3).toNatClampNeg)]) (st := []) (lc := [some (.int (u1.2 40 (u1.1 8 3).toNatClampNeg))]) dX7_nextToken_110 me_X7_isFigure qm_X7_117 rfl (Nat.le_of_ble_eq_true rfl) rfl ⟨Nat.le_of_ble_eq_true rfl, Nat.le_of_ble_eq_true rfl⟩ rfl (Nat.le_of_ble_eq_true rfl) h (fun r2 u2 h => ?_)
      refine go_if_eq (tgt := 123) dX7_nextToken_113 (by decide) (fun hc => ?_) (fun hc => ?_)
      · replace h := h.1 hc
        refine go_aload_n dX7_nextToken_123 rfl rfl ?_
        refine go_aload_n dX7_nextToken_124 rfl rfl ?_
        refine go_get (k := 1) (v := .ref (gd g 40)) dX7_nextToken_125 ob_8 (by decide) qf_X7_11 rfl ?_
        refine go_aload_n dX7_nextToken_128 rfl rfl ?_
        refine go_get (k := 3) (v := .int (u2.1 8 3)) dX7_nextToken_129 ob_8 (by decide) qf_X7_23 rfl ?_
        obtain ⟨hi, h⟩ := h
        refine go_ild (a := 40) (n := 400) dX7_nextToken_132 (by decide) (by decide) rfl hi ?_
        refine go_bipush (v := 59) dX7_nextToken_133 (by decide) ?_
        refine go_icmp_ne (tgt := 142) dX7_nextToken_135 (by decide) (fun hc => ?_) (fun hc => ?_)
        · replace h := h.1 hc
          refine go_iconst (v := 4) dX7_nextToken_142 (by decide) ?_
          refine go_put (k := 5) dX7_nextToken_143 ob_8 (by decide) qf_X7_34 rfl rfl pf_I ?_
          refine go_aload_n dX7_nextToken_146 rfl rfl ?_
          refine go_dup dX7_nextToken_147 rfl ?_
          refine go_get (k := 3) (v := .int (u2.1 8 3)) dX7_nextToken_148 ob_8 (by decide) qf_X7_23 rfl ?_
          refine go_iconst (v := 1) dX7_nextToken_151 (by decide) ?_
          refine go_iadd dX7_nextToken_152 ?_
          refine go_put (k := 3) dX7_nextToken_153 ob_8 (by decide) qf_X7_23 rfl rfl pf_I ?_
          exact go_vret dX7_nextToken_156 rfl h
        · replace h := h.2 hc
          refine go_iconst (v := 3) dX7_nextToken_138 (by decide) ?_
          refine go_goto (tgt := 143) dX7_nextToken_139 (by decide) ?_
          refine go_put (k := 5) dX7_nextToken_143 ob_8 (by decide) qf_X7_34 rfl rfl pf_I ?_
          refine go_aload_n dX7_nextToken_146 rfl rfl ?_
          refine go_dup dX7_nextToken_147 rfl ?_
          refine go_get (k := 3) (v := .int (u2.1 8 3)) dX7_nextToken_148 ob_8 (by decide) qf_X7_23 rfl ?_
          refine go_iconst (v := 1) dX7_nextToken_151 (by decide) ?_
          refine go_iadd dX7_nextToken_152 ?_
          refine go_put (k := 3) dX7_nextToken_153 ob_8 (by decide) qf_X7_23 rfl rfl pf_I ?_
          exact go_vret dX7_nextToken_156 rfl h
      · replace h := h.2 hc
        refine go_aload_n dX7_nextToken_116 rfl rfl ?_
        refine go_cVv (o := 8) (As := []) (st := []) (lc := [some (.ref (gd g 8))]) dX7_nextToken_117 me_X7_readNumber rfl ob_8 qm_X7_120 rfl (Nat.le_of_ble_eq_true rfl) rfl ⟨Nat.le_of_ble_eq_true rfl, Nat.le_of_ble_eq_true rfl⟩ rfl (Nat.le_of_ble_eq_true rfl) h (fun u3 h => ?_)
        refine go_goto (tgt := 156) dX7_nextToken_120 (by decide) ?_
        exact go_vret dX7_nextToken_156 rfl h
    · replace h := h.2 hc
      refine go_aload_n dX7_nextToken_94 rfl rfl ?_
      refine go_cVv (o := 8) (As := []) (st := []) (lc := [some (.ref (gd g 8))]) dX7_nextToken_95 me_X7_readName rfl ob_8 qm_X7_114 rfl (Nat.le_of_ble_eq_true rfl) rfl ⟨Nat.le_of_ble_eq_true rfl, Nat.le_of_ble_eq_true rfl⟩ rfl (Nat.le_of_ble_eq_true rfl) h (fun u4 h => ?_)
      refine go_goto (tgt := 156) dX7_nextToken_98 (by decide) ?_
      exact go_vret dX7_nextToken_156 rfl h
  · replace h := h.2 hc
    refine go_aload_n dX7_nextToken_71 rfl rfl ?_
    refine go_iconst (v := 0) dX7_nextToken_72 (by decide) ?_
    refine go_put (k := 5) dX7_nextToken_73 ob_8 (by decide) qf_X7_34 rfl rfl pf_I ?_
    refine go_goto (tgt := 156) dX7_nextToken_76 (by decide) ?_
    exact go_vret dX7_nextToken_156 rfl h
set_option maxRecDepth 100000 in
set_option maxHeartbeats 4000000 in
theorem B_X7_readName_0 {g : gp} {u : sg} {Q : Option Value → sg → Prop}  (h : Go g iX7_readName 5 [some (.ref (gd g 8))] [] (sI u 8 5 (1 : Int32)) Q) : Go g iX7_readName 0 [some (.ref (gd g 8))] [] u Q := by
  refine go_aload_n dX7_readName_0 rfl rfl ?_
  refine go_iconst (v := 1) dX7_readName_1 (by decide) ?_
  refine go_put (k := 5) dX7_readName_2 ob_8 (by decide) qf_X7_34 rfl rfl pf_I ?_
  exact h
set_option maxRecDepth 100000 in
set_option maxHeartbeats 4000000 in
theorem B_X7_readName_5 {g : gp} {u : sg} {Q : Option Value → sg → Prop}  (h : (((u.1 8 2) ≤ (u.1 8 3) → Q none u) ∧ (¬ (u.1 8 2) ≤ (u.1 8 3) → (vp_in (u.1 8 3) 400 ∧ Go g iX7_isLetter 0 [some (.int (u.2 40 (u.1 8 3).toNatClampNeg))] [] u (QI (fun r1 u1 => ((r1 = (0 : Int32) → Q none u1) ∧ (¬ r1 = (0 : Int32) → Go g iX7_readName 5 [some (.ref (gd g 8))] [] (sI u1 8 3 ((u1.1 8 3) + 1)) Q)))))))) : Go g iX7_readName 5 [some (.ref (gd g 8))] [] u Q := by
  refine go_aload_n dX7_readName_5 rfl rfl ?_
  refine go_get (k := 3) (v := .int (u.1 8 3)) dX7_readName_6 ob_8 (by decide) qf_X7_23 rfl ?_
  refine go_aload_n dX7_readName_9 rfl rfl ?_
  refine go_get (k := 2) (v := .int (u.1 8 2)) dX7_readName_10 ob_8 (by decide) qf_X7_19 rfl ?_
  refine go_icmp_ge (tgt := 44) dX7_readName_13 (by decide) (fun hc => ?_) (fun hc => ?_)
  · replace h := h.1 hc
    exact go_vret dX7_readName_44 rfl h
  · replace h := h.2 hc
    refine go_aload_n dX7_readName_16 rfl rfl ?_
    refine go_get (k := 1) (v := .ref (gd g 40)) dX7_readName_17 ob_8 (by decide) qf_X7_11 rfl ?_
    refine go_aload_n dX7_readName_20 rfl rfl ?_
    refine go_get (k := 3) (v := .int (u.1 8 3)) dX7_readName_21 ob_8 (by decide) qf_X7_23 rfl ?_
    obtain ⟨hi, h⟩ := h
    refine go_ild (a := 40) (n := 400) dX7_readName_24 (by decide) (by decide) rfl hi ?_
    refine go_cSi (As := [.int (u.2 40 (u.1 8 3).toNatClampNeg)]) (st := []) (lc := [some (.int (u.2 40 (u.1 8 3).toNatClampNeg))]) dX7_readName_25 me_X7_isLetter qm_X7_111 rfl (Nat.le_of_ble_eq_true rfl) rfl ⟨Nat.le_of_ble_eq_true rfl, Nat.le_of_ble_eq_true rfl⟩ rfl (Nat.le_of_ble_eq_true rfl) h (fun r1 u1 h => ?_)
    refine go_if_eq (tgt := 44) dX7_readName_28 (by decide) (fun hc => ?_) (fun hc => ?_)
    · replace h := h.1 hc
      exact go_vret dX7_readName_44 rfl h
    · replace h := h.2 hc
      refine go_aload_n dX7_readName_31 rfl rfl ?_
      refine go_dup dX7_readName_32 rfl ?_
      refine go_get (k := 3) (v := .int (u1.1 8 3)) dX7_readName_33 ob_8 (by decide) qf_X7_23 rfl ?_
      refine go_iconst (v := 1) dX7_readName_36 (by decide) ?_
      refine go_iadd dX7_readName_37 ?_
      refine go_put (k := 3) dX7_readName_38 ob_8 (by decide) qf_X7_23 rfl rfl pf_I ?_
      refine go_goto (tgt := 5) dX7_readName_41 (by decide) ?_
      exact h
set_option maxRecDepth 100000 in
set_option maxHeartbeats 4000000 in
theorem B_X7_readNumber_0 {g : gp} {u : sg} {Q : Option Value → sg → Prop}  (h : Go g iX7_readNumber 5 [some (.ref (gd g 8))] [] (sI u 8 6 (0 : Int32)) Q) : Go g iX7_readNumber 0 [some (.ref (gd g 8))] [] u Q := by
  refine go_aload_n dX7_readNumber_0 rfl rfl ?_
  refine go_iconst (v := 0) dX7_readNumber_1 (by decide) ?_
  refine go_put (k := 6) dX7_readNumber_2 ob_8 (by decide) qf_X7_57 rfl rfl pf_I ?_
  exact h
set_option maxRecDepth 100000 in
set_option maxHeartbeats 4000000 in
theorem B_X7_readNumber_5 {g : gp} {u : sg} {Q : Option Value → sg → Prop}  (h : (((u.1 8 2) ≤ (u.1 8 3) → Go g iX7_readNumber 81 [some (.ref (gd g 8))] [] u Q) ∧ (¬ (u.1 8 2) ≤ (u.1 8 3) → (vp_in (u.1 8 3) 400 ∧ Go g iX7_isFigure 0 [some (.int (u.2 40 (u.1 8 3).toNatClampNeg))] [] u (QI (fun r1 u1 => ((r1 = (0 : Int32) → Go g iX7_readNumber 81 [some (.ref (gd g 8))] [] u1 Q) ∧ (¬ r1 = (0 : Int32) → (((4 : Int32) ≤ ((u1.1 8 3) - (u1.1 8 4)) → Go g iX7_readNumber 5 [some (.ref (gd g 8))] [] (sI u1 8 3 ((u1.1 8 3) + 1)) Q) ∧ (¬ (4 : Int32) ≤ ((u1.1 8 3) - (u1.1 8 4)) → (vp_in (u1.1 8 3) 400 ∧ Go g iX7_readNumber 5 [some (.ref (gd g 8))] [] (sI (sI u1 8 6 ((((u1.1 8 6) * 10) + (u1.2 40 (u1.1 8 3).toNatClampNeg)) - 48)) 8 3 ((u1.1 8 3) + 1)) Q))))))))))) : Go g iX7_readNumber 5 [some (.ref (gd g 8))] [] u Q := by
  refine go_aload_n dX7_readNumber_5 rfl rfl ?_
  refine go_get (k := 3) (v := .int (u.1 8 3)) dX7_readNumber_6 ob_8 (by decide) qf_X7_23 rfl ?_
  refine go_aload_n dX7_readNumber_9 rfl rfl ?_
  refine go_get (k := 2) (v := .int (u.1 8 2)) dX7_readNumber_10 ob_8 (by decide) qf_X7_19 rfl ?_
  refine go_icmp_ge (tgt := 81) dX7_readNumber_13 (by decide) (fun hc => ?_) (fun hc => ?_)
  · replace h := h.1 hc
    exact h
  · replace h := h.2 hc
    refine go_aload_n dX7_readNumber_16 rfl rfl ?_
    refine go_get (k := 1) (v := .ref (gd g 40)) dX7_readNumber_17 ob_8 (by decide) qf_X7_11 rfl ?_
    refine go_aload_n dX7_readNumber_20 rfl rfl ?_
    refine go_get (k := 3) (v := .int (u.1 8 3)) dX7_readNumber_21 ob_8 (by decide) qf_X7_23 rfl ?_
    obtain ⟨hi, h⟩ := h
    refine go_ild (a := 40) (n := 400) dX7_readNumber_24 (by decide) (by decide) rfl hi ?_
    refine go_cSi (As := [.int (u.2 40 (u.1 8 3).toNatClampNeg)]) (st := []) (lc := [some (.int (u.2 40 (u.1 8 3).toNatClampNeg))]) dX7_readNumber_25 me_X7_isFigure qm_X7_117 rfl (Nat.le_of_ble_eq_true rfl) rfl ⟨Nat.le_of_ble_eq_true rfl, Nat.le_of_ble_eq_true rfl⟩ rfl (Nat.le_of_ble_eq_true rfl) h (fun r1 u1 h => ?_)
    refine go_if_eq (tgt := 81) dX7_readNumber_28 (by decide) (fun hc => ?_) (fun hc => ?_)
    · replace h := h.1 hc
      exact h
    · replace h := h.2 hc
      refine go_aload_n dX7_readNumber_31 rfl rfl ?_
      refine go_get (k := 3) (v := .int (u1.1 8 3)) dX7_readNumber_32 ob_8 (by decide) qf_X7_23 rfl ?_
      refine go_aload_n dX7_readNumber_35 rfl rfl ?_
      refine go_get (k := 4) (v := .int (u1.1 8 4)) dX7_readNumber_36 ob_8 (by decide) qf_X7_97 rfl ?_
      refine go_isub dX7_readNumber_39 ?_
      refine go_iconst (v := 4) dX7_readNumber_40 (by decide) ?_
      refine go_icmp_ge (tgt := 68) dX7_readNumber_41 (by decide) (fun hc => ?_) (fun hc => ?_)
      · replace h := h.1 hc
        refine go_aload_n dX7_readNumber_68 rfl rfl ?_
        refine go_dup dX7_readNumber_69 rfl ?_
        refine go_get (k := 3) (v := .int (u1.1 8 3)) dX7_readNumber_70 ob_8 (by decide) qf_X7_23 rfl ?_
        refine go_iconst (v := 1) dX7_readNumber_73 (by decide) ?_
        refine go_iadd dX7_readNumber_74 ?_
        refine go_put (k := 3) dX7_readNumber_75 ob_8 (by decide) qf_X7_23 rfl rfl pf_I ?_
        refine go_goto (tgt := 5) dX7_readNumber_78 (by decide) ?_
        exact h
      · replace h := h.2 hc
        refine go_aload_n dX7_readNumber_44 rfl rfl ?_
        refine go_aload_n dX7_readNumber_45 rfl rfl ?_
        refine go_get (k := 6) (v := .int (u1.1 8 6)) dX7_readNumber_46 ob_8 (by decide) qf_X7_57 rfl ?_
        refine go_bipush (v := 10) dX7_readNumber_49 (by decide) ?_
        refine go_imul dX7_readNumber_51 ?_
        refine go_aload_n dX7_readNumber_52 rfl rfl ?_
        refine go_get (k := 1) (v := .ref (gd g 40)) dX7_readNumber_53 ob_8 (by decide) qf_X7_11 rfl ?_
        refine go_aload_n dX7_readNumber_56 rfl rfl ?_
        refine go_get (k := 3) (v := .int (u1.1 8 3)) dX7_readNumber_57 ob_8 (by decide) qf_X7_23 rfl ?_
        obtain ⟨hi, h⟩ := h
        refine go_ild (a := 40) (n := 400) dX7_readNumber_60 (by decide) (by decide) rfl hi ?_
        refine go_iadd dX7_readNumber_61 ?_
        refine go_bipush (v := 48) dX7_readNumber_62 (by decide) ?_
        refine go_isub dX7_readNumber_64 ?_
        refine go_put (k := 6) dX7_readNumber_65 ob_8 (by decide) qf_X7_57 rfl rfl pf_I ?_
        refine go_aload_n dX7_readNumber_68 rfl rfl ?_
        refine go_dup dX7_readNumber_69 rfl ?_
        refine go_get (k := 3) (v := .int (u1.1 8 3)) dX7_readNumber_70 ob_8 (by decide) qf_X7_23 rfl ?_
        refine go_iconst (v := 1) dX7_readNumber_73 (by decide) ?_
        refine go_iadd dX7_readNumber_74 ?_
        refine go_put (k := 3) dX7_readNumber_75 ob_8 (by decide) qf_X7_23 rfl rfl pf_I ?_
        refine go_goto (tgt := 5) dX7_readNumber_78 (by decide) ?_
        exact h
set_option maxRecDepth 100000 in
set_option maxHeartbeats 4000000 in
theorem B_X7_readNumber_81 {g : gp} {u : sg} {Q : Option Value → sg → Prop}  (h : (((4 : Int32) < ((u.1 8 3) - (u.1 8 4)) → Q none (sI u 8 5 (4 : Int32))) ∧ (¬ (4 : Int32) < ((u.1 8 3) - (u.1 8 4)) → Q none (sI u 8 5 (2 : Int32))))) : Go g iX7_readNumber 81 [some (.ref (gd g 8))] [] u Q := by
  refine go_aload_n dX7_readNumber_81 rfl rfl ?_
  refine go_aload_n dX7_readNumber_82 rfl rfl ?_
  refine go_get (k := 3) (v := .int (u.1 8 3)) dX7_readNumber_83 ob_8 (by decide) qf_X7_23 rfl ?_
  refine go_aload_n dX7_readNumber_86 rfl rfl ?_
  refine go_get (k := 4) (v := .int (u.1 8 4)) dX7_readNumber_87 ob_8 (by decide) qf_X7_97 rfl ?_
  refine go_isub dX7_readNumber_90 ?_
  refine go_iconst (v := 4) dX7_readNumber_91 (by decide) ?_
  refine go_icmp_gt (tgt := 99) dX7_readNumber_92 (by decide) (fun hc => ?_) (fun hc => ?_)
  · replace h := h.1 hc
    refine go_iconst (v := 4) dX7_readNumber_99 (by decide) ?_
    refine go_put (k := 5) dX7_readNumber_100 ob_8 (by decide) qf_X7_34 rfl rfl pf_I ?_
    exact go_vret dX7_readNumber_103 rfl h
  · replace h := h.2 hc
    refine go_iconst (v := 2) dX7_readNumber_95 (by decide) ?_
    refine go_goto (tgt := 100) dX7_readNumber_96 (by decide) ?_
    refine go_put (k := 5) dX7_readNumber_100 ob_8 (by decide) qf_X7_34 rfl rfl pf_I ?_
    exact go_vret dX7_readNumber_103 rfl h
set_option maxRecDepth 100000 in
set_option maxHeartbeats 4000000 in
theorem B_X7_isLetter_0 {g : gp} {u : sg} {Q : Option Value → sg → Prop} (x0 : Int32) (h : ((x0 < (97 : Int32) → Q (some (.int (0 : Int32))) u) ∧ (¬ x0 < (97 : Int32) → (((122 : Int32) < x0 → Q (some (.int (0 : Int32))) u) ∧ (¬ (122 : Int32) < x0 → Q (some (.int (1 : Int32))) u))))) : Go g iX7_isLetter 0 [some (.int x0)] [] u Q := by
  refine go_iload_n dX7_isLetter_0 rfl rfl ?_
  refine go_bipush (v := 97) dX7_isLetter_1 (by decide) ?_
  refine go_icmp_lt (tgt := 16) dX7_isLetter_3 (by decide) (fun hc => ?_) (fun hc => ?_)
  · replace h := h.1 hc
    refine go_iconst (v := 0) dX7_isLetter_16 (by decide) ?_
    exact go_zret dX7_isLetter_17 rfl (by decide) h
  · replace h := h.2 hc
    refine go_iload_n dX7_isLetter_6 rfl rfl ?_
    refine go_bipush (v := 122) dX7_isLetter_7 (by decide) ?_
    refine go_icmp_gt (tgt := 16) dX7_isLetter_9 (by decide) (fun hc => ?_) (fun hc => ?_)
    · replace h := h.1 hc
      refine go_iconst (v := 0) dX7_isLetter_16 (by decide) ?_
      exact go_zret dX7_isLetter_17 rfl (by decide) h
    · replace h := h.2 hc
      refine go_iconst (v := 1) dX7_isLetter_12 (by decide) ?_
      refine go_goto (tgt := 17) dX7_isLetter_13 (by decide) ?_
      exact go_zret dX7_isLetter_17 rfl (by decide) h
set_option maxRecDepth 100000 in
set_option maxHeartbeats 4000000 in
theorem B_X7_isFigure_0 {g : gp} {u : sg} {Q : Option Value → sg → Prop} (x0 : Int32) (h : ((x0 < (48 : Int32) → Q (some (.int (0 : Int32))) u) ∧ (¬ x0 < (48 : Int32) → (((57 : Int32) < x0 → Q (some (.int (0 : Int32))) u) ∧ (¬ (57 : Int32) < x0 → Q (some (.int (1 : Int32))) u))))) : Go g iX7_isFigure 0 [some (.int x0)] [] u Q := by
  refine go_iload_n dX7_isFigure_0 rfl rfl ?_
  refine go_bipush (v := 48) dX7_isFigure_1 (by decide) ?_
  refine go_icmp_lt (tgt := 16) dX7_isFigure_3 (by decide) (fun hc => ?_) (fun hc => ?_)
  · replace h := h.1 hc
    refine go_iconst (v := 0) dX7_isFigure_16 (by decide) ?_
    exact go_zret dX7_isFigure_17 rfl (by decide) h
  · replace h := h.2 hc
    refine go_iload_n dX7_isFigure_6 rfl rfl ?_
    refine go_bipush (v := 57) dX7_isFigure_7 (by decide) ?_
    refine go_icmp_gt (tgt := 16) dX7_isFigure_9 (by decide) (fun hc => ?_) (fun hc => ?_)
    · replace h := h.1 hc
      refine go_iconst (v := 0) dX7_isFigure_16 (by decide) ?_
      exact go_zret dX7_isFigure_17 rfl (by decide) h
    · replace h := h.2 hc
      refine go_iconst (v := 1) dX7_isFigure_12 (by decide) ?_
      refine go_goto (tgt := 17) dX7_isFigure_13 (by decide) ?_
      exact go_zret dX7_isFigure_17 rfl (by decide) h
set_option maxRecDepth 100000 in
set_option maxHeartbeats 4000000 in
theorem B_J6_bitCount_0f7a4_0 {g : gp} {u : sg} {Q : Option Value → sg → Prop} (x0 : Int32) (h : Q (some (.int ((((((((x0 - (((x0.toUInt32 >>> ((1 : Int32).toUInt32 &&& Int32.toUInt32 31)).toInt32) &&& 1431655765)) &&& 858993459) + ((((x0 - (((x0.toUInt32 >>> ((1 : Int32).toUInt32 &&& Int32.toUInt32 31)).toInt32) &&& 1431655765)).toUInt32 >>> ((2 : Int32).toUInt32 &&& Int32.toUInt32 31)).toInt32) &&& 858993459)) + (((((x0 - (((x0.toUInt32 >>> ((1 : Int32).toUInt32 &&& Int32.toUInt32 31)).toInt32) &&& 1431655765)) &&& 858993459) + ((((x0 - (((x0.toUInt32 >>> ((1 : Int32).toUInt32 &&& Int32.toUInt32 31)).toInt32) &&& 1431655765)).toUInt32 >>> ((2 : Int32).toUInt32 &&& Int32.toUInt32 31)).toInt32) &&& 858993459)).toUInt32 >>> ((4 : Int32).toUInt32 &&& Int32.toUInt32 31)).toInt32)) &&& 252645135) + (((((((x0 - (((x0.toUInt32 >>> ((1 : Int32).toUInt32 &&& Int32.toUInt32 31)).toInt32) &&& 1431655765)) &&& 858993459) + ((((x0 - (((x0.toUInt32 >>> ((1 : Int32).toUInt32 &&& Int32.toUInt32 31)).toInt32) &&& 1431655765)).toUInt32 >>> ((2 : Int32).toUInt32 &&& Int32.toUInt32 31)).toInt32) &&& 858993459)) + (((((x0 - (((x0.toUInt32 >>> ((1 : Int32).toUInt32 &&& Int32.toUInt32 31)).toInt32) &&& 1431655765)) &&& 858993459) + ((((x0 - (((x0.toUInt32 >>> ((1 : Int32).toUInt32 &&& Int32.toUInt32 31)).toInt32) &&& 1431655765)).toUInt32 >>> ((2 : Int32).toUInt32 &&& Int32.toUInt32 31)).toInt32) &&& 858993459)).toUInt32 >>> ((4 : Int32).toUInt32 &&& Int32.toUInt32 31)).toInt32)) &&& 252645135).toUInt32 >>> ((8 : Int32).toUInt32 &&& Int32.toUInt32 31)).toInt32)) + ((((((((x0 - (((x0.toUInt32 >>> ((1 : Int32).toUInt32 &&& Int32.toUInt32 31)).toInt32) &&& 1431655765)) &&& 858993459) + ((((x0 - (((x0.toUInt32 >>> ((1 : Int32).toUInt32 &&& Int32.toUInt32 31)).toInt32) &&& 1431655765)).toUInt32 >>> ((2 : Int32).toUInt32 &&& Int32.toUInt32 31)).toInt32) &&& 858993459)) + (((((x0 - (((x0.toUInt32 >>> ((1 : Int32).toUInt32 &&& Int32.toUInt32 31)).toInt32) &&& 1431655765)) &&& 858993459) + ((((x0 - (((x0.toUInt32 >>> ((1 : Int32).toUInt32 &&& Int32.toUInt32 31)).toInt32) &&& 1431655765)).toUInt32 >>> ((2 : Int32).toUInt32 &&& Int32.toUInt32 31)).toInt32) &&& 858993459)).toUInt32 >>> ((4 : Int32).toUInt32 &&& Int32.toUInt32 31)).toInt32)) &&& 252645135) + (((((((x0 - (((x0.toUInt32 >>> ((1 : Int32).toUInt32 &&& Int32.toUInt32 31)).toInt32) &&& 1431655765)) &&& 858993459) + ((((x0 - (((x0.toUInt32 >>> ((1 : Int32).toUInt32 &&& Int32.toUInt32 31)).toInt32) &&& 1431655765)).toUInt32 >>> ((2 : Int32).toUInt32 &&& Int32.toUInt32 31)).toInt32) &&& 858993459)) + (((((x0 - (((x0.toUInt32 >>> ((1 : Int32).toUInt32 &&& Int32.toUInt32 31)).toInt32) &&& 1431655765)) &&& 858993459) + ((((x0 - (((x0.toUInt32 >>> ((1 : Int32).toUInt32 &&& Int32.toUInt32 31)).toInt32) &&& 1431655765)).toUInt32 >>> ((2 : Int32).toUInt32 &&& Int32.toUInt32 31)).toInt32) &&& 858993459)).toUInt32 >>> ((4 : Int32).toUInt32 &&& Int32.toUInt32 31)).toInt32)) &&& 252645135).toUInt32 >>> ((8 : Int32).toUInt32 &&& Int32.toUInt32 31)).toInt32)).toUInt32 >>> ((16 : Int32).toUInt32 &&& Int32.toUInt32 31)).toInt32)) &&& 63))) u) : Go g iJ6_bitCount_0f7a4 0 [some (.int x0)] [] u Q := by
  refine go_iload_n dJ6_bitCount_0f7a4_0 rfl rfl ?_
  refine go_iload_n dJ6_bitCount_0f7a4_1 rfl rfl ?_
  refine go_iconst (v := 1) dJ6_bitCount_0f7a4_2 (by decide) ?_
  refine go_iushr dJ6_bitCount_0f7a4_3 ?_
  refine go_ldcw dJ6_bitCount_0f7a4_4 qc_J6_265 ?_
  refine go_iand dJ6_bitCount_0f7a4_7 ?_
  refine go_isub dJ6_bitCount_0f7a4_8 ?_
  refine go_istore_n (lm := [some (.int (x0 - (((x0.toUInt32 >>> ((1 : Int32).toUInt32 &&& Int32.toUInt32 31)).toInt32) &&& 1431655765)))]) dJ6_bitCount_0f7a4_9 rfl (by decide) rfl rfl ?_
  refine go_iload_n dJ6_bitCount_0f7a4_10 rfl rfl ?_
  refine go_ldcw dJ6_bitCount_0f7a4_11 qc_J6_266 ?_
  refine go_iand dJ6_bitCount_0f7a4_14 ?_
  refine go_iload_n dJ6_bitCount_0f7a4_15 rfl rfl ?_
  refine go_iconst (v := 2) dJ6_bitCount_0f7a4_16 (by decide) ?_
  refine go_iushr dJ6_bitCount_0f7a4_17 ?_
  refine go_ldcw dJ6_bitCount_0f7a4_18 qc_J6_266 ?_
  refine go_iand dJ6_bitCount_0f7a4_21 ?_
  refine go_iadd dJ6_bitCount_0f7a4_22 ?_
  refine go_istore_n (lm := [some (.int (((x0 - (((x0.toUInt32 >>> ((1 : Int32).toUInt32 &&& Int32.toUInt32 31)).toInt32) &&& 1431655765)) &&& 858993459) + ((((x0 - (((x0.toUInt32 >>> ((1 : Int32).toUInt32 &&& Int32.toUInt32 31)).toInt32) &&& 1431655765)).toUInt32 >>> ((2 : Int32).toUInt32 &&& Int32.toUInt32 31)).toInt32) &&& 858993459)))]) dJ6_bitCount_0f7a4_23 rfl (by decide) rfl rfl ?_
  refine go_iload_n dJ6_bitCount_0f7a4_24 rfl rfl ?_
  refine go_iload_n dJ6_bitCount_0f7a4_25 rfl rfl ?_
  refine go_iconst (v := 4) dJ6_bitCount_0f7a4_26 (by decide) ?_
  refine go_iushr dJ6_bitCount_0f7a4_27 ?_
  refine go_iadd dJ6_bitCount_0f7a4_28 ?_
  refine go_ldcw dJ6_bitCount_0f7a4_29 qc_J6_267 ?_
  refine go_iand dJ6_bitCount_0f7a4_32 ?_
  refine go_istore_n (lm := [some (.int (((((x0 - (((x0.toUInt32 >>> ((1 : Int32).toUInt32 &&& Int32.toUInt32 31)).toInt32) &&& 1431655765)) &&& 858993459) + ((((x0 - (((x0.toUInt32 >>> ((1 : Int32).toUInt32 &&& Int32.toUInt32 31)).toInt32) &&& 1431655765)).toUInt32 >>> ((2 : Int32).toUInt32 &&& Int32.toUInt32 31)).toInt32) &&& 858993459)) + (((((x0 - (((x0.toUInt32 >>> ((1 : Int32).toUInt32 &&& Int32.toUInt32 31)).toInt32) &&& 1431655765)) &&& 858993459) + ((((x0 - (((x0.toUInt32 >>> ((1 : Int32).toUInt32 &&& Int32.toUInt32 31)).toInt32) &&& 1431655765)).toUInt32 >>> ((2 : Int32).toUInt32 &&& Int32.toUInt32 31)).toInt32) &&& 858993459)).toUInt32 >>> ((4 : Int32).toUInt32 &&& Int32.toUInt32 31)).toInt32)) &&& 252645135))]) dJ6_bitCount_0f7a4_33 rfl (by decide) rfl rfl ?_
  refine go_iload_n dJ6_bitCount_0f7a4_34 rfl rfl ?_
  refine go_iload_n dJ6_bitCount_0f7a4_35 rfl rfl ?_
  refine go_bipush (v := 8) dJ6_bitCount_0f7a4_36 (by decide) ?_
  refine go_iushr dJ6_bitCount_0f7a4_38 ?_
  refine go_iadd dJ6_bitCount_0f7a4_39 ?_
  refine go_istore_n (lm := [some (.int ((((((x0 - (((x0.toUInt32 >>> ((1 : Int32).toUInt32 &&& Int32.toUInt32 31)).toInt32) &&& 1431655765)) &&& 858993459) + ((((x0 - (((x0.toUInt32 >>> ((1 : Int32).toUInt32 &&& Int32.toUInt32 31)).toInt32) &&& 1431655765)).toUInt32 >>> ((2 : Int32).toUInt32 &&& Int32.toUInt32 31)).toInt32) &&& 858993459)) + (((((x0 - (((x0.toUInt32 >>> ((1 : Int32).toUInt32 &&& Int32.toUInt32 31)).toInt32) &&& 1431655765)) &&& 858993459) + ((((x0 - (((x0.toUInt32 >>> ((1 : Int32).toUInt32 &&& Int32.toUInt32 31)).toInt32) &&& 1431655765)).toUInt32 >>> ((2 : Int32).toUInt32 &&& Int32.toUInt32 31)).toInt32) &&& 858993459)).toUInt32 >>> ((4 : Int32).toUInt32 &&& Int32.toUInt32 31)).toInt32)) &&& 252645135) + (((((((x0 - (((x0.toUInt32 >>> ((1 : Int32).toUInt32 &&& Int32.toUInt32 31)).toInt32) &&& 1431655765)) &&& 858993459) + ((((x0 - (((x0.toUInt32 >>> ((1 : Int32).toUInt32 &&& Int32.toUInt32 31)).toInt32) &&& 1431655765)).toUInt32 >>> ((2 : Int32).toUInt32 &&& Int32.toUInt32 31)).toInt32) &&& 858993459)) + (((((x0 - (((x0.toUInt32 >>> ((1 : Int32).toUInt32 &&& Int32.toUInt32 31)).toInt32) &&& 1431655765)) &&& 858993459) + ((((x0 - (((x0.toUInt32 >>> ((1 : Int32).toUInt32 &&& Int32.toUInt32 31)).toInt32) &&& 1431655765)).toUInt32 >>> ((2 : Int32).toUInt32 &&& Int32.toUInt32 31)).toInt32) &&& 858993459)).toUInt32 >>> ((4 : Int32).toUInt32 &&& Int32.toUInt32 31)).toInt32)) &&& 252645135).toUInt32 >>> ((8 : Int32).toUInt32 &&& Int32.toUInt32 31)).toInt32)))]) dJ6_bitCount_0f7a4_40 rfl (by decide) rfl rfl ?_
  refine go_iload_n dJ6_bitCount_0f7a4_41 rfl rfl ?_
  refine go_iload_n dJ6_bitCount_0f7a4_42 rfl rfl ?_
  refine go_bipush (v := 16) dJ6_bitCount_0f7a4_43 (by decide) ?_
  refine go_iushr dJ6_bitCount_0f7a4_45 ?_
  refine go_iadd dJ6_bitCount_0f7a4_46 ?_
  refine go_istore_n (lm := [some (.int (((((((x0 - (((x0.toUInt32 >>> ((1 : Int32).toUInt32 &&& Int32.toUInt32 31)).toInt32) &&& 1431655765)) &&& 858993459) + ((((x0 - (((x0.toUInt32 >>> ((1 : Int32).toUInt32 &&& Int32.toUInt32 31)).toInt32) &&& 1431655765)).toUInt32 >>> ((2 : Int32).toUInt32 &&& Int32.toUInt32 31)).toInt32) &&& 858993459)) + (((((x0 - (((x0.toUInt32 >>> ((1 : Int32).toUInt32 &&& Int32.toUInt32 31)).toInt32) &&& 1431655765)) &&& 858993459) + ((((x0 - (((x0.toUInt32 >>> ((1 : Int32).toUInt32 &&& Int32.toUInt32 31)).toInt32) &&& 1431655765)).toUInt32 >>> ((2 : Int32).toUInt32 &&& Int32.toUInt32 31)).toInt32) &&& 858993459)).toUInt32 >>> ((4 : Int32).toUInt32 &&& Int32.toUInt32 31)).toInt32)) &&& 252645135) + (((((((x0 - (((x0.toUInt32 >>> ((1 : Int32).toUInt32 &&& Int32.toUInt32 31)).toInt32) &&& 1431655765)) &&& 858993459) + ((((x0 - (((x0.toUInt32 >>> ((1 : Int32).toUInt32 &&& Int32.toUInt32 31)).toInt32) &&& 1431655765)).toUInt32 >>> ((2 : Int32).toUInt32 &&& Int32.toUInt32 31)).toInt32) &&& 858993459)) + (((((x0 - (((x0.toUInt32 >>> ((1 : Int32).toUInt32 &&& Int32.toUInt32 31)).toInt32) &&& 1431655765)) &&& 858993459) + ((((x0 - (((x0.toUInt32 >>> ((1 : Int32).toUInt32 &&& Int32.toUInt32 31)).toInt32) &&& 1431655765)).toUInt32 >>> ((2 : Int32).toUInt32 &&& Int32.toUInt32 31)).toInt32) &&& 858993459)).toUInt32 >>> ((4 : Int32).toUInt32 &&& Int32.toUInt32 31)).toInt32)) &&& 252645135).toUInt32 >>> ((8 : Int32).toUInt32 &&& Int32.toUInt32 31)).toInt32)) + ((((((((x0 - (((x0.toUInt32 >>> ((1 : Int32).toUInt32 &&& Int32.toUInt32 31)).toInt32) &&& 1431655765)) &&& 858993459) + ((((x0 - (((x0.toUInt32 >>> ((1 : Int32).toUInt32 &&& Int32.toUInt32 31)).toInt32) &&& 1431655765)).toUInt32 >>> ((2 : Int32).toUInt32 &&& Int32.toUInt32 31)).toInt32) &&& 858993459)) + (((((x0 - (((x0.toUInt32 >>> ((1 : Int32).toUInt32 &&& Int32.toUInt32 31)).toInt32) &&& 1431655765)) &&& 858993459) + ((((x0 - (((x0.toUInt32 >>> ((1 : Int32).toUInt32 &&& Int32.toUInt32 31)).toInt32) &&& 1431655765)).toUInt32 >>> ((2 : Int32).toUInt32 &&& Int32.toUInt32 31)).toInt32) &&& 858993459)).toUInt32 >>> ((4 : Int32).toUInt32 &&& Int32.toUInt32 31)).toInt32)) &&& 252645135) + (((((((x0 - (((x0.toUInt32 >>> ((1 : Int32).toUInt32 &&& Int32.toUInt32 31)).toInt32) &&& 1431655765)) &&& 858993459) + ((((x0 - (((x0.toUInt32 >>> ((1 : Int32).toUInt32 &&& Int32.toUInt32 31)).toInt32) &&& 1431655765)).toUInt32 >>> ((2 : Int32).toUInt32 &&& Int32.toUInt32 31)).toInt32) &&& 858993459)) + (((((x0 - (((x0.toUInt32 >>> ((1 : Int32).toUInt32 &&& Int32.toUInt32 31)).toInt32) &&& 1431655765)) &&& 858993459) + ((((x0 - (((x0.toUInt32 >>> ((1 : Int32).toUInt32 &&& Int32.toUInt32 31)).toInt32) &&& 1431655765)).toUInt32 >>> ((2 : Int32).toUInt32 &&& Int32.toUInt32 31)).toInt32) &&& 858993459)).toUInt32 >>> ((4 : Int32).toUInt32 &&& Int32.toUInt32 31)).toInt32)) &&& 252645135).toUInt32 >>> ((8 : Int32).toUInt32 &&& Int32.toUInt32 31)).toInt32)).toUInt32 >>> ((16 : Int32).toUInt32 &&& Int32.toUInt32 31)).toInt32)))]) dJ6_bitCount_0f7a4_47 rfl (by decide) rfl rfl ?_
  refine go_iload_n dJ6_bitCount_0f7a4_48 rfl rfl ?_
  refine go_bipush (v := 63) dJ6_bitCount_0f7a4_49 (by decide) ?_
  refine go_iand dJ6_bitCount_0f7a4_51 ?_
  exact go_iret dJ6_bitCount_0f7a4_52 rfl h
set_option maxRecDepth 100000 in
set_option maxHeartbeats 4000000 in
theorem B_J0_length_8abf5_0 {g : gp} {u : sg} {Q : Option Value → sg → Prop} (w : Nat) (hw8 : w < 8) (h : Go g iJ0_coder_7d493 0 [some (.ref (gk g w))] [] u (QI (fun r1 u1 => Q (some (.int ((nI (skL.getD w 0)) >>> (r1 &&& 31)))) u1))) : Go g iJ0_length_8abf5 0 [some (.ref (gk g w))] [] u Q := by
  refine go_aload_n dJ0_length_8abf5_0 rfl rfl ?_
  refine go_kva dJ0_length_8abf5_1 hw8 qf_J0_9 ?_
  refine go_kle dJ0_length_8abf5_4 hw8 ?_
  refine go_aload_n dJ0_length_8abf5_5 rfl rfl ?_
  refine go_cKi (As := []) (st := [.int (nI (skL.getD w 0))]) (lc := [some (.ref (gk g w))]) dJ0_length_8abf5_6 me_J0_coder_7d493 rfl hw8 qm_J0_335 rfl (Nat.le_of_ble_eq_true rfl) rfl ⟨Nat.le_of_ble_eq_true rfl, Nat.le_of_ble_eq_true rfl⟩ rfl (Nat.le_of_ble_eq_true rfl) h (fun r1 u1 h => ?_)
  refine go_ishr dJ0_length_8abf5_9 ?_
  exact go_iret dJ0_length_8abf5_10 rfl h
set_option maxRecDepth 100000 in
set_option maxHeartbeats 4000000 in
theorem B_J0_charAt_5068e_0 {g : gp} {u : sg} {Q : Option Value → sg → Prop} (w : Nat) (x1 : Int32) (hw8 : w < 8) (h : Go g iJ0_isLatin1_aae02 0 [some (.ref (gk g w))] [] u (QI (fun r1 u1 => ((r1 = (0 : Int32) → Go g iJ2_charAt_3b067 0 [some (.ref (gv g w)), some (.int x1)] [] u1 (QI (fun r2 u2 => (narrow .char (.int r2) = .int r2 ∧ Q (some (.int r2)) u2)))) ∧ (¬ r1 = (0 : Int32) → Go g iJ1_charAt_3b067 0 [some (.ref (gv g w)), some (.int x1)] [] u1 (QI (fun r3 u3 => (narrow .char (.int r3) = .int r3 ∧ Q (some (.int r3)) u3)))))))) : Go g iJ0_charAt_5068e 0 [some (.ref (gk g w)), some (.int x1)] [] u Q := by
  refine go_aload_n dJ0_charAt_5068e_0 rfl rfl ?_
  refine go_cKi (As := []) (st := []) (lc := [some (.ref (gk g w))]) dJ0_charAt_5068e_1 me_J0_isLatin1_aae02 rfl hw8 qm_J0_492 rfl (Nat.le_of_ble_eq_true rfl) rfl ⟨Nat.le_of_ble_eq_true rfl, Nat.le_of_ble_eq_true rfl⟩ rfl (Nat.le_of_ble_eq_true rfl) h (fun r1 u1 h => ?_)
  refine go_if_eq (tgt := 16) dJ0_charAt_5068e_4 (by decide) (fun hc => ?_) (fun hc => ?_)
  · replace h := h.1 hc
    refine go_aload_n dJ0_charAt_5068e_16 rfl rfl ?_
    refine go_kva dJ0_charAt_5068e_17 hw8 qf_J0_9 ?_
    refine go_iload_n dJ0_charAt_5068e_20 rfl rfl ?_
    refine go_cSi (As := [.ref (gv g w), .int x1]) (st := []) (lc := [some (.ref (gv g w)), some (.int x1)]) dJ0_charAt_5068e_21 me_J2_charAt_3b067 qm_J0_498 rfl (Nat.le_of_ble_eq_true rfl) rfl ⟨Nat.le_of_ble_eq_true rfl, Nat.le_of_ble_eq_true rfl⟩ rfl (Nat.le_of_ble_eq_true rfl) h (fun r2 u2 h => ?_)
    exact go_zret dJ0_charAt_5068e_24 rfl h.1 h.2
  · replace h := h.2 hc
    refine go_aload_n dJ0_charAt_5068e_7 rfl rfl ?_
    refine go_kva dJ0_charAt_5068e_8 hw8 qf_J0_9 ?_
    refine go_iload_n dJ0_charAt_5068e_11 rfl rfl ?_
    refine go_cSi (As := [.ref (gv g w), .int x1]) (st := []) (lc := [some (.ref (gv g w)), some (.int x1)]) dJ0_charAt_5068e_12 me_J1_charAt_3b067 qm_J0_495 rfl (Nat.le_of_ble_eq_true rfl) rfl ⟨Nat.le_of_ble_eq_true rfl, Nat.le_of_ble_eq_true rfl⟩ rfl (Nat.le_of_ble_eq_true rfl) h (fun r3 u3 h => ?_)
    exact go_zret dJ0_charAt_5068e_15 rfl h.1 h.2
set_option maxRecDepth 100000 in
set_option maxHeartbeats 4000000 in
theorem B_J0_coder_7d493_0 {g : gp} {u : sg} {Q : Option Value → sg → Prop} (w : Nat) (hw8 : w < 8) (h : (narrow .byte (.int (0 : Int32)) = .int (0 : Int32) ∧ Q (some (.int (0 : Int32))) u)) : Go g iJ0_coder_7d493 0 [some (.ref (gk g w))] [] u Q := by
  refine go_gsc dJ0_coder_7d493_0 qf_J0_38 ?_
  refine go_if_eq (tgt := 13) dJ0_coder_7d493_3 (by decide) (fun hc => absurd hc (by decide)) (fun _ => ?_)
  refine go_aload_n dJ0_coder_7d493_6 rfl rfl ?_
  refine go_kco dJ0_coder_7d493_7 hw8 qf_J0_15 ?_
  refine go_goto (tgt := 14) dJ0_coder_7d493_10 (by decide) ?_
  exact go_zret dJ0_coder_7d493_14 rfl h.1 h.2
set_option maxRecDepth 100000 in
set_option maxHeartbeats 4000000 in
theorem B_J0_isLatin1_aae02_0 {g : gp} {u : sg} {Q : Option Value → sg → Prop} (w : Nat) (hw8 : w < 8) (h : Q (some (.int (1 : Int32))) u) : Go g iJ0_isLatin1_aae02 0 [some (.ref (gk g w))] [] u Q := by
  refine go_gsc dJ0_isLatin1_aae02_0 qf_J0_38 ?_
  refine go_if_eq (tgt := 17) dJ0_isLatin1_aae02_3 (by decide) (fun hc => absurd hc (by decide)) (fun _ => ?_)
  refine go_aload_n dJ0_isLatin1_aae02_6 rfl rfl ?_
  refine go_kco dJ0_isLatin1_aae02_7 hw8 qf_J0_15 ?_
  refine go_if_ne (tgt := 17) dJ0_isLatin1_aae02_10 (by decide) (fun hc => absurd hc (by decide)) (fun _ => ?_)
  refine go_iconst (v := 1) dJ0_isLatin1_aae02_13 (by decide) ?_
  refine go_goto (tgt := 18) dJ0_isLatin1_aae02_14 (by decide) ?_
  exact go_zret dJ0_isLatin1_aae02_18 rfl (by decide) h
set_option maxRecDepth 100000 in
set_option maxHeartbeats 4000000 in
theorem B_J1_charAt_3b067_0 {g : gp} {u : sg} {Q : Option Value → sg → Prop} (w : Nat) (x1 : Int32) (hw8 : w < 8) (h : Go g iJ0_checkIndex_df160 0 [some (.int x1), some (.int (nI (skL.getD w 0)))] [] u (QV (fun u1 => (vp_in x1 (skL.getD w 0) ∧ (narrow .char (.int (((((skB.getD w []).getD x1.toNatClampNeg 0) &&& 255).toUInt32 % 65536).toInt32)) = .int (((((skB.getD w []).getD x1.toNatClampNeg 0) &&& 255).toUInt32 % 65536).toInt32) ∧ Q (some (.int (((((skB.getD w []).getD x1.toNatClampNeg 0) &&& 255).toUInt32 % 65536).toInt32))) u1))))) : Go g iJ1_charAt_3b067 0 [some (.ref (gv g w)), some (.int x1)] [] u Q := by
  refine go_iload_n dJ1_charAt_3b067_0 rfl rfl ?_
  refine go_aload_n dJ1_charAt_3b067_1 rfl rfl ?_
  refine go_kle dJ1_charAt_3b067_2 hw8 ?_
  refine go_cSv (As := [.int x1, .int (nI (skL.getD w 0))]) (st := []) (lc := [some (.int x1), some (.int (nI (skL.getD w 0)))]) dJ1_charAt_3b067_3 me_J0_checkIndex_df160 qm_J1_9 rfl (Nat.le_of_ble_eq_true rfl) rfl ⟨Nat.le_of_ble_eq_true rfl, Nat.le_of_ble_eq_true rfl⟩ rfl (Nat.le_of_ble_eq_true rfl) h (fun u1 h => ?_)
  refine go_aload_n dJ1_charAt_3b067_6 rfl rfl ?_
  refine go_iload_n dJ1_charAt_3b067_7 rfl rfl ?_
  obtain ⟨hi, h⟩ := h
  refine go_kld dJ1_charAt_3b067_8 hw8 hi ?_
  refine go_sipush (v := 255) dJ1_charAt_3b067_9 (by decide) ?_
  refine go_iand dJ1_charAt_3b067_12 ?_
  refine go_i2c dJ1_charAt_3b067_13 ?_
  exact go_zret dJ1_charAt_3b067_14 rfl h.1 h.2
