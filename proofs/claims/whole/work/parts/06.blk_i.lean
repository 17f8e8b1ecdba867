theorem dX12_isPass_0 : decode cX12_isPass 0 = .ok (.iload_n 1, 1) := by decide +kernel
theorem dX12_isPass_1 : decode cX12_isPass 1 = .ok (.i2l, 1) := by decide +kernel
theorem dX12_isPass_2 : decode cX12_isPass 2 = .ok (.lconst 0, 1) := by decide +kernel
theorem dX12_isPass_3 : decode cX12_isPass 3 = .ok (.aload_n 0, 1) := by decide +kernel
theorem dX12_isPass_4 : decode cX12_isPass 4 = .ok (.getfield 333, 3) := by decide +kernel
theorem dX12_isPass_7 : decode cX12_isPass 7 = .ok (.iconst 1, 1) := by decide +kernel
theorem dX12_isPass_8 : decode cX12_isPass 8 = .ok (.isub, 1) := by decide +kernel
theorem dX12_isPass_9 : decode cX12_isPass 9 = .ok (.i2l, 1) := by decide +kernel
theorem dX12_isPass_10 : decode cX12_isPass 10 = .ok (.invokestatic 132, 3) := by decide +kernel
theorem dX12_isPass_13 : decode cX12_isPass 13 = .ok (.ireturn, 1) := by decide +kernel
theorem dX12_on_0 : decode cX12_on 0 = .ok (.aload_n 0, 1) := by decide +kernel
theorem dX12_on_1 : decode cX12_on 1 = .ok (.getfield 87, 3) := by decide +kernel
theorem dX12_on_4 : decode cX12_on 4 = .ok (.bipush 7, 2) := by decide +kernel
theorem dX12_on_6 : decode cX12_on 6 = .ok (.iload_n 1, 1) := by decide +kernel
theorem dX12_on_7 : decode cX12_on 7 = .ok (.imul, 1) := by decide +kernel
theorem dX12_on_8 : decode cX12_on 8 = .ok (.iload_n 2, 1) := by decide +kernel
theorem dX12_on_9 : decode cX12_on 9 = .ok (.iadd, 1) := by decide +kernel
theorem dX12_on_10 : decode cX12_on 10 = .ok (.iaload, 1) := by decide +kernel
theorem dX12_on_11 : decode cX12_on 11 = .ok (.ireturn, 1) := by decide +kernel
theorem dX12_isForged_0 : decode cX12_isForged 0 = .ok (.aload_n 0, 1) := by decide +kernel
theorem dX12_isForged_1 : decode cX12_isForged 1 = .ok (.aload_n 0, 1) := by decide +kernel
theorem dX12_isForged_2 : decode cX12_isForged 2 = .ok (.iload_n 1, 1) := by decide +kernel
theorem dX12_isForged_3 : decode cX12_isForged 3 = .ok (.iconst 4, 1) := by decide +kernel
theorem dX12_isForged_4 : decode cX12_isForged 4 = .ok (.invokevirtual 343, 3) := by decide +kernel
theorem dX12_isForged_7 : decode cX12_isForged 7 = .ok (.iload_n 2, 1) := by decide +kernel
theorem dX12_isForged_8 : decode cX12_isForged 8 = .ok (.invokevirtual 277, 3) := by decide +kernel
theorem dX12_isForged_11 : decode cX12_isForged 11 = .ok (.ifCond .ne 7, 3) := by decide +kernel
theorem dX12_isForged_14 : decode cX12_isForged 14 = .ok (.iconst 1, 1) := by decide +kernel
theorem dX12_isForged_15 : decode cX12_isForged 15 = .ok (.goto 4, 3) := by decide +kernel
theorem dX12_isForged_18 : decode cX12_isForged 18 = .ok (.iconst 0, 1) := by decide +kernel
theorem dX12_isForged_19 : decode cX12_isForged 19 = .ok (.istore_n 3, 1) := by decide +kernel
theorem dX12_isForged_20 : decode cX12_isForged 20 = .ok (.iconst 0, 1) := by decide +kernel
theorem dX12_isForged_21 : decode cX12_isForged 21 = .ok (.istore 4, 2) := by decide +kernel
theorem dX12_isForged_23 : decode cX12_isForged 23 = .ok (.iload 4, 2) := by decide +kernel
theorem dX12_isForged_25 : decode cX12_isForged 25 = .ok (.aload_n 0, 1) := by decide +kernel
theorem dX12_isForged_26 : decode cX12_isForged 26 = .ok (.getfield 330, 3) := by decide +kernel
theorem dX12_isForged_29 : decode cX12_isForged 29 = .ok (.if_icmp .ge 64, 3) := by decide +kernel
theorem dX12_isForged_32 : decode cX12_isForged 32 = .ok (.iload_n 3, 1) := by decide +kernel
theorem dX12_isForged_33 : decode cX12_isForged 33 = .ok (.ifCond .ne 48, 3) := by decide +kernel
theorem dX12_isForged_36 : decode cX12_isForged 36 = .ok (.aload_n 0, 1) := by decide +kernel
theorem dX12_isForged_37 : decode cX12_isForged 37 = .ok (.getfield 78, 3) := by decide +kernel
theorem dX12_isForged_40 : decode cX12_isForged 40 = .ok (.iload 4, 2) := by decide +kernel
theorem dX12_isForged_42 : decode cX12_isForged 42 = .ok (.iaload, 1) := by decide +kernel
theorem dX12_isForged_43 : decode cX12_isForged 43 = .ok (.aload_n 0, 1) := by decide +kernel
theorem dX12_isForged_44 : decode cX12_isForged 44 = .ok (.iload_n 1, 1) := by decide +kernel
theorem dX12_isForged_45 : decode cX12_isForged 45 = .ok (.iconst 4, 1) := by decide +kernel
theorem dX12_isForged_46 : decode cX12_isForged 46 = .ok (.invokevirtual 343, 3) := by decide +kernel
theorem dX12_isForged_49 : decode cX12_isForged 49 = .ok (.if_icmp .ne 36, 3) := by decide +kernel
theorem dX12_isForged_52 : decode cX12_isForged 52 = .ok (.aload_n 0, 1) := by decide +kernel
theorem dX12_isForged_53 : decode cX12_isForged 53 = .ok (.iload_n 1, 1) := by decide +kernel
theorem dX12_isForged_54 : decode cX12_isForged 54 = .ok (.iconst 5, 1) := by decide +kernel
theorem dX12_isForged_55 : decode cX12_isForged 55 = .ok (.invokevirtual 343, 3) := by decide +kernel
theorem dX12_isForged_58 : decode cX12_isForged 58 = .ok (.i2l, 1) := by decide +kernel
theorem dX12_isForged_59 : decode cX12_isForged 59 = .ok (.aload_n 0, 1) := by decide +kernel
theorem dX12_isForged_60 : decode cX12_isForged 60 = .ok (.getfield 81, 3) := by decide +kernel
theorem dX12_isForged_63 : decode cX12_isForged 63 = .ok (.iload 4, 2) := by decide +kernel
theorem dX12_isForged_65 : decode cX12_isForged 65 = .ok (.iaload, 1) := by decide +kernel
theorem dX12_isForged_66 : decode cX12_isForged 66 = .ok (.i2l, 1) := by decide +kernel
theorem dX12_isForged_67 : decode cX12_isForged 67 = .ok (.aload_n 0, 1) := by decide +kernel
theorem dX12_isForged_68 : decode cX12_isForged 68 = .ok (.getfield 84, 3) := by decide +kernel
theorem dX12_isForged_71 : decode cX12_isForged 71 = .ok (.iload 4, 2) := by decide +kernel
theorem dX12_isForged_73 : decode cX12_isForged 73 = .ok (.iaload, 1) := by decide +kernel
theorem dX12_isForged_74 : decode cX12_isForged 74 = .ok (.i2l, 1) := by decide +kernel
theorem dX12_isForged_75 : decode cX12_isForged 75 = .ok (.invokestatic 132, 3) := by decide +kernel
theorem dX12_isForged_78 : decode cX12_isForged 78 = .ok (.ifCond .eq 7, 3) := by decide +kernel
theorem dX12_isForged_81 : decode cX12_isForged 81 = .ok (.iconst 1, 1) := by decide +kernel
theorem dX12_isForged_82 : decode cX12_isForged 82 = .ok (.goto 4, 3) := by decide +kernel
theorem dX12_isForged_85 : decode cX12_isForged 85 = .ok (.iconst 0, 1) := by decide +kernel
theorem dX12_isForged_86 : decode cX12_isForged 86 = .ok (.istore_n 3, 1) := by decide +kernel
theorem dX12_isForged_87 : decode cX12_isForged 87 = .ok (.iinc 4 1, 3) := by decide +kernel
theorem dX12_isForged_90 : decode cX12_isForged 90 = .ok (.goto (-67), 3) := by decide +kernel
theorem dX12_isForged_93 : decode cX12_isForged 93 = .ok (.iconst 0, 1) := by decide +kernel
theorem dX12_isForged_94 : decode cX12_isForged 94 = .ok (.istore 4, 2) := by decide +kernel
theorem dX12_isForged_96 : decode cX12_isForged 96 = .ok (.iload 4, 2) := by decide +kernel
theorem dX12_isForged_98 : decode cX12_isForged 98 = .ok (.iload_n 1, 1) := by decide +kernel
theorem dX12_isForged_99 : decode cX12_isForged 99 = .ok (.if_icmp .ge 51, 3) := by decide +kernel
theorem dX12_isForged_102 : decode cX12_isForged 102 = .ok (.iload_n 3, 1) := by decide +kernel
theorem dX12_isForged_103 : decode cX12_isForged 103 = .ok (.ifCond .ne 35, 3) := by decide +kernel
theorem dX12_isForged_106 : decode cX12_isForged 106 = .ok (.aload_n 0, 1) := by decide +kernel
theorem dX12_isForged_107 : decode cX12_isForged 107 = .ok (.iload 4, 2) := by decide +kernel
theorem dX12_isForged_109 : decode cX12_isForged 109 = .ok (.iconst 2, 1) := by decide +kernel
theorem dX12_isForged_110 : decode cX12_isForged 110 = .ok (.invokevirtual 343, 3) := by decide +kernel
theorem dX12_isForged_113 : decode cX12_isForged 113 = .ok (.aload_n 0, 1) := by decide +kernel
theorem dX12_isForged_114 : decode cX12_isForged 114 = .ok (.iload_n 1, 1) := by decide +kernel
theorem dX12_isForged_115 : decode cX12_isForged 115 = .ok (.iconst 2, 1) := by decide +kernel
theorem dX12_isForged_116 : decode cX12_isForged 116 = .ok (.invokevirtual 343, 3) := by decide +kernel
theorem dX12_isForged_119 : decode cX12_isForged 119 = .ok (.if_icmp .ne 23, 3) := by decide +kernel
theorem dX12_isForged_122 : decode cX12_isForged 122 = .ok (.aload_n 0, 1) := by decide +kernel
theorem dX12_isForged_123 : decode cX12_isForged 123 = .ok (.iload 4, 2) := by decide +kernel
theorem dX12_isForged_125 : decode cX12_isForged 125 = .ok (.iconst 3, 1) := by decide +kernel
theorem dX12_isForged_126 : decode cX12_isForged 126 = .ok (.invokevirtual 343, 3) := by decide +kernel
theorem dX12_isForged_129 : decode cX12_isForged 129 = .ok (.aload_n 0, 1) := by decide +kernel
theorem dX12_isForged_130 : decode cX12_isForged 130 = .ok (.iload_n 1, 1) := by decide +kernel
theorem dX12_isForged_131 : decode cX12_isForged 131 = .ok (.iconst 3, 1) := by decide +kernel
theorem dX12_isForged_132 : decode cX12_isForged 132 = .ok (.invokevirtual 343, 3) := by decide +kernel
theorem dX12_isForged_135 : decode cX12_isForged 135 = .ok (.if_icmp .eq 7, 3) := by decide +kernel
theorem dX12_isForged_138 : decode cX12_isForged 138 = .ok (.iconst 1, 1) := by decide +kernel
theorem dX12_isForged_139 : decode cX12_isForged 139 = .ok (.goto 4, 3) := by decide +kernel
theorem dX12_isForged_142 : decode cX12_isForged 142 = .ok (.iconst 0, 1) := by decide +kernel
theorem dX12_isForged_143 : decode cX12_isForged 143 = .ok (.istore_n 3, 1) := by decide +kernel
theorem dX12_isForged_144 : decode cX12_isForged 144 = .ok (.iinc 4 1, 3) := by decide +kernel
theorem dX12_isForged_147 : decode cX12_isForged 147 = .ok (.goto (-51), 3) := by decide +kernel
theorem dX12_isForged_150 : decode cX12_isForged 150 = .ok (.iload_n 3, 1) := by decide +kernel
theorem dX12_isForged_151 : decode cX12_isForged 151 = .ok (.ifCond .eq 17, 3) := by decide +kernel
theorem dX12_isForged_154 : decode cX12_isForged 154 = .ok (.aload_n 0, 1) := by decide +kernel
theorem dX12_isForged_155 : decode cX12_isForged 155 = .ok (.iload_n 1, 1) := by decide +kernel
theorem dX12_isForged_156 : decode cX12_isForged 156 = .ok (.iconst 0, 1) := by decide +kernel
theorem dX12_isForged_157 : decode cX12_isForged 157 = .ok (.invokevirtual 343, 3) := by decide +kernel
theorem dX12_isForged_160 : decode cX12_isForged 160 = .ok (.iconst 2, 1) := by decide +kernel
theorem dX12_isForged_161 : decode cX12_isForged 161 = .ok (.if_icmp .ne 7, 3) := by decide +kernel
theorem dX12_isForged_164 : decode cX12_isForged 164 = .ok (.iconst 1, 1) := by decide +kernel
theorem dX12_isForged_165 : decode cX12_isForged 165 = .ok (.goto 4, 3) := by decide +kernel
theorem dX12_isForged_168 : decode cX12_isForged 168 = .ok (.iconst 0, 1) := by decide +kernel
theorem dX12_isForged_169 : decode cX12_isForged 169 = .ok (.ireturn, 1) := by decide +kernel
theorem dX12_kindOf_0 : decode cX12_kindOf 0 = .ok (.aload_n 0, 1) := by decide +kernel
theorem dX12_kindOf_1 : decode cX12_kindOf 1 = .ok (.iload_n 1, 1) := by decide +kernel
theorem dX12_kindOf_2 : decode cX12_kindOf 2 = .ok (.iconst 0, 1) := by decide +kernel
theorem dX12_kindOf_3 : decode cX12_kindOf 3 = .ok (.invokevirtual 343, 3) := by decide +kernel
theorem dX12_kindOf_6 : decode cX12_kindOf 6 = .ok (.istore_n 2, 1) := by decide +kernel
theorem dX12_kindOf_7 : decode cX12_kindOf 7 = .ok (.aload_n 0, 1) := by decide +kernel
theorem dX12_kindOf_8 : decode cX12_kindOf 8 = .ok (.iload_n 1, 1) := by decide +kernel
theorem dX12_kindOf_9 : decode cX12_kindOf 9 = .ok (.aload_n 0, 1) := by decide +kernel
theorem dX12_kindOf_10 : decode cX12_kindOf 10 = .ok (.getfield 347, 3) := by decide +kernel
theorem dX12_kindOf_13 : decode cX12_kindOf 13 = .ok (.invokevirtual 350, 3) := by decide +kernel
theorem dX12_kindOf_16 : decode cX12_kindOf 16 = .ok (.ifCond .eq 7, 3) := by decide +kernel
theorem dX12_kindOf_19 : decode cX12_kindOf 19 = .ok (.iconst 3, 1) := by decide +kernel
theorem dX12_kindOf_20 : decode cX12_kindOf 20 = .ok (.goto 31, 3) := by decide +kernel
theorem dX12_kindOf_23 : decode cX12_kindOf 23 = .ok (.iload_n 2, 1) := by decide +kernel
theorem dX12_kindOf_24 : decode cX12_kindOf 24 = .ok (.iconst 2, 1) := by decide +kernel
theorem dX12_kindOf_25 : decode cX12_kindOf 25 = .ok (.if_icmp .ne 7, 3) := by decide +kernel
theorem dX12_kindOf_28 : decode cX12_kindOf 28 = .ok (.iconst 2, 1) := by decide +kernel
theorem dX12_kindOf_29 : decode cX12_kindOf 29 = .ok (.goto 22, 3) := by decide +kernel
theorem dX12_kindOf_32 : decode cX12_kindOf 32 = .ok (.iload_n 2, 1) := by decide +kernel
theorem dX12_kindOf_33 : decode cX12_kindOf 33 = .ok (.iconst 1, 1) := by decide +kernel
theorem dX12_kindOf_34 : decode cX12_kindOf 34 = .ok (.if_icmp .ne 7, 3) := by decide +kernel
theorem dX12_kindOf_37 : decode cX12_kindOf 37 = .ok (.iconst 1, 1) := by decide +kernel
theorem dX12_kindOf_38 : decode cX12_kindOf 38 = .ok (.goto 13, 3) := by decide +kernel
theorem dX12_kindOf_41 : decode cX12_kindOf 41 = .ok (.iload_n 2, 1) := by decide +kernel
theorem dX12_kindOf_42 : decode cX12_kindOf 42 = .ok (.iconst 3, 1) := by decide +kernel
theorem dX12_kindOf_43 : decode cX12_kindOf 43 = .ok (.if_icmp .ne 7, 3) := by decide +kernel
theorem dX12_kindOf_46 : decode cX12_kindOf 46 = .ok (.iconst 4, 1) := by decide +kernel
theorem dX12_kindOf_47 : decode cX12_kindOf 47 = .ok (.goto 4, 3) := by decide +kernel
theorem dX12_kindOf_50 : decode cX12_kindOf 50 = .ok (.iconst 0, 1) := by decide +kernel
theorem dX12_kindOf_51 : decode cX12_kindOf 51 = .ok (.ireturn, 1) := by decide +kernel
theorem dX12_canbe_0 : decode cX12_canbe 0 = .ok (.aload_n 0, 1) := by decide +kernel
theorem dX12_canbe_1 : decode cX12_canbe 1 = .ok (.iconst 0, 1) := by decide +kernel
theorem dX12_canbe_2 : decode cX12_canbe 2 = .ok (.putfield 1, 3) := by decide +kernel
theorem dX12_canbe_5 : decode cX12_canbe 5 = .ok (.iload_n 1, 1) := by decide +kernel
theorem dX12_canbe_6 : decode cX12_canbe 6 = .ok (.invokestatic 338, 3) := by decide +kernel
theorem dX12_canbe_9 : decode cX12_canbe 9 = .ok (.ifCond .ne 6, 3) := by decide +kernel
theorem dX12_canbe_12 : decode cX12_canbe 12 = .ok (.ldc 142, 2) := by decide +kernel
theorem dX12_canbe_14 : decode cX12_canbe 14 = .ok (.ireturn, 1) := by decide +kernel
theorem dX12_canbe_15 : decode cX12_canbe 15 = .ok (.iconst 1, 1) := by decide +kernel
theorem dX12_canbe_16 : decode cX12_canbe 16 = .ok (.istore_n 2, 1) := by decide +kernel
theorem dX12_canbe_17 : decode cX12_canbe 17 = .ok (.iconst 0, 1) := by decide +kernel
theorem dX12_canbe_18 : decode cX12_canbe 18 = .ok (.istore_n 3, 1) := by decide +kernel
theorem dX12_canbe_19 : decode cX12_canbe 19 = .ok (.iload_n 3, 1) := by decide +kernel
theorem dX12_canbe_20 : decode cX12_canbe 20 = .ok (.aload_n 0, 1) := by decide +kernel
theorem dX12_canbe_21 : decode cX12_canbe 21 = .ok (.getfield 333, 3) := by decide +kernel
theorem dX12_canbe_24 : decode cX12_canbe 24 = .ok (.if_icmp .ge 133, 3) := by decide +kernel
theorem dX12_canbe_27 : decode cX12_canbe 27 = .ok (.iconst 0, 1) := by decide +kernel
theorem dX12_canbe_28 : decode cX12_canbe 28 = .ok (.istore 4, 2) := by decide +kernel
theorem dX12_canbe_30 : decode cX12_canbe 30 = .ok (.iload 4, 2) := by decide +kernel
theorem dX12_canbe_32 : decode cX12_canbe 32 = .ok (.iload_n 3, 1) := by decide +kernel
theorem dX12_canbe_33 : decode cX12_canbe 33 = .ok (.if_icmp .ge 118, 3) := by decide +kernel
theorem dX12_canbe_36 : decode cX12_canbe 36 = .ok (.aload_n 0, 1) := by decide +kernel
theorem dX12_canbe_37 : decode cX12_canbe 37 = .ok (.iload_n 3, 1) := by decide +kernel
theorem dX12_canbe_38 : decode cX12_canbe 38 = .ok (.iconst 5, 1) := by decide +kernel
theorem dX12_canbe_39 : decode cX12_canbe 39 = .ok (.invokevirtual 343, 3) := by decide +kernel
theorem dX12_canbe_42 : decode cX12_canbe 42 = .ok (.aload_n 0, 1) := by decide +kernel
theorem dX12_canbe_43 : decode cX12_canbe 43 = .ok (.iload 4, 2) := by decide +kernel
theorem dX12_canbe_45 : decode cX12_canbe 45 = .ok (.iconst 5, 1) := by decide +kernel
theorem dX12_canbe_46 : decode cX12_canbe 46 = .ok (.invokevirtual 343, 3) := by decide +kernel
theorem dX12_canbe_49 : decode cX12_canbe 49 = .ok (.isub, 1) := by decide +kernel
theorem dX12_canbe_50 : decode cX12_canbe 50 = .ok (.istore 5, 2) := by decide +kernel
theorem dX12_canbe_52 : decode cX12_canbe 52 = .ok (.aload_n 0, 1) := by decide +kernel
theorem dX12_canbe_53 : decode cX12_canbe 53 = .ok (.iload_n 3, 1) := by decide +kernel
theorem dX12_canbe_54 : decode cX12_canbe 54 = .ok (.iconst 4, 1) := by decide +kernel
theorem dX12_canbe_55 : decode cX12_canbe 55 = .ok (.invokevirtual 343, 3) := by decide +kernel
theorem dX12_canbe_58 : decode cX12_canbe 58 = .ok (.aload_n 0, 1) := by decide +kernel
theorem dX12_canbe_59 : decode cX12_canbe 59 = .ok (.iload 4, 2) := by decide +kernel
theorem dX12_canbe_61 : decode cX12_canbe 61 = .ok (.iconst 4, 1) := by decide +kernel
theorem dX12_canbe_62 : decode cX12_canbe 62 = .ok (.invokevirtual 343, 3) := by decide +kernel
theorem dX12_canbe_65 : decode cX12_canbe 65 = .ok (.if_icmp .ne 7, 3) := by decide +kernel
theorem dX12_canbe_68 : decode cX12_canbe 68 = .ok (.iconst 0, 1) := by decide +kernel
theorem dX12_canbe_69 : decode cX12_canbe 69 = .ok (.goto 25, 3) := by decide +kernel
theorem dX12_canbe_72 : decode cX12_canbe 72 = .ok (.aload_n 0, 1) := by decide +kernel
theorem dX12_canbe_73 : decode cX12_canbe 73 = .ok (.getfield 75, 3) := by decide +kernel
theorem dX12_canbe_76 : decode cX12_canbe 76 = .ok (.bipush 8, 2) := by decide +kernel
theorem dX12_canbe_78 : decode cX12_canbe 78 = .ok (.aload_n 0, 1) := by decide +kernel
theorem dX12_canbe_79 : decode cX12_canbe 79 = .ok (.iload_n 3, 1) := by decide +kernel
theorem dX12_canbe_80 : decode cX12_canbe 80 = .ok (.iconst 4, 1) := by decide +kernel
theorem dX12_canbe_81 : decode cX12_canbe 81 = .ok (.invokevirtual 343, 3) := by decide +kernel
theorem dX12_canbe_84 : decode cX12_canbe 84 = .ok (.imul, 1) := by decide +kernel
theorem dX12_canbe_85 : decode cX12_canbe 85 = .ok (.aload_n 0, 1) := by decide +kernel
theorem dX12_canbe_86 : decode cX12_canbe 86 = .ok (.iload 4, 2) := by decide +kernel
theorem dX12_canbe_88 : decode cX12_canbe 88 = .ok (.iconst 4, 1) := by decide +kernel
theorem dX12_canbe_89 : decode cX12_canbe 89 = .ok (.invokevirtual 343, 3) := by decide +kernel
theorem dX12_canbe_92 : decode cX12_canbe 92 = .ok (.iadd, 1) := by decide +kernel
theorem dX12_canbe_93 : decode cX12_canbe 93 = .ok (.iaload, 1) := by decide +kernel
theorem dX12_canbe_94 : decode cX12_canbe 94 = .ok (.istore 6, 2) := by decide +kernel
theorem dX12_canbe_96 : decode cX12_canbe 96 = .ok (.iload_n 2, 1) := by decide +kernel
theorem dX12_canbe_97 : decode cX12_canbe 97 = .ok (.ifCond .eq 46, 3) := by decide +kernel
theorem dX12_canbe_100 : decode cX12_canbe 100 = .ok (.aload_n 0, 1) := by decide +kernel
theorem dX12_canbe_101 : decode cX12_canbe 101 = .ok (.iload_n 3, 1) := by decide +kernel
theorem dX12_canbe_102 : decode cX12_canbe 102 = .ok (.iconst 1, 1) := by decide +kernel
theorem dX12_canbe_103 : decode cX12_canbe 103 = .ok (.invokevirtual 343, 3) := by decide +kernel
theorem dX12_canbe_106 : decode cX12_canbe 106 = .ok (.iload_n 1, 1) := by decide +kernel
theorem dX12_canbe_107 : decode cX12_canbe 107 = .ok (.if_icmp .ne 32, 3) := by decide +kernel
theorem dX12_canbe_110 : decode cX12_canbe 110 = .ok (.aload_n 0, 1) := by decide +kernel
theorem dX12_canbe_111 : decode cX12_canbe 111 = .ok (.iload 4, 2) := by decide +kernel
theorem dX12_canbe_113 : decode cX12_canbe 113 = .ok (.iconst 1, 1) := by decide +kernel
theorem dX12_canbe_114 : decode cX12_canbe 114 = .ok (.invokevirtual 343, 3) := by decide +kernel
theorem dX12_canbe_117 : decode cX12_canbe 117 = .ok (.iload_n 1, 1) := by decide +kernel
theorem dX12_canbe_118 : decode cX12_canbe 118 = .ok (.if_icmp .ne 21, 3) := by decide +kernel
theorem dX12_canbe_121 : decode cX12_canbe 121 = .ok (.iload 5, 2) := by decide +kernel
theorem dX12_canbe_123 : decode cX12_canbe 123 = .ok (.ifCond .ge 9, 3) := by decide +kernel
theorem dX12_canbe_126 : decode cX12_canbe 126 = .ok (.iload 5, 2) := by decide +kernel
theorem dX12_canbe_128 : decode cX12_canbe 128 = .ok (.ineg, 1) := by decide +kernel
theorem dX12_canbe_129 : decode cX12_canbe 129 = .ok (.goto 5, 3) := by decide +kernel
theorem dX12_canbe_132 : decode cX12_canbe 132 = .ok (.iload 5, 2) := by decide +kernel
theorem dX12_canbe_134 : decode cX12_canbe 134 = .ok (.iload 6, 2) := by decide +kernel
theorem dX12_canbe_136 : decode cX12_canbe 136 = .ok (.if_icmp .lt 7, 3) := by decide +kernel
theorem dX12_canbe_139 : decode cX12_canbe 139 = .ok (.iconst 1, 1) := by decide +kernel
theorem dX12_canbe_140 : decode cX12_canbe 140 = .ok (.goto 4, 3) := by decide +kernel
theorem dX12_canbe_143 : decode cX12_canbe 143 = .ok (.iconst 0, 1) := by decide +kernel
theorem dX12_canbe_144 : decode cX12_canbe 144 = .ok (.istore_n 2, 1) := by decide +kernel
theorem dX12_canbe_145 : decode cX12_canbe 145 = .ok (.iinc 4 1, 3) := by decide +kernel
theorem dX12_canbe_148 : decode cX12_canbe 148 = .ok (.goto (-118), 3) := by decide +kernel
theorem dX12_canbe_151 : decode cX12_canbe 151 = .ok (.iinc 3 1, 3) := by decide +kernel
theorem dX12_canbe_154 : decode cX12_canbe 154 = .ok (.goto (-135), 3) := by decide +kernel
theorem dX12_canbe_157 : decode cX12_canbe 157 = .ok (.iload_n 2, 1) := by decide +kernel
theorem dX12_canbe_158 : decode cX12_canbe 158 = .ok (.ifCond .eq 7, 3) := by decide +kernel
theorem dX12_canbe_161 : decode cX12_canbe 161 = .ok (.iconst 1, 1) := by decide +kernel
theorem dX12_canbe_162 : decode cX12_canbe 162 = .ok (.goto 4, 3) := by decide +kernel
theorem dX12_canbe_165 : decode cX12_canbe 165 = .ok (.iconst 0, 1) := by decide +kernel
theorem dX12_canbe_166 : decode cX12_canbe 166 = .ok (.ireturn, 1) := by decide +kernel
theorem dX12_lets_0 : decode cX12_lets 0 = .ok (.aload_n 0, 1) := by decide +kernel
theorem dX12_lets_1 : decode cX12_lets 1 = .ok (.iconst 0, 1) := by decide +kernel
theorem dX12_lets_2 : decode cX12_lets 2 = .ok (.putfield 1, 3) := by decide +kernel
theorem dX12_lets_5 : decode cX12_lets 5 = .ok (.aload_n 0, 1) := by decide +kernel
theorem dX12_lets_6 : decode cX12_lets 6 = .ok (.iload_n 1, 1) := by decide +kernel
theorem dX12_lets_7 : decode cX12_lets 7 = .ok (.invokevirtual 353, 3) := by decide +kernel
theorem dX12_lets_10 : decode cX12_lets 10 = .ok (.ifCond .eq 25, 3) := by decide +kernel
theorem dX12_lets_13 : decode cX12_lets 13 = .ok (.iload_n 2, 1) := by decide +kernel
theorem dX12_lets_14 : decode cX12_lets 14 = .ok (.invokestatic 258, 3) := by decide +kernel
theorem dX12_lets_17 : decode cX12_lets 17 = .ok (.ifCond .eq 18, 3) := by decide +kernel
theorem dX12_lets_20 : decode cX12_lets 20 = .ok (.iload_n 3, 1) := by decide +kernel
theorem dX12_lets_21 : decode cX12_lets 21 = .ok (.invokestatic 153, 3) := by decide +kernel
theorem dX12_lets_24 : decode cX12_lets 24 = .ok (.ifCond .eq 11, 3) := by decide +kernel
theorem dX12_lets_27 : decode cX12_lets 27 = .ok (.iload 4, 2) := by decide +kernel
theorem dX12_lets_29 : decode cX12_lets 29 = .ok (.invokestatic 156, 3) := by decide +kernel
theorem dX12_lets_32 : decode cX12_lets 32 = .ok (.ifCond .ne 6, 3) := by decide +kernel
theorem dX12_lets_35 : decode cX12_lets 35 = .ok (.ldc 142, 2) := by decide +kernel
theorem dX12_lets_37 : decode cX12_lets 37 = .ok (.ireturn, 1) := by decide +kernel
theorem dX12_lets_38 : decode cX12_lets 38 = .ok (.aload_n 0, 1) := by decide +kernel
theorem dX12_lets_39 : decode cX12_lets 39 = .ok (.aload_n 0, 1) := by decide +kernel
theorem dX12_lets_40 : decode cX12_lets 40 = .ok (.iload_n 1, 1) := by decide +kernel
theorem dX12_lets_41 : decode cX12_lets 41 = .ok (.iconst 1, 1) := by decide +kernel
theorem dX12_lets_42 : decode cX12_lets 42 = .ok (.invokevirtual 343, 3) := by decide +kernel
theorem dX12_lets_45 : decode cX12_lets 45 = .ok (.iload_n 2, 1) := by decide +kernel
theorem dX12_lets_46 : decode cX12_lets 46 = .ok (.invokevirtual 284, 3) := by decide +kernel
theorem dX12_lets_49 : decode cX12_lets 49 = .ok (.ifCond .ne 72, 3) := by decide +kernel
theorem dX12_lets_52 : decode cX12_lets 52 = .ok (.iload_n 2, 1) := by decide +kernel
theorem dX12_lets_53 : decode cX12_lets 53 = .ok (.aload_n 0, 1) := by decide +kernel
theorem dX12_lets_54 : decode cX12_lets 54 = .ok (.iload_n 1, 1) := by decide +kernel
theorem dX12_lets_55 : decode cX12_lets 55 = .ok (.bipush 6, 2) := by decide +kernel
theorem dX12_lets_57 : decode cX12_lets 57 = .ok (.invokevirtual 343, 3) := by decide +kernel
theorem dX12_lets_60 : decode cX12_lets 60 = .ok (.if_icmp .gt 61, 3) := by decide +kernel
theorem dX12_lets_63 : decode cX12_lets 63 = .ok (.iload_n 2, 1) := by decide +kernel
theorem dX12_lets_64 : decode cX12_lets 64 = .ok (.aload_n 0, 1) := by decide +kernel
theorem dX12_lets_65 : decode cX12_lets 65 = .ok (.iload_n 1, 1) := by decide +kernel
theorem dX12_lets_66 : decode cX12_lets 66 = .ok (.iconst 5, 1) := by decide +kernel
theorem dX12_lets_67 : decode cX12_lets 67 = .ok (.invokevirtual 343, 3) := by decide +kernel
theorem dX12_lets_70 : decode cX12_lets 70 = .ok (.isub, 1) := by decide +kernel
theorem dX12_lets_71 : decode cX12_lets 71 = .ok (.aload_n 0, 1) := by decide +kernel
theorem dX12_lets_72 : decode cX12_lets 72 = .ok (.getfield 75, 3) := by decide +kernel
theorem dX12_lets_75 : decode cX12_lets 75 = .ok (.bipush 64, 2) := by decide +kernel
theorem dX12_lets_77 : decode cX12_lets 77 = .ok (.aload_n 0, 1) := by decide +kernel
theorem dX12_lets_78 : decode cX12_lets 78 = .ok (.iload_n 1, 1) := by decide +kernel
theorem dX12_lets_79 : decode cX12_lets 79 = .ok (.iconst 4, 1) := by decide +kernel
theorem dX12_lets_80 : decode cX12_lets 80 = .ok (.invokevirtual 343, 3) := by decide +kernel
theorem dX12_lets_83 : decode cX12_lets 83 = .ok (.iadd, 1) := by decide +kernel
theorem dX12_lets_84 : decode cX12_lets 84 = .ok (.iaload, 1) := by decide +kernel
theorem dX12_lets_85 : decode cX12_lets 85 = .ok (.if_icmp .lt 36, 3) := by decide +kernel
theorem dX12_lets_88 : decode cX12_lets 88 = .ok (.aload_n 0, 1) := by decide +kernel
theorem dX12_lets_89 : decode cX12_lets 89 = .ok (.iload_n 1, 1) := by decide +kernel
theorem dX12_lets_90 : decode cX12_lets 90 = .ok (.iload_n 2, 1) := by decide +kernel
theorem dX12_lets_91 : decode cX12_lets 91 = .ok (.invokevirtual 350, 3) := by decide +kernel
theorem dX12_lets_94 : decode cX12_lets 94 = .ok (.ifCond .ne 27, 3) := by decide +kernel
theorem dX12_lets_97 : decode cX12_lets 97 = .ok (.aload_n 0, 1) := by decide +kernel
theorem dX12_lets_98 : decode cX12_lets 98 = .ok (.iload_n 3, 1) := by decide +kernel
theorem dX12_lets_99 : decode cX12_lets 99 = .ok (.iload 4, 2) := by decide +kernel
theorem dX12_lets_101 : decode cX12_lets 101 = .ok (.invokevirtual 317, 3) := by decide +kernel
theorem dX12_lets_104 : decode cX12_lets 104 = .ok (.ifCond .ne 13, 3) := by decide +kernel
theorem dX12_lets_107 : decode cX12_lets 107 = .ok (.aload_n 0, 1) := by decide +kernel
theorem dX12_lets_108 : decode cX12_lets 108 = .ok (.iload_n 1, 1) := by decide +kernel
theorem dX12_lets_109 : decode cX12_lets 109 = .ok (.iconst 0, 1) := by decide +kernel
theorem dX12_lets_110 : decode cX12_lets 110 = .ok (.invokevirtual 343, 3) := by decide +kernel
theorem dX12_lets_113 : decode cX12_lets 113 = .ok (.iconst 3, 1) := by decide +kernel
theorem dX12_lets_114 : decode cX12_lets 114 = .ok (.if_icmp .ne 7, 3) := by decide +kernel
theorem dX12_lets_117 : decode cX12_lets 117 = .ok (.iconst 1, 1) := by decide +kernel
theorem dX12_lets_118 : decode cX12_lets 118 = .ok (.goto 4, 3) := by decide +kernel
theorem dX12_lets_121 : decode cX12_lets 121 = .ok (.iconst 0, 1) := by decide +kernel
theorem dX12_lets_122 : decode cX12_lets 122 = .ok (.istore 5, 2) := by decide +kernel
theorem dX12_lets_124 : decode cX12_lets 124 = .ok (.iload 5, 2) := by decide +kernel
theorem dX12_lets_126 : decode cX12_lets 126 = .ok (.ifCond .eq 7, 3) := by decide +kernel
theorem dX12_lets_129 : decode cX12_lets 129 = .ok (.iconst 1, 1) := by decide +kernel
theorem dX12_lets_130 : decode cX12_lets 130 = .ok (.goto 4, 3) := by decide +kernel
theorem dX12_lets_133 : decode cX12_lets 133 = .ok (.iconst 0, 1) := by decide +kernel
theorem dX12_lets_134 : decode cX12_lets 134 = .ok (.ireturn, 1) := by decide +kernel
theorem dX12_far_0 : decode cX12_far 0 = .ok (.iload_n 0, 1) := by decide +kernel
theorem dX12_far_1 : decode cX12_far 1 = .ok (.iload_n 1, 1) := by decide +kernel
theorem dX12_far_2 : decode cX12_far 2 = .ok (.if_icmp .ge 9, 3) := by decide +kernel
theorem dX12_far_5 : decode cX12_far 5 = .ok (.iload_n 1, 1) := by decide +kernel
theorem dX12_far_6 : decode cX12_far 6 = .ok (.iload_n 0, 1) := by decide +kernel
theorem dX12_far_7 : decode cX12_far 7 = .ok (.isub, 1) := by decide +kernel
theorem dX12_far_8 : decode cX12_far 8 = .ok (.goto 6, 3) := by decide +kernel
theorem dX12_far_11 : decode cX12_far 11 = .ok (.iload_n 0, 1) := by decide +kernel
theorem dX12_far_12 : decode cX12_far 12 = .ok (.iload_n 1, 1) := by decide +kernel
theorem dX12_far_13 : decode cX12_far 13 = .ok (.isub, 1) := by decide +kernel
theorem dX12_far_14 : decode cX12_far 14 = .ok (.ireturn, 1) := by decide +kernel
theorem dX12_dusk_0 : decode cX12_dusk 0 = .ok (.aload_n 0, 1) := by decide +kernel
theorem dX12_dusk_1 : decode cX12_dusk 1 = .ok (.iconst 0, 1) := by decide +kernel
theorem dX12_dusk_2 : decode cX12_dusk 2 = .ok (.putfield 1, 3) := by decide +kernel
theorem dX12_dusk_5 : decode cX12_dusk 5 = .ok (.iload_n 1, 1) := by decide +kernel
theorem dX12_dusk_6 : decode cX12_dusk 6 = .ok (.iload_n 2, 1) := by decide +kernel
theorem dX12_dusk_7 : decode cX12_dusk 7 = .ok (.invokestatic 163, 3) := by decide +kernel
theorem dX12_dusk_10 : decode cX12_dusk 10 = .ok (.ifCond .eq 23, 3) := by decide +kernel
theorem dX12_dusk_13 : decode cX12_dusk 13 = .ok (.iload_n 3, 1) := by decide +kernel
theorem dX12_dusk_14 : decode cX12_dusk 14 = .ok (.invokestatic 156, 3) := by decide +kernel
theorem dX12_dusk_17 : decode cX12_dusk 17 = .ok (.ifCond .eq 16, 3) := by decide +kernel
theorem dX12_dusk_20 : decode cX12_dusk 20 = .ok (.iload 4, 2) := by decide +kernel
theorem dX12_dusk_22 : decode cX12_dusk 22 = .ok (.i2l, 1) := by decide +kernel
theorem dX12_dusk_23 : decode cX12_dusk 23 = .ok (.lconst 1, 1) := by decide +kernel
theorem dX12_dusk_24 : decode cX12_dusk 24 = .ok (.ldc2_w 328, 3) := by decide +kernel
theorem dX12_dusk_27 : decode cX12_dusk 27 = .ok (.invokestatic 132, 3) := by decide +kernel
theorem dX12_dusk_30 : decode cX12_dusk 30 = .ok (.ifCond .ne 6, 3) := by decide +kernel
theorem dX12_dusk_33 : decode cX12_dusk 33 = .ok (.ldc 142, 2) := by decide +kernel
theorem dX12_dusk_35 : decode cX12_dusk 35 = .ok (.ireturn, 1) := by decide +kernel
theorem dX12_dusk_36 : decode cX12_dusk 36 = .ok (.ldc 129, 2) := by decide +kernel
theorem dX12_dusk_38 : decode cX12_dusk 38 = .ok (.istore 5, 2) := by decide +kernel
theorem dX12_dusk_40 : decode cX12_dusk 40 = .ok (.iconst 0, 1) := by decide +kernel
theorem dX12_dusk_41 : decode cX12_dusk 41 = .ok (.istore 6, 2) := by decide +kernel
theorem dX12_dusk_43 : decode cX12_dusk 43 = .ok (.iconst 0, 1) := by decide +kernel
theorem dX12_dusk_44 : decode cX12_dusk 44 = .ok (.istore 7, 2) := by decide +kernel
theorem dX12_dusk_46 : decode cX12_dusk 46 = .ok (.iload 7, 2) := by decide +kernel
theorem dX12_dusk_48 : decode cX12_dusk 48 = .ok (.bipush 9, 2) := by decide +kernel
theorem dX12_dusk_50 : decode cX12_dusk 50 = .ok (.if_icmp .ge 102, 3) := by decide +kernel
theorem dX12_dusk_53 : decode cX12_dusk 53 = .ok (.iload_n 3, 1) := by decide +kernel
theorem dX12_dusk_54 : decode cX12_dusk 54 = .ok (.iload_n 1, 1) := by decide +kernel
theorem dX12_dusk_55 : decode cX12_dusk 55 = .ok (.aload_n 0, 1) := by decide +kernel
theorem dX12_dusk_56 : decode cX12_dusk 56 = .ok (.getfield 36, 3) := by decide +kernel
theorem dX12_dusk_59 : decode cX12_dusk 59 = .ok (.iload 7, 2) := by decide +kernel
theorem dX12_dusk_61 : decode cX12_dusk 61 = .ok (.iaload, 1) := by decide +kernel
theorem dX12_dusk_62 : decode cX12_dusk 62 = .ok (.invokestatic 356, 3) := by decide +kernel
theorem dX12_dusk_65 : decode cX12_dusk 65 = .ok (.iload_n 2, 1) := by decide +kernel
theorem dX12_dusk_66 : decode cX12_dusk 66 = .ok (.aload_n 0, 1) := by decide +kernel
theorem dX12_dusk_67 : decode cX12_dusk 67 = .ok (.getfield 39, 3) := by decide +kernel
theorem dX12_dusk_70 : decode cX12_dusk 70 = .ok (.iload 7, 2) := by decide +kernel
theorem dX12_dusk_72 : decode cX12_dusk 72 = .ok (.iaload, 1) := by decide +kernel
theorem dX12_dusk_73 : decode cX12_dusk 73 = .ok (.invokestatic 356, 3) := by decide +kernel
theorem dX12_dusk_76 : decode cX12_dusk 76 = .ok (.iadd, 1) := by decide +kernel
theorem dX12_dusk_77 : decode cX12_dusk 77 = .ok (.iload 4, 2) := by decide +kernel
theorem dX12_dusk_79 : decode cX12_dusk 79 = .ok (.imul, 1) := by decide +kernel
theorem dX12_dusk_80 : decode cX12_dusk 80 = .ok (.bipush 100, 2) := by decide +kernel
theorem dX12_dusk_82 : decode cX12_dusk 82 = .ok (.idiv, 1) := by decide +kernel
theorem dX12_dusk_83 : decode cX12_dusk 83 = .ok (.iadd, 1) := by decide +kernel
theorem dX12_dusk_84 : decode cX12_dusk 84 = .ok (.istore 8, 2) := by decide +kernel
theorem dX12_dusk_86 : decode cX12_dusk 86 = .ok (.iload 8, 2) := by decide +kernel
theorem dX12_dusk_88 : decode cX12_dusk 88 = .ok (.aload_n 0, 1) := by decide +kernel
theorem dX12_dusk_89 : decode cX12_dusk 89 = .ok (.getfield 27, 3) := by decide +kernel
theorem dX12_dusk_92 : decode cX12_dusk 92 = .ok (.iload 7, 2) := by decide +kernel
theorem dX12_dusk_94 : decode cX12_dusk 94 = .ok (.iaload, 1) := by decide +kernel
theorem dX12_dusk_95 : decode cX12_dusk 95 = .ok (.if_icmp .ge 13, 3) := by decide +kernel
theorem dX12_dusk_98 : decode cX12_dusk 98 = .ok (.aload_n 0, 1) := by decide +kernel
theorem dX12_dusk_99 : decode cX12_dusk 99 = .ok (.getfield 27, 3) := by decide +kernel
theorem dX12_dusk_102 : decode cX12_dusk 102 = .ok (.iload 7, 2) := by decide +kernel
theorem dX12_dusk_104 : decode cX12_dusk 104 = .ok (.iaload, 1) := by decide +kernel
theorem dX12_dusk_105 : decode cX12_dusk 105 = .ok (.goto 5, 3) := by decide +kernel
theorem dX12_dusk_108 : decode cX12_dusk 108 = .ok (.iload 8, 2) := by decide +kernel
theorem dX12_dusk_110 : decode cX12_dusk 110 = .ok (.istore 8, 2) := by decide +kernel
theorem dX12_dusk_112 : decode cX12_dusk 112 = .ok (.iload 8, 2) := by decide +kernel
theorem dX12_dusk_114 : decode cX12_dusk 114 = .ok (.aload_n 0, 1) := by decide +kernel
theorem dX12_dusk_115 : decode cX12_dusk 115 = .ok (.getfield 30, 3) := by decide +kernel
theorem dX12_dusk_118 : decode cX12_dusk 118 = .ok (.iload 7, 2) := by decide +kernel
theorem dX12_dusk_120 : decode cX12_dusk 120 = .ok (.iaload, 1) := by decide +kernel
theorem dX12_dusk_121 : decode cX12_dusk 121 = .ok (.if_icmp .ge 25, 3) := by decide +kernel
theorem dX12_dusk_124 : decode cX12_dusk 124 = .ok (.iload 5, 2) := by decide +kernel
theorem dX12_dusk_126 : decode cX12_dusk 126 = .ok (.ldc 129, 2) := by decide +kernel
theorem dX12_dusk_128 : decode cX12_dusk 128 = .ok (.if_icmp .eq 10, 3) := by decide +kernel
theorem dX12_dusk_131 : decode cX12_dusk 131 = .ok (.iload 8, 2) := by decide +kernel
theorem dX12_dusk_133 : decode cX12_dusk 133 = .ok (.iload 6, 2) := by decide +kernel
theorem dX12_dusk_135 : decode cX12_dusk 135 = .ok (.if_icmp .ge 11, 3) := by decide +kernel
theorem dX12_dusk_138 : decode cX12_dusk 138 = .ok (.iload 7, 2) := by decide +kernel
theorem dX12_dusk_140 : decode cX12_dusk 140 = .ok (.istore 5, 2) := by decide +kernel
theorem dX12_dusk_142 : decode cX12_dusk 142 = .ok (.iload 8, 2) := by decide +kernel
theorem dX12_dusk_144 : decode cX12_dusk 144 = .ok (.istore 6, 2) := by decide +kernel
theorem dX12_dusk_146 : decode cX12_dusk 146 = .ok (.iinc 7 1, 3) := by decide +kernel
theorem dX12_dusk_149 : decode cX12_dusk 149 = .ok (.goto (-103), 3) := by decide +kernel
theorem dX12_dusk_152 : decode cX12_dusk 152 = .ok (.iload 5, 2) := by decide +kernel
theorem dX12_dusk_154 : decode cX12_dusk 154 = .ok (.ireturn, 1) := by decide +kernel
theorem dX12_waitedAt_0 : decode cX12_waitedAt 0 = .ok (.iconst 0, 1) := by decide +kernel
theorem dX12_waitedAt_1 : decode cX12_waitedAt 1 = .ok (.istore 6, 2) := by decide +kernel
theorem dX12_waitedAt_3 : decode cX12_waitedAt 3 = .ok (.iload 6, 2) := by decide +kernel
theorem dX12_waitedAt_5 : decode cX12_waitedAt 5 = .ok (.bipush 8, 2) := by decide +kernel
theorem dX12_waitedAt_7 : decode cX12_waitedAt 7 = .ok (.if_icmp .ge 17, 3) := by decide +kernel
theorem dX12_waitedAt_10 : decode cX12_waitedAt 10 = .ok (.aload_n 0, 1) := by decide +kernel
theorem dX12_waitedAt_11 : decode cX12_waitedAt 11 = .ok (.getfield 90, 3) := by decide +kernel
theorem dX12_waitedAt_14 : decode cX12_waitedAt 14 = .ok (.iload 6, 2) := by decide +kernel
theorem dX12_waitedAt_16 : decode cX12_waitedAt 16 = .ok (.iconst 0, 1) := by decide +kernel
theorem dX12_waitedAt_17 : decode cX12_waitedAt 17 = .ok (.iastore, 1) := by decide +kernel
theorem dX12_waitedAt_18 : decode cX12_waitedAt 18 = .ok (.iinc 6 1, 3) := by decide +kernel
theorem dX12_waitedAt_21 : decode cX12_waitedAt 21 = .ok (.goto (-18), 3) := by decide +kernel
theorem dX12_waitedAt_24 : decode cX12_waitedAt 24 = .ok (.iconst 0, 1) := by decide +kernel
theorem dX12_waitedAt_25 : decode cX12_waitedAt 25 = .ok (.istore 6, 2) := by decide +kernel
theorem dX12_waitedAt_27 : decode cX12_waitedAt 27 = .ok (.iconst 0, 1) := by decide +kernel
theorem dX12_waitedAt_28 : decode cX12_waitedAt 28 = .ok (.istore 7, 2) := by decide +kernel
theorem dX12_waitedAt_30 : decode cX12_waitedAt 30 = .ok (.iconst 1, 1) := by decide +kernel
theorem dX12_waitedAt_31 : decode cX12_waitedAt 31 = .ok (.istore 8, 2) := by decide +kernel
theorem dX12_waitedAt_33 : decode cX12_waitedAt 33 = .ok (.iload 8, 2) := by decide +kernel
theorem dX12_waitedAt_35 : decode cX12_waitedAt 35 = .ok (.ifCond .eq 243, 3) := by decide +kernel
theorem dX12_waitedAt_38 : decode cX12_waitedAt 38 = .ok (.ldc 129, 2) := by decide +kernel
theorem dX12_waitedAt_40 : decode cX12_waitedAt 40 = .ok (.istore 9, 2) := by decide +kernel
theorem dX12_waitedAt_42 : decode cX12_waitedAt 42 = .ok (.iconst 0, 1) := by decide +kernel
theorem dX12_waitedAt_43 : decode cX12_waitedAt 43 = .ok (.istore 10, 2) := by decide +kernel
theorem dX12_waitedAt_45 : decode cX12_waitedAt 45 = .ok (.iload 10, 2) := by decide +kernel
theorem dX12_waitedAt_47 : decode cX12_waitedAt 47 = .ok (.iload_n 2, 1) := by decide +kernel
theorem dX12_waitedAt_48 : decode cX12_waitedAt 48 = .ok (.if_icmp .ge 91, 3) := by decide +kernel
theorem dX12_waitedAt_51 : decode cX12_waitedAt 51 = .ok (.aload_n 0, 1) := by decide +kernel
theorem dX12_waitedAt_52 : decode cX12_waitedAt 52 = .ok (.getfield 24, 3) := by decide +kernel
theorem dX12_waitedAt_55 : decode cX12_waitedAt 55 = .ok (.iload_n 1, 1) := by decide +kernel
theorem dX12_waitedAt_56 : decode cX12_waitedAt 56 = .ok (.iconst 2, 1) := by decide +kernel
theorem dX12_waitedAt_57 : decode cX12_waitedAt 57 = .ok (.iload 10, 2) := by decide +kernel
theorem dX12_waitedAt_59 : decode cX12_waitedAt 59 = .ok (.imul, 1) := by decide +kernel
theorem dX12_waitedAt_60 : decode cX12_waitedAt 60 = .ok (.iadd, 1) := by decide +kernel
theorem dX12_waitedAt_61 : decode cX12_waitedAt 61 = .ok (.iaload, 1) := by decide +kernel
theorem dX12_waitedAt_62 : decode cX12_waitedAt 62 = .ok (.iload_n 3, 1) := by decide +kernel
theorem dX12_waitedAt_63 : decode cX12_waitedAt 63 = .ok (.if_icmp .ne 17, 3) := by decide +kernel
theorem dX12_waitedAt_66 : decode cX12_waitedAt 66 = .ok (.iload 7, 2) := by decide +kernel
theorem dX12_waitedAt_68 : decode cX12_waitedAt 68 = .ok (.iload 10, 2) := by decide +kernel
theorem dX12_waitedAt_70 : decode cX12_waitedAt 70 = .ok (.ishr, 1) := by decide +kernel
theorem dX12_waitedAt_71 : decode cX12_waitedAt 71 = .ok (.iconst 1, 1) := by decide +kernel
theorem dX12_waitedAt_72 : decode cX12_waitedAt 72 = .ok (.iand, 1) := by decide +kernel
theorem dX12_waitedAt_73 : decode cX12_waitedAt 73 = .ok (.ifCond .ne 7, 3) := by decide +kernel
theorem dX12_waitedAt_76 : decode cX12_waitedAt 76 = .ok (.iconst 1, 1) := by decide +kernel
theorem dX12_waitedAt_77 : decode cX12_waitedAt 77 = .ok (.goto 4, 3) := by decide +kernel
theorem dX12_waitedAt_80 : decode cX12_waitedAt 80 = .ok (.iconst 0, 1) := by decide +kernel
theorem dX12_waitedAt_81 : decode cX12_waitedAt 81 = .ok (.istore 11, 2) := by decide +kernel
theorem dX12_waitedAt_83 : decode cX12_waitedAt 83 = .ok (.iload 11, 2) := by decide +kernel
theorem dX12_waitedAt_85 : decode cX12_waitedAt 85 = .ok (.ifCond .eq 44, 3) := by decide +kernel
theorem dX12_waitedAt_88 : decode cX12_waitedAt 88 = .ok (.iload 9, 2) := by decide +kernel
theorem dX12_waitedAt_90 : decode cX12_waitedAt 90 = .ok (.ldc 129, 2) := by decide +kernel
theorem dX12_waitedAt_92 : decode cX12_waitedAt 92 = .ok (.if_icmp .eq 32, 3) := by decide +kernel
theorem dX12_waitedAt_95 : decode cX12_waitedAt 95 = .ok (.aload_n 0, 1) := by decide +kernel
theorem dX12_waitedAt_96 : decode cX12_waitedAt 96 = .ok (.getfield 24, 3) := by decide +kernel
theorem dX12_waitedAt_99 : decode cX12_waitedAt 99 = .ok (.iload_n 1, 1) := by decide +kernel
theorem dX12_waitedAt_100 : decode cX12_waitedAt 100 = .ok (.iconst 2, 1) := by decide +kernel
theorem dX12_waitedAt_101 : decode cX12_waitedAt 101 = .ok (.iload 10, 2) := by decide +kernel
theorem dX12_waitedAt_103 : decode cX12_waitedAt 103 = .ok (.imul, 1) := by decide +kernel
theorem dX12_waitedAt_104 : decode cX12_waitedAt 104 = .ok (.iadd, 1) := by decide +kernel
theorem dX12_waitedAt_105 : decode cX12_waitedAt 105 = .ok (.iconst 1, 1) := by decide +kernel
theorem dX12_waitedAt_106 : decode cX12_waitedAt 106 = .ok (.iadd, 1) := by decide +kernel
theorem dX12_waitedAt_107 : decode cX12_waitedAt 107 = .ok (.iaload, 1) := by decide +kernel
theorem dX12_waitedAt_108 : decode cX12_waitedAt 108 = .ok (.aload_n 0, 1) := by decide +kernel
theorem dX12_waitedAt_109 : decode cX12_waitedAt 109 = .ok (.getfield 24, 3) := by decide +kernel
theorem dX12_waitedAt_112 : decode cX12_waitedAt 112 = .ok (.iload_n 1, 1) := by decide +kernel
theorem dX12_waitedAt_113 : decode cX12_waitedAt 113 = .ok (.iconst 2, 1) := by decide +kernel
theorem dX12_waitedAt_114 : decode cX12_waitedAt 114 = .ok (.iload 9, 2) := by decide +kernel
theorem dX12_waitedAt_116 : decode cX12_waitedAt 116 = .ok (.imul, 1) := by decide +kernel
theorem dX12_waitedAt_117 : decode cX12_waitedAt 117 = .ok (.iadd, 1) := by decide +kernel
theorem dX12_waitedAt_118 : decode cX12_waitedAt 118 = .ok (.iconst 1, 1) := by decide +kernel
theorem dX12_waitedAt_119 : decode cX12_waitedAt 119 = .ok (.iadd, 1) := by decide +kernel
theorem dX12_waitedAt_120 : decode cX12_waitedAt 120 = .ok (.iaload, 1) := by decide +kernel
theorem dX12_waitedAt_121 : decode cX12_waitedAt 121 = .ok (.if_icmp .ge 8, 3) := by decide +kernel
theorem dX12_waitedAt_124 : decode cX12_waitedAt 124 = .ok (.iload 10, 2) := by decide +kernel
theorem dX12_waitedAt_126 : decode cX12_waitedAt 126 = .ok (.goto 5, 3) := by decide +kernel
theorem dX12_waitedAt_129 : decode cX12_waitedAt 129 = .ok (.iload 9, 2) := by decide +kernel
theorem dX12_waitedAt_131 : decode cX12_waitedAt 131 = .ok (.istore 9, 2) := by decide +kernel
theorem dX12_waitedAt_133 : decode cX12_waitedAt 133 = .ok (.iinc 10 1, 3) := by decide +kernel
theorem dX12_waitedAt_136 : decode cX12_waitedAt 136 = .ok (.goto (-91), 3) := by decide +kernel
theorem dX12_waitedAt_139 : decode cX12_waitedAt 139 = .ok (.iload 9, 2) := by decide +kernel
theorem dX12_waitedAt_141 : decode cX12_waitedAt 141 = .ok (.ldc 129, 2) := by decide +kernel
theorem dX12_waitedAt_143 : decode cX12_waitedAt 143 = .ok (.if_icmp .eq 7, 3) := by decide +kernel
theorem dX12_waitedAt_146 : decode cX12_waitedAt 146 = .ok (.iconst 1, 1) := by decide +kernel
theorem dX12_waitedAt_147 : decode cX12_waitedAt 147 = .ok (.goto 4, 3) := by decide +kernel
theorem dX12_waitedAt_150 : decode cX12_waitedAt 150 = .ok (.iconst 0, 1) := by decide +kernel
theorem dX12_waitedAt_151 : decode cX12_waitedAt 151 = .ok (.istore 8, 2) := by decide +kernel
theorem dX12_waitedAt_153 : decode cX12_waitedAt 153 = .ok (.iload 8, 2) := by decide +kernel
theorem dX12_waitedAt_155 : decode cX12_waitedAt 155 = .ok (.ifCond .eq 120, 3) := by decide +kernel
theorem dX12_waitedAt_158 : decode cX12_waitedAt 158 = .ok (.iload 7, 2) := by decide +kernel
theorem dX12_waitedAt_160 : decode cX12_waitedAt 160 = .ok (.iconst 1, 1) := by decide +kernel
theorem dX12_waitedAt_161 : decode cX12_waitedAt 161 = .ok (.iload 9, 2) := by decide +kernel
theorem dX12_waitedAt_163 : decode cX12_waitedAt 163 = .ok (.ishl, 1) := by decide +kernel
theorem dX12_waitedAt_164 : decode cX12_waitedAt 164 = .ok (.ior, 1) := by decide +kernel
theorem dX12_waitedAt_165 : decode cX12_waitedAt 165 = .ok (.istore 7, 2) := by decide +kernel
theorem dX12_waitedAt_167 : decode cX12_waitedAt 167 = .ok (.iconst 0, 1) := by decide +kernel
theorem dX12_waitedAt_168 : decode cX12_waitedAt 168 = .ok (.istore 10, 2) := by decide +kernel
theorem dX12_waitedAt_170 : decode cX12_waitedAt 170 = .ok (.iconst 1, 1) := by decide +kernel
theorem dX12_waitedAt_171 : decode cX12_waitedAt 171 = .ok (.istore 11, 2) := by decide +kernel
theorem dX12_waitedAt_173 : decode cX12_waitedAt 173 = .ok (.iload 11, 2) := by decide +kernel
theorem dX12_waitedAt_175 : decode cX12_waitedAt 175 = .ok (.iload 5, 2) := by decide +kernel
theorem dX12_waitedAt_177 : decode cX12_waitedAt 177 = .ok (.if_icmp .ge 35, 3) := by decide +kernel
theorem dX12_waitedAt_180 : decode cX12_waitedAt 180 = .ok (.aload_n 0, 1) := by decide +kernel
theorem dX12_waitedAt_181 : decode cX12_waitedAt 181 = .ok (.getfield 90, 3) := by decide +kernel
theorem dX12_waitedAt_184 : decode cX12_waitedAt 184 = .ok (.iload 11, 2) := by decide +kernel
theorem dX12_waitedAt_186 : decode cX12_waitedAt 186 = .ok (.iaload, 1) := by decide +kernel
theorem dX12_waitedAt_187 : decode cX12_waitedAt 187 = .ok (.aload_n 0, 1) := by decide +kernel
theorem dX12_waitedAt_188 : decode cX12_waitedAt 188 = .ok (.getfield 90, 3) := by decide +kernel
theorem dX12_waitedAt_191 : decode cX12_waitedAt 191 = .ok (.iload 10, 2) := by decide +kernel
theorem dX12_waitedAt_193 : decode cX12_waitedAt 193 = .ok (.iaload, 1) := by decide +kernel
theorem dX12_waitedAt_194 : decode cX12_waitedAt 194 = .ok (.if_icmp .ge 8, 3) := by decide +kernel
theorem dX12_waitedAt_197 : decode cX12_waitedAt 197 = .ok (.iload 11, 2) := by decide +kernel
theorem dX12_waitedAt_199 : decode cX12_waitedAt 199 = .ok (.goto 5, 3) := by decide +kernel
theorem dX12_waitedAt_202 : decode cX12_waitedAt 202 = .ok (.iload 10, 2) := by decide +kernel
theorem dX12_waitedAt_204 : decode cX12_waitedAt 204 = .ok (.istore 10, 2) := by decide +kernel
theorem dX12_waitedAt_206 : decode cX12_waitedAt 206 = .ok (.iinc 11 1, 3) := by decide +kernel
theorem dX12_waitedAt_209 : decode cX12_waitedAt 209 = .ok (.goto (-36), 3) := by decide +kernel
theorem dX12_waitedAt_212 : decode cX12_waitedAt 212 = .ok (.aload_n 0, 1) := by decide +kernel
theorem dX12_waitedAt_213 : decode cX12_waitedAt 213 = .ok (.getfield 24, 3) := by decide +kernel
theorem dX12_waitedAt_216 : decode cX12_waitedAt 216 = .ok (.iload_n 1, 1) := by decide +kernel
theorem dX12_waitedAt_217 : decode cX12_waitedAt 217 = .ok (.iconst 2, 1) := by decide +kernel
theorem dX12_waitedAt_218 : decode cX12_waitedAt 218 = .ok (.iload 9, 2) := by decide +kernel
theorem dX12_waitedAt_220 : decode cX12_waitedAt 220 = .ok (.imul, 1) := by decide +kernel
theorem dX12_waitedAt_221 : decode cX12_waitedAt 221 = .ok (.iadd, 1) := by decide +kernel
theorem dX12_waitedAt_222 : decode cX12_waitedAt 222 = .ok (.iconst 1, 1) := by decide +kernel
theorem dX12_waitedAt_223 : decode cX12_waitedAt 223 = .ok (.iadd, 1) := by decide +kernel
theorem dX12_waitedAt_224 : decode cX12_waitedAt 224 = .ok (.iaload, 1) := by decide +kernel
theorem dX12_waitedAt_225 : decode cX12_waitedAt 225 = .ok (.istore 11, 2) := by decide +kernel
theorem dX12_waitedAt_227 : decode cX12_waitedAt 227 = .ok (.iload 11, 2) := by decide +kernel
theorem dX12_waitedAt_229 : decode cX12_waitedAt 229 = .ok (.aload_n 0, 1) := by decide +kernel
theorem dX12_waitedAt_230 : decode cX12_waitedAt 230 = .ok (.getfield 90, 3) := by decide +kernel
theorem dX12_waitedAt_233 : decode cX12_waitedAt 233 = .ok (.iload 10, 2) := by decide +kernel
theorem dX12_waitedAt_235 : decode cX12_waitedAt 235 = .ok (.iaload, 1) := by decide +kernel
theorem dX12_waitedAt_236 : decode cX12_waitedAt 236 = .ok (.if_icmp .le 8, 3) := by decide +kernel
theorem dX12_waitedAt_239 : decode cX12_waitedAt 239 = .ok (.iload 11, 2) := by decide +kernel
theorem dX12_waitedAt_241 : decode cX12_waitedAt 241 = .ok (.goto 10, 3) := by decide +kernel
theorem dX12_waitedAt_244 : decode cX12_waitedAt 244 = .ok (.aload_n 0, 1) := by decide +kernel
theorem dX12_waitedAt_245 : decode cX12_waitedAt 245 = .ok (.getfield 90, 3) := by decide +kernel
theorem dX12_waitedAt_248 : decode cX12_waitedAt 248 = .ok (.iload 10, 2) := by decide +kernel
theorem dX12_waitedAt_250 : decode cX12_waitedAt 250 = .ok (.iaload, 1) := by decide +kernel
theorem dX12_waitedAt_251 : decode cX12_waitedAt 251 = .ok (.istore 12, 2) := by decide +kernel
theorem dX12_waitedAt_253 : decode cX12_waitedAt 253 = .ok (.iload 6, 2) := by decide +kernel
theorem dX12_waitedAt_255 : decode cX12_waitedAt 255 = .ok (.iload 12, 2) := by decide +kernel
theorem dX12_waitedAt_257 : decode cX12_waitedAt 257 = .ok (.iload 11, 2) := by decide +kernel
theorem dX12_waitedAt_259 : decode cX12_waitedAt 259 = .ok (.isub, 1) := by decide +kernel
theorem dX12_waitedAt_260 : decode cX12_waitedAt 260 = .ok (.iadd, 1) := by decide +kernel
theorem dX12_waitedAt_261 : decode cX12_waitedAt 261 = .ok (.istore 6, 2) := by decide +kernel
theorem dX12_waitedAt_263 : decode cX12_waitedAt 263 = .ok (.aload_n 0, 1) := by decide +kernel
theorem dX12_waitedAt_264 : decode cX12_waitedAt 264 = .ok (.getfield 90, 3) := by decide +kernel
theorem dX12_waitedAt_267 : decode cX12_waitedAt 267 = .ok (.iload 10, 2) := by decide +kernel
theorem dX12_waitedAt_269 : decode cX12_waitedAt 269 = .ok (.iload 12, 2) := by decide +kernel
theorem dX12_waitedAt_271 : decode cX12_waitedAt 271 = .ok (.iload 4, 2) := by decide +kernel
theorem dX12_waitedAt_273 : decode cX12_waitedAt 273 = .ok (.iadd, 1) := by decide +kernel
theorem dX12_waitedAt_274 : decode cX12_waitedAt 274 = .ok (.iastore, 1) := by decide +kernel
theorem dX12_waitedAt_275 : decode cX12_waitedAt 275 = .ok (.goto (-242), 3) := by decide +kernel
theorem dX12_waitedAt_278 : decode cX12_waitedAt 278 = .ok (.iload 6, 2) := by decide +kernel
theorem dX12_waitedAt_280 : decode cX12_waitedAt 280 = .ok (.ireturn, 1) := by decide +kernel
theorem dX12_clerks_0 : decode cX12_clerks 0 = .ok (.aload_n 0, 1) := by decide +kernel
theorem dX12_clerks_1 : decode cX12_clerks 1 = .ok (.iconst 0, 1) := by decide +kernel
theorem dX12_clerks_2 : decode cX12_clerks 2 = .ok (.putfield 1, 3) := by decide +kernel
theorem dX12_clerks_5 : decode cX12_clerks 5 = .ok (.iload_n 1, 1) := by decide +kernel
theorem dX12_clerks_6 : decode cX12_clerks 6 = .ok (.invokestatic 136, 3) := by decide +kernel
theorem dX12_clerks_9 : decode cX12_clerks 9 = .ok (.ifCond .eq 54, 3) := by decide +kernel
theorem dX12_clerks_12 : decode cX12_clerks 12 = .ok (.iload_n 3, 1) := by decide +kernel
theorem dX12_clerks_13 : decode cX12_clerks 13 = .ok (.i2l, 1) := by decide +kernel
theorem dX12_clerks_14 : decode cX12_clerks 14 = .ok (.lconst 1, 1) := by decide +kernel
theorem dX12_clerks_15 : decode cX12_clerks 15 = .ok (.ldc2_w 269, 3) := by decide +kernel
theorem dX12_clerks_18 : decode cX12_clerks 18 = .ok (.invokestatic 132, 3) := by decide +kernel
theorem dX12_clerks_21 : decode cX12_clerks 21 = .ok (.ifCond .eq 42, 3) := by decide +kernel
theorem dX12_clerks_24 : decode cX12_clerks 24 = .ok (.iload 4, 2) := by decide +kernel
theorem dX12_clerks_26 : decode cX12_clerks 26 = .ok (.i2l, 1) := by decide +kernel
theorem dX12_clerks_27 : decode cX12_clerks 27 = .ok (.lconst 1, 1) := by decide +kernel
theorem dX12_clerks_28 : decode cX12_clerks 28 = .ok (.ldc2_w 328, 3) := by decide +kernel
theorem dX12_clerks_31 : decode cX12_clerks 31 = .ok (.invokestatic 132, 3) := by decide +kernel
theorem dX12_clerks_34 : decode cX12_clerks 34 = .ok (.ifCond .eq 29, 3) := by decide +kernel
theorem dX12_clerks_37 : decode cX12_clerks 37 = .ok (.iload 5, 2) := by decide +kernel
theorem dX12_clerks_39 : decode cX12_clerks 39 = .ok (.i2l, 1) := by decide +kernel
theorem dX12_clerks_40 : decode cX12_clerks 40 = .ok (.lconst 1, 1) := by decide +kernel
theorem dX12_clerks_41 : decode cX12_clerks 41 = .ok (.ldc2_w 147, 3) := by decide +kernel
theorem dX12_clerks_44 : decode cX12_clerks 44 = .ok (.invokestatic 132, 3) := by decide +kernel
theorem dX12_clerks_47 : decode cX12_clerks 47 = .ok (.ifCond .eq 16, 3) := by decide +kernel
theorem dX12_clerks_50 : decode cX12_clerks 50 = .ok (.iload 6, 2) := by decide +kernel
theorem dX12_clerks_52 : decode cX12_clerks 52 = .ok (.i2l, 1) := by decide +kernel
theorem dX12_clerks_53 : decode cX12_clerks 53 = .ok (.lconst 0, 1) := by decide +kernel
theorem dX12_clerks_54 : decode cX12_clerks 54 = .ok (.ldc2_w 293, 3) := by decide +kernel
theorem dX12_clerks_57 : decode cX12_clerks 57 = .ok (.invokestatic 132, 3) := by decide +kernel
theorem dX12_clerks_60 : decode cX12_clerks 60 = .ok (.ifCond .ne 6, 3) := by decide +kernel
theorem dX12_clerks_63 : decode cX12_clerks 63 = .ok (.ldc 142, 2) := by decide +kernel
theorem dX12_clerks_65 : decode cX12_clerks 65 = .ok (.ireturn, 1) := by decide +kernel
theorem dX12_clerks_66 : decode cX12_clerks 66 = .ok (.aload_n 0, 1) := by decide +kernel
theorem dX12_clerks_67 : decode cX12_clerks 67 = .ok (.iload_n 1, 1) := by decide +kernel
theorem dX12_clerks_68 : decode cX12_clerks 68 = .ok (.iload_n 2, 1) := by decide +kernel
theorem dX12_clerks_69 : decode cX12_clerks 69 = .ok (.iconst 2, 1) := by decide +kernel
theorem dX12_clerks_70 : decode cX12_clerks 70 = .ok (.iload_n 3, 1) := by decide +kernel
theorem dX12_clerks_71 : decode cX12_clerks 71 = .ok (.imul, 1) := by decide +kernel
theorem dX12_clerks_72 : decode cX12_clerks 72 = .ok (.invokevirtual 290, 3) := by decide +kernel
theorem dX12_clerks_75 : decode cX12_clerks 75 = .ok (.istore 7, 2) := by decide +kernel
theorem dX12_clerks_77 : decode cX12_clerks 77 = .ok (.iload 7, 2) := by decide +kernel
theorem dX12_clerks_79 : decode cX12_clerks 79 = .ok (.ifCond .ge 6, 3) := by decide +kernel
theorem dX12_clerks_82 : decode cX12_clerks 82 = .ok (.iload 7, 2) := by decide +kernel
theorem dX12_clerks_84 : decode cX12_clerks 84 = .ok (.ireturn, 1) := by decide +kernel
theorem dX12_clerks_85 : decode cX12_clerks 85 = .ok (.bipush 64, 2) := by decide +kernel
theorem dX12_clerks_87 : decode cX12_clerks 87 = .ok (.iload_n 1, 1) := by decide +kernel
theorem dX12_clerks_88 : decode cX12_clerks 88 = .ok (.imul, 1) := by decide +kernel
theorem dX12_clerks_89 : decode cX12_clerks 89 = .ok (.iload_n 2, 1) := by decide +kernel
theorem dX12_clerks_90 : decode cX12_clerks 90 = .ok (.iadd, 1) := by decide +kernel
theorem dX12_clerks_91 : decode cX12_clerks 91 = .ok (.istore 8, 2) := by decide +kernel
theorem dX12_clerks_93 : decode cX12_clerks 93 = .ok (.iconst 0, 1) := by decide +kernel
theorem dX12_clerks_94 : decode cX12_clerks 94 = .ok (.istore 9, 2) := by decide +kernel
theorem dX12_clerks_96 : decode cX12_clerks 96 = .ok (.iload 9, 2) := by decide +kernel
theorem dX12_clerks_98 : decode cX12_clerks 98 = .ok (.iload_n 3, 1) := by decide +kernel
theorem dX12_clerks_99 : decode cX12_clerks 99 = .ok (.if_icmp .ge 55, 3) := by decide +kernel
theorem dX12_clerks_102 : decode cX12_clerks 102 = .ok (.aload_n 0, 1) := by decide +kernel
theorem dX12_clerks_103 : decode cX12_clerks 103 = .ok (.getfield 24, 3) := by decide +kernel
theorem dX12_clerks_106 : decode cX12_clerks 106 = .ok (.iload 8, 2) := by decide +kernel
theorem dX12_clerks_108 : decode cX12_clerks 108 = .ok (.iconst 2, 1) := by decide +kernel
theorem dX12_clerks_109 : decode cX12_clerks 109 = .ok (.iload 9, 2) := by decide +kernel
theorem dX12_clerks_111 : decode cX12_clerks 111 = .ok (.imul, 1) := by decide +kernel
theorem dX12_clerks_112 : decode cX12_clerks 112 = .ok (.iadd, 1) := by decide +kernel
theorem dX12_clerks_113 : decode cX12_clerks 113 = .ok (.iaload, 1) := by decide +kernel
theorem dX12_clerks_114 : decode cX12_clerks 114 = .ok (.i2l, 1) := by decide +kernel
theorem dX12_clerks_115 : decode cX12_clerks 115 = .ok (.lconst 0, 1) := by decide +kernel
theorem dX12_clerks_116 : decode cX12_clerks 116 = .ok (.ldc2_w 336, 3) := by decide +kernel
theorem dX12_clerks_119 : decode cX12_clerks 119 = .ok (.invokestatic 132, 3) := by decide +kernel
theorem dX12_clerks_122 : decode cX12_clerks 122 = .ok (.ifCond .eq 23, 3) := by decide +kernel
theorem dX12_clerks_125 : decode cX12_clerks 125 = .ok (.aload_n 0, 1) := by decide +kernel
theorem dX12_clerks_126 : decode cX12_clerks 126 = .ok (.getfield 24, 3) := by decide +kernel
theorem dX12_clerks_129 : decode cX12_clerks 129 = .ok (.iload 8, 2) := by decide +kernel
theorem dX12_clerks_131 : decode cX12_clerks 131 = .ok (.iconst 2, 1) := by decide +kernel
theorem dX12_clerks_132 : decode cX12_clerks 132 = .ok (.iload 9, 2) := by decide +kernel
theorem dX12_clerks_134 : decode cX12_clerks 134 = .ok (.imul, 1) := by decide +kernel
theorem dX12_clerks_135 : decode cX12_clerks 135 = .ok (.iadd, 1) := by decide +kernel
theorem dX12_clerks_136 : decode cX12_clerks 136 = .ok (.iconst 1, 1) := by decide +kernel
theorem dX12_clerks_137 : decode cX12_clerks 137 = .ok (.iadd, 1) := by decide +kernel
theorem dX12_clerks_138 : decode cX12_clerks 138 = .ok (.iaload, 1) := by decide +kernel
theorem dX12_clerks_139 : decode cX12_clerks 139 = .ok (.invokestatic 156, 3) := by decide +kernel
theorem dX12_clerks_142 : decode cX12_clerks 142 = .ok (.ifCond .ne 6, 3) := by decide +kernel
theorem dX12_clerks_145 : decode cX12_clerks 145 = .ok (.ldc 142, 2) := by decide +kernel
theorem dX12_clerks_147 : decode cX12_clerks 147 = .ok (.ireturn, 1) := by decide +kernel
theorem dX12_clerks_148 : decode cX12_clerks 148 = .ok (.iinc 9 1, 3) := by decide +kernel
theorem dX12_clerks_151 : decode cX12_clerks 151 = .ok (.goto (-55), 3) := by decide +kernel
theorem dX12_clerks_154 : decode cX12_clerks 154 = .ok (.aload_n 0, 1) := by decide +kernel
theorem dX12_clerks_155 : decode cX12_clerks 155 = .ok (.iconst 0, 1) := by decide +kernel
theorem dX12_clerks_156 : decode cX12_clerks 156 = .ok (.putfield 7, 3) := by decide +kernel
theorem dX12_clerks_159 : decode cX12_clerks 159 = .ok (.iconst 0, 1) := by decide +kernel
theorem dX12_clerks_160 : decode cX12_clerks 160 = .ok (.istore 9, 2) := by decide +kernel
theorem dX12_clerks_162 : decode cX12_clerks 162 = .ok (.iload 9, 2) := by decide +kernel
theorem dX12_clerks_164 : decode cX12_clerks 164 = .ok (.iconst 4, 1) := by decide +kernel
theorem dX12_clerks_165 : decode cX12_clerks 165 = .ok (.if_icmp .ge 119, 3) := by decide +kernel
theorem dX12_clerks_168 : decode cX12_clerks 168 = .ok (.iconst 0, 1) := by decide +kernel
theorem dX12_clerks_169 : decode cX12_clerks 169 = .ok (.istore 10, 2) := by decide +kernel
theorem dX12_clerks_171 : decode cX12_clerks 171 = .ok (.iconst 0, 1) := by decide +kernel
theorem dX12_clerks_172 : decode cX12_clerks 172 = .ok (.istore 11, 2) := by decide +kernel
theorem dX12_clerks_174 : decode cX12_clerks 174 = .ok (.iload 11, 2) := by decide +kernel
theorem dX12_clerks_176 : decode cX12_clerks 176 = .ok (.iload_n 3, 1) := by decide +kernel
theorem dX12_clerks_177 : decode cX12_clerks 177 = .ok (.if_icmp .ge 38, 3) := by decide +kernel
theorem dX12_clerks_180 : decode cX12_clerks 180 = .ok (.iload 10, 2) := by decide +kernel
theorem dX12_clerks_182 : decode cX12_clerks 182 = .ok (.ifCond .ne 20, 3) := by decide +kernel
theorem dX12_clerks_185 : decode cX12_clerks 185 = .ok (.aload_n 0, 1) := by decide +kernel
theorem dX12_clerks_186 : decode cX12_clerks 186 = .ok (.getfield 24, 3) := by decide +kernel
theorem dX12_clerks_189 : decode cX12_clerks 189 = .ok (.iload 8, 2) := by decide +kernel
theorem dX12_clerks_191 : decode cX12_clerks 191 = .ok (.iconst 2, 1) := by decide +kernel
theorem dX12_clerks_192 : decode cX12_clerks 192 = .ok (.iload 11, 2) := by decide +kernel
theorem dX12_clerks_194 : decode cX12_clerks 194 = .ok (.imul, 1) := by decide +kernel
theorem dX12_clerks_195 : decode cX12_clerks 195 = .ok (.iadd, 1) := by decide +kernel
theorem dX12_clerks_196 : decode cX12_clerks 196 = .ok (.iaload, 1) := by decide +kernel
theorem dX12_clerks_197 : decode cX12_clerks 197 = .ok (.iload 9, 2) := by decide +kernel
theorem dX12_clerks_199 : decode cX12_clerks 199 = .ok (.if_icmp .ne 7, 3) := by decide +kernel
theorem dX12_clerks_202 : decode cX12_clerks 202 = .ok (.iconst 1, 1) := by decide +kernel
theorem dX12_clerks_203 : decode cX12_clerks 203 = .ok (.goto 4, 3) := by decide +kernel
theorem dX12_clerks_206 : decode cX12_clerks 206 = .ok (.iconst 0, 1) := by decide +kernel
theorem dX12_clerks_207 : decode cX12_clerks 207 = .ok (.istore 10, 2) := by decide +kernel
theorem dX12_clerks_209 : decode cX12_clerks 209 = .ok (.iinc 11 1, 3) := by decide +kernel
theorem dX12_clerks_212 : decode cX12_clerks 212 = .ok (.goto (-38), 3) := by decide +kernel
theorem dX12_clerks_215 : decode cX12_clerks 215 = .ok (.aload_n 0, 1) := by decide +kernel
theorem dX12_clerks_216 : decode cX12_clerks 216 = .ok (.getfield 96, 3) := by decide +kernel
theorem dX12_clerks_219 : decode cX12_clerks 219 = .ok (.bipush 9, 2) := by decide +kernel
theorem dX12_clerks_221 : decode cX12_clerks 221 = .ok (.iload 9, 2) := by decide +kernel
theorem dX12_clerks_223 : decode cX12_clerks 223 = .ok (.imul, 1) := by decide +kernel
theorem dX12_clerks_224 : decode cX12_clerks 224 = .ok (.iload 10, 2) := by decide +kernel
theorem dX12_clerks_226 : decode cX12_clerks 226 = .ok (.ifCond .eq 8, 3) := by decide +kernel
theorem dX12_clerks_229 : decode cX12_clerks 229 = .ok (.ldc 129, 2) := by decide +kernel
theorem dX12_clerks_231 : decode cX12_clerks 231 = .ok (.goto 4, 3) := by decide +kernel
theorem dX12_clerks_234 : decode cX12_clerks 234 = .ok (.iconst 0, 1) := by decide +kernel
theorem dX12_clerks_235 : decode cX12_clerks 235 = .ok (.iastore, 1) := by decide +kernel
theorem dX12_clerks_236 : decode cX12_clerks 236 = .ok (.iconst 1, 1) := by decide +kernel
theorem dX12_clerks_237 : decode cX12_clerks 237 = .ok (.istore 11, 2) := by decide +kernel
theorem dX12_clerks_239 : decode cX12_clerks 239 = .ok (.iload 11, 2) := by decide +kernel
theorem dX12_clerks_241 : decode cX12_clerks 241 = .ok (.iload 5, 2) := by decide +kernel
theorem dX12_clerks_243 : decode cX12_clerks 243 = .ok (.if_icmp .gt 35, 3) := by decide +kernel
theorem dX12_clerks_246 : decode cX12_clerks 246 = .ok (.aload_n 0, 1) := by decide +kernel
theorem dX12_clerks_247 : decode cX12_clerks 247 = .ok (.getfield 96, 3) := by decide +kernel
theorem dX12_clerks_250 : decode cX12_clerks 250 = .ok (.bipush 9, 2) := by decide +kernel
theorem dX12_clerks_252 : decode cX12_clerks 252 = .ok (.iload 9, 2) := by decide +kernel
theorem dX12_clerks_254 : decode cX12_clerks 254 = .ok (.imul, 1) := by decide +kernel
theorem dX12_clerks_255 : decode cX12_clerks 255 = .ok (.iload 11, 2) := by decide +kernel
theorem dX12_clerks_257 : decode cX12_clerks 257 = .ok (.iadd, 1) := by decide +kernel
theorem dX12_clerks_258 : decode cX12_clerks 258 = .ok (.aload_n 0, 1) := by decide +kernel
theorem dX12_clerks_259 : decode cX12_clerks 259 = .ok (.iload 8, 2) := by decide +kernel
theorem dX12_clerks_261 : decode cX12_clerks 261 = .ok (.iload_n 3, 1) := by decide +kernel
theorem dX12_clerks_262 : decode cX12_clerks 262 = .ok (.iload 9, 2) := by decide +kernel
theorem dX12_clerks_264 : decode cX12_clerks 264 = .ok (.iload 4, 2) := by decide +kernel
theorem dX12_clerks_266 : decode cX12_clerks 266 = .ok (.iload 11, 2) := by decide +kernel
theorem dX12_clerks_268 : decode cX12_clerks 268 = .ok (.invokevirtual 359, 3) := by decide +kernel
theorem dX12_clerks_271 : decode cX12_clerks 271 = .ok (.iastore, 1) := by decide +kernel
theorem dX12_clerks_272 : decode cX12_clerks 272 = .ok (.iinc 11 1, 3) := by decide +kernel
theorem dX12_clerks_275 : decode cX12_clerks 275 = .ok (.goto (-36), 3) := by decide +kernel
theorem dX12_clerks_278 : decode cX12_clerks 278 = .ok (.iinc 9 1, 3) := by decide +kernel
theorem dX12_clerks_281 : decode cX12_clerks 281 = .ok (.goto (-119), 3) := by decide +kernel
theorem dX12_clerks_284 : decode cX12_clerks 284 = .ok (.ldc 129, 2) := by decide +kernel
theorem dX12_clerks_286 : decode cX12_clerks 286 = .ok (.istore 9, 2) := by decide +kernel
theorem dX12_clerks_288 : decode cX12_clerks 288 = .ok (.iload 5, 2) := by decide +kernel
theorem dX12_clerks_290 : decode cX12_clerks 290 = .ok (.istore 10, 2) := by decide +kernel
theorem dX12_clerks_292 : decode cX12_clerks 292 = .ok (.iload 10, 2) := by decide +kernel
theorem dX12_clerks_294 : decode cX12_clerks 294 = .ok (.ifCond .lt 158, 3) := by decide +kernel
theorem dX12_clerks_297 : decode cX12_clerks 297 = .ok (.iload 5, 2) := by decide +kernel
theorem dX12_clerks_299 : decode cX12_clerks 299 = .ok (.iload 10, 2) := by decide +kernel
theorem dX12_clerks_301 : decode cX12_clerks 301 = .ok (.isub, 1) := by decide +kernel
theorem dX12_clerks_302 : decode cX12_clerks 302 = .ok (.istore 11, 2) := by decide +kernel
theorem dX12_clerks_304 : decode cX12_clerks 304 = .ok (.iload 11, 2) := by decide +kernel
theorem dX12_clerks_306 : decode cX12_clerks 306 = .ok (.ifCond .lt 140, 3) := by decide +kernel
theorem dX12_clerks_309 : decode cX12_clerks 309 = .ok (.iload 5, 2) := by decide +kernel
theorem dX12_clerks_311 : decode cX12_clerks 311 = .ok (.iload 10, 2) := by decide +kernel
theorem dX12_clerks_313 : decode cX12_clerks 313 = .ok (.isub, 1) := by decide +kernel
theorem dX12_clerks_314 : decode cX12_clerks 314 = .ok (.iload 11, 2) := by decide +kernel
theorem dX12_clerks_316 : decode cX12_clerks 316 = .ok (.isub, 1) := by decide +kernel
theorem dX12_clerks_317 : decode cX12_clerks 317 = .ok (.istore 12, 2) := by decide +kernel
theorem dX12_clerks_319 : decode cX12_clerks 319 = .ok (.iload 12, 2) := by decide +kernel
theorem dX12_clerks_321 : decode cX12_clerks 321 = .ok (.ifCond .lt 119, 3) := by decide +kernel
theorem dX12_clerks_324 : decode cX12_clerks 324 = .ok (.iload 5, 2) := by decide +kernel
theorem dX12_clerks_326 : decode cX12_clerks 326 = .ok (.iload 10, 2) := by decide +kernel
theorem dX12_clerks_328 : decode cX12_clerks 328 = .ok (.isub, 1) := by decide +kernel
theorem dX12_clerks_329 : decode cX12_clerks 329 = .ok (.iload 11, 2) := by decide +kernel
theorem dX12_clerks_331 : decode cX12_clerks 331 = .ok (.isub, 1) := by decide +kernel
theorem dX12_clerks_332 : decode cX12_clerks 332 = .ok (.iload 12, 2) := by decide +kernel
theorem dX12_clerks_334 : decode cX12_clerks 334 = .ok (.isub, 1) := by decide +kernel
theorem dX12_clerks_335 : decode cX12_clerks 335 = .ok (.istore 13, 2) := by decide +kernel
theorem dX12_clerks_337 : decode cX12_clerks 337 = .ok (.aload_n 0, 1) := by decide +kernel
theorem dX12_clerks_338 : decode cX12_clerks 338 = .ok (.getfield 96, 3) := by decide +kernel
theorem dX12_clerks_341 : decode cX12_clerks 341 = .ok (.iload 10, 2) := by decide +kernel
theorem dX12_clerks_343 : decode cX12_clerks 343 = .ok (.iaload, 1) := by decide +kernel
theorem dX12_clerks_344 : decode cX12_clerks 344 = .ok (.aload_n 0, 1) := by decide +kernel
theorem dX12_clerks_345 : decode cX12_clerks 345 = .ok (.getfield 96, 3) := by decide +kernel
theorem dX12_clerks_348 : decode cX12_clerks 348 = .ok (.bipush 9, 2) := by decide +kernel
theorem dX12_clerks_350 : decode cX12_clerks 350 = .ok (.iload 11, 2) := by decide +kernel
theorem dX12_clerks_352 : decode cX12_clerks 352 = .ok (.iadd, 1) := by decide +kernel
theorem dX12_clerks_353 : decode cX12_clerks 353 = .ok (.iaload, 1) := by decide +kernel
theorem dX12_clerks_354 : decode cX12_clerks 354 = .ok (.iadd, 1) := by decide +kernel
theorem dX12_clerks_355 : decode cX12_clerks 355 = .ok (.aload_n 0, 1) := by decide +kernel
theorem dX12_clerks_356 : decode cX12_clerks 356 = .ok (.getfield 96, 3) := by decide +kernel
theorem dX12_clerks_359 : decode cX12_clerks 359 = .ok (.bipush 18, 2) := by decide +kernel
theorem dX12_clerks_361 : decode cX12_clerks 361 = .ok (.iload 12, 2) := by decide +kernel
theorem dX12_clerks_363 : decode cX12_clerks 363 = .ok (.iadd, 1) := by decide +kernel
theorem dX12_clerks_364 : decode cX12_clerks 364 = .ok (.iaload, 1) := by decide +kernel
theorem dX12_clerks_365 : decode cX12_clerks 365 = .ok (.iadd, 1) := by decide +kernel
theorem dX12_clerks_366 : decode cX12_clerks 366 = .ok (.aload_n 0, 1) := by decide +kernel
theorem dX12_clerks_367 : decode cX12_clerks 367 = .ok (.getfield 96, 3) := by decide +kernel
theorem dX12_clerks_370 : decode cX12_clerks 370 = .ok (.bipush 27, 2) := by decide +kernel
theorem dX12_clerks_372 : decode cX12_clerks 372 = .ok (.iload 13, 2) := by decide +kernel
theorem dX12_clerks_374 : decode cX12_clerks 374 = .ok (.iadd, 1) := by decide +kernel
theorem dX12_clerks_375 : decode cX12_clerks 375 = .ok (.iaload, 1) := by decide +kernel
theorem dX12_clerks_376 : decode cX12_clerks 376 = .ok (.iadd, 1) := by decide +kernel
theorem dX12_clerks_377 : decode cX12_clerks 377 = .ok (.istore 14, 2) := by decide +kernel
theorem dX12_clerks_379 : decode cX12_clerks 379 = .ok (.iload 14, 2) := by decide +kernel
theorem dX12_clerks_381 : decode cX12_clerks 381 = .ok (.ifCond .lt 53, 3) := by decide +kernel
theorem dX12_clerks_384 : decode cX12_clerks 384 = .ok (.iload 9, 2) := by decide +kernel
theorem dX12_clerks_386 : decode cX12_clerks 386 = .ok (.ldc 129, 2) := by decide +kernel
theorem dX12_clerks_388 : decode cX12_clerks 388 = .ok (.if_icmp .eq 10, 3) := by decide +kernel
theorem dX12_clerks_391 : decode cX12_clerks 391 = .ok (.iload 14, 2) := by decide +kernel
theorem dX12_clerks_393 : decode cX12_clerks 393 = .ok (.iload 9, 2) := by decide +kernel
theorem dX12_clerks_395 : decode cX12_clerks 395 = .ok (.if_icmp .ge 39, 3) := by decide +kernel
theorem dX12_clerks_398 : decode cX12_clerks 398 = .ok (.iload 14, 2) := by decide +kernel
theorem dX12_clerks_400 : decode cX12_clerks 400 = .ok (.istore 9, 2) := by decide +kernel
theorem dX12_clerks_402 : decode cX12_clerks 402 = .ok (.aload_n 0, 1) := by decide +kernel
theorem dX12_clerks_403 : decode cX12_clerks 403 = .ok (.getfield 93, 3) := by decide +kernel
theorem dX12_clerks_406 : decode cX12_clerks 406 = .ok (.iconst 0, 1) := by decide +kernel
theorem dX12_clerks_407 : decode cX12_clerks 407 = .ok (.iload 10, 2) := by decide +kernel
theorem dX12_clerks_409 : decode cX12_clerks 409 = .ok (.iastore, 1) := by decide +kernel
theorem dX12_clerks_410 : decode cX12_clerks 410 = .ok (.aload_n 0, 1) := by decide +kernel
theorem dX12_clerks_411 : decode cX12_clerks 411 = .ok (.getfield 93, 3) := by decide +kernel
theorem dX12_clerks_414 : decode cX12_clerks 414 = .ok (.iconst 1, 1) := by decide +kernel
theorem dX12_clerks_415 : decode cX12_clerks 415 = .ok (.iload 11, 2) := by decide +kernel
theorem dX12_clerks_417 : decode cX12_clerks 417 = .ok (.iastore, 1) := by decide +kernel
theorem dX12_clerks_418 : decode cX12_clerks 418 = .ok (.aload_n 0, 1) := by decide +kernel
theorem dX12_clerks_419 : decode cX12_clerks 419 = .ok (.getfield 93, 3) := by decide +kernel
theorem dX12_clerks_422 : decode cX12_clerks 422 = .ok (.iconst 2, 1) := by decide +kernel
theorem dX12_clerks_423 : decode cX12_clerks 423 = .ok (.iload 12, 2) := by decide +kernel
theorem dX12_clerks_425 : decode cX12_clerks 425 = .ok (.iastore, 1) := by decide +kernel
theorem dX12_clerks_426 : decode cX12_clerks 426 = .ok (.aload_n 0, 1) := by decide +kernel
theorem dX12_clerks_427 : decode cX12_clerks 427 = .ok (.getfield 93, 3) := by decide +kernel
theorem dX12_clerks_430 : decode cX12_clerks 430 = .ok (.iconst 3, 1) := by decide +kernel
theorem dX12_clerks_431 : decode cX12_clerks 431 = .ok (.iload 13, 2) := by decide +kernel
theorem dX12_clerks_433 : decode cX12_clerks 433 = .ok (.iastore, 1) := by decide +kernel
theorem dX12_clerks_434 : decode cX12_clerks 434 = .ok (.iinc 12 (-1), 3) := by decide +kernel
theorem dX12_clerks_437 : decode cX12_clerks 437 = .ok (.goto (-118), 3) := by decide +kernel
theorem dX12_clerks_440 : decode cX12_clerks 440 = .ok (.iinc 11 (-1), 3) := by decide +kernel
theorem dX12_clerks_443 : decode cX12_clerks 443 = .ok (.goto (-139), 3) := by decide +kernel
theorem dX12_clerks_446 : decode cX12_clerks 446 = .ok (.iinc 10 (-1), 3) := by decide +kernel
theorem dX12_clerks_449 : decode cX12_clerks 449 = .ok (.goto (-157), 3) := by decide +kernel
theorem dX12_clerks_452 : decode cX12_clerks 452 = .ok (.iload 9, 2) := by decide +kernel
theorem dX12_clerks_454 : decode cX12_clerks 454 = .ok (.ldc 129, 2) := by decide +kernel
theorem dX12_clerks_456 : decode cX12_clerks 456 = .ok (.if_icmp .ne 8, 3) := by decide +kernel
theorem dX12_clerks_459 : decode cX12_clerks 459 = .ok (.ldc 129, 2) := by decide +kernel
theorem dX12_clerks_461 : decode cX12_clerks 461 = .ok (.goto 22, 3) := by decide +kernel
theorem dX12_clerks_464 : decode cX12_clerks 464 = .ok (.iload 6, 2) := by decide +kernel
theorem dX12_clerks_466 : decode cX12_clerks 466 = .ok (.ifCond .ne 8, 3) := by decide +kernel
theorem dX12_clerks_469 : decode cX12_clerks 469 = .ok (.iload 9, 2) := by decide +kernel
theorem dX12_clerks_471 : decode cX12_clerks 471 = .ok (.goto 12, 3) := by decide +kernel
theorem dX12_clerks_474 : decode cX12_clerks 474 = .ok (.aload_n 0, 1) := by decide +kernel
theorem dX12_clerks_475 : decode cX12_clerks 475 = .ok (.getfield 93, 3) := by decide +kernel
theorem dX12_clerks_478 : decode cX12_clerks 478 = .ok (.iload 6, 2) := by decide +kernel
theorem dX12_clerks_480 : decode cX12_clerks 480 = .ok (.iconst 1, 1) := by decide +kernel
theorem dX12_clerks_481 : decode cX12_clerks 481 = .ok (.isub, 1) := by decide +kernel
theorem dX12_clerks_482 : decode cX12_clerks 482 = .ok (.iaload, 1) := by decide +kernel
theorem dX12_clerks_483 : decode cX12_clerks 483 = .ok (.ireturn, 1) := by decide +kernel
theorem dX12_guest_0 : decode cX12_guest 0 = .ok (.aload_n 0, 1) := by decide +kernel
theorem dX12_guest_1 : decode cX12_guest 1 = .ok (.iconst 0, 1) := by decide +kernel
theorem dX12_guest_2 : decode cX12_guest 2 = .ok (.putfield 1, 3) := by decide +kernel
theorem dX12_guest_5 : decode cX12_guest 5 = .ok (.iload_n 1, 1) := by decide +kernel
theorem dX12_guest_6 : decode cX12_guest 6 = .ok (.invokestatic 338, 3) := by decide +kernel
theorem dX12_guest_9 : decode cX12_guest 9 = .ok (.ifCond .eq 36, 3) := by decide +kernel
theorem dX12_guest_12 : decode cX12_guest 12 = .ok (.iload_n 2, 1) := by decide +kernel
theorem dX12_guest_13 : decode cX12_guest 13 = .ok (.i2l, 1) := by decide +kernel
theorem dX12_guest_14 : decode cX12_guest 14 = .ok (.lconst 0, 1) := by decide +kernel
theorem dX12_guest_15 : decode cX12_guest 15 = .ok (.ldc2_w 130, 3) := by decide +kernel
theorem dX12_guest_18 : decode cX12_guest 18 = .ok (.invokestatic 132, 3) := by decide +kernel
theorem dX12_guest_21 : decode cX12_guest 21 = .ok (.ifCond .eq 24, 3) := by decide +kernel
theorem dX12_guest_24 : decode cX12_guest 24 = .ok (.iload_n 3, 1) := by decide +kernel
theorem dX12_guest_25 : decode cX12_guest 25 = .ok (.invokestatic 258, 3) := by decide +kernel
theorem dX12_guest_28 : decode cX12_guest 28 = .ok (.ifCond .eq 17, 3) := by decide +kernel
theorem dX12_guest_31 : decode cX12_guest 31 = .ok (.iload 4, 2) := by decide +kernel
theorem dX12_guest_33 : decode cX12_guest 33 = .ok (.i2l, 1) := by decide +kernel
theorem dX12_guest_34 : decode cX12_guest 34 = .ok (.iload_n 3, 1) := by decide +kernel
theorem dX12_guest_35 : decode cX12_guest 35 = .ok (.i2l, 1) := by decide +kernel
theorem dX12_guest_36 : decode cX12_guest 36 = .ok (.ldc2_w 149, 3) := by decide +kernel
theorem dX12_guest_39 : decode cX12_guest 39 = .ok (.invokestatic 132, 3) := by decide +kernel
theorem dX12_guest_42 : decode cX12_guest 42 = .ok (.ifCond .ne 6, 3) := by decide +kernel
theorem dX12_guest_45 : decode cX12_guest 45 = .ok (.ldc 142, 2) := by decide +kernel
theorem dX12_guest_47 : decode cX12_guest 47 = .ok (.ireturn, 1) := by decide +kernel
theorem dX12_guest_48 : decode cX12_guest 48 = .ok (.aload_n 0, 1) := by decide +kernel
theorem dX12_guest_49 : decode cX12_guest 49 = .ok (.getfield 363, 3) := by decide +kernel
theorem dX12_guest_52 : decode cX12_guest 52 = .ok (.bipush 40, 2) := by decide +kernel
theorem dX12_guest_54 : decode cX12_guest 54 = .ok (.if_icmp .ne 6, 3) := by decide +kernel
theorem dX12_guest_57 : decode cX12_guest 57 = .ok (.ldc 170, 2) := by decide +kernel
theorem dX12_guest_59 : decode cX12_guest 59 = .ok (.ireturn, 1) := by decide +kernel
theorem dX12_guest_60 : decode cX12_guest 60 = .ok (.aload_n 0, 1) := by decide +kernel
theorem dX12_guest_61 : decode cX12_guest 61 = .ok (.getfield 99, 3) := by decide +kernel
theorem dX12_guest_64 : decode cX12_guest 64 = .ok (.aload_n 0, 1) := by decide +kernel
theorem dX12_guest_65 : decode cX12_guest 65 = .ok (.getfield 363, 3) := by decide +kernel
theorem dX12_guest_68 : decode cX12_guest 68 = .ok (.iload_n 1, 1) := by decide +kernel
theorem dX12_guest_69 : decode cX12_guest 69 = .ok (.iastore, 1) := by decide +kernel
theorem dX12_guest_70 : decode cX12_guest 70 = .ok (.aload_n 0, 1) := by decide +kernel
theorem dX12_guest_71 : decode cX12_guest 71 = .ok (.getfield 102, 3) := by decide +kernel
theorem dX12_guest_74 : decode cX12_guest 74 = .ok (.aload_n 0, 1) := by decide +kernel
theorem dX12_guest_75 : decode cX12_guest 75 = .ok (.getfield 363, 3) := by decide +kernel
theorem dX12_guest_78 : decode cX12_guest 78 = .ok (.iload_n 2, 1) := by decide +kernel
theorem dX12_guest_79 : decode cX12_guest 79 = .ok (.iastore, 1) := by decide +kernel
theorem dX12_guest_80 : decode cX12_guest 80 = .ok (.aload_n 0, 1) := by decide +kernel
theorem dX12_guest_81 : decode cX12_guest 81 = .ok (.getfield 105, 3) := by decide +kernel
theorem dX12_guest_84 : decode cX12_guest 84 = .ok (.aload_n 0, 1) := by decide +kernel
theorem dX12_guest_85 : decode cX12_guest 85 = .ok (.getfield 363, 3) := by decide +kernel
theorem dX12_guest_88 : decode cX12_guest 88 = .ok (.iload_n 3, 1) := by decide +kernel
theorem dX12_guest_89 : decode cX12_guest 89 = .ok (.iastore, 1) := by decide +kernel
theorem dX12_guest_90 : decode cX12_guest 90 = .ok (.aload_n 0, 1) := by decide +kernel
theorem dX12_guest_91 : decode cX12_guest 91 = .ok (.getfield 108, 3) := by decide +kernel
theorem dX12_guest_94 : decode cX12_guest 94 = .ok (.aload_n 0, 1) := by decide +kernel
theorem dX12_guest_95 : decode cX12_guest 95 = .ok (.getfield 363, 3) := by decide +kernel
theorem dX12_guest_98 : decode cX12_guest 98 = .ok (.iload 4, 2) := by decide +kernel
theorem dX12_guest_100 : decode cX12_guest 100 = .ok (.iastore, 1) := by decide +kernel
theorem dX12_guest_101 : decode cX12_guest 101 = .ok (.aload_n 0, 1) := by decide +kernel
theorem dX12_guest_102 : decode cX12_guest 102 = .ok (.dup, 1) := by decide +kernel
theorem dX12_guest_103 : decode cX12_guest 103 = .ok (.getfield 363, 3) := by decide +kernel
theorem dX12_guest_106 : decode cX12_guest 106 = .ok (.iconst 1, 1) := by decide +kernel
theorem dX12_guest_107 : decode cX12_guest 107 = .ok (.iadd, 1) := by decide +kernel
theorem dX12_guest_108 : decode cX12_guest 108 = .ok (.putfield 363, 3) := by decide +kernel
theorem dX12_guest_111 : decode cX12_guest 111 = .ok (.aload_n 0, 1) := by decide +kernel
theorem dX12_guest_112 : decode cX12_guest 112 = .ok (.getfield 363, 3) := by decide +kernel
theorem dX12_guest_115 : decode cX12_guest 115 = .ok (.ireturn, 1) := by decide +kernel
set_option maxRecDepth 100000 in
set_option maxHeartbeats 4000000 in
theorem B_X12_isPass_0 {g : gp} {u : sg} {Q : Option Value → sg → Prop} (x1 : Int32) (h : Go g iX12_in 0 [some (.long (x1.toInt64)), none, some (.long 0), none, some (.long (((u.1 12 42) - 1).toInt64)), none] [] u (QI (fun r1 u1 => (narrow .boolean (.int r1) = .int r1 ∧ Q (some (.int r1)) u1)))) : Go g iX12_isPass 0 [some (.ref (gd g 12)), some (.int x1)] [] u Q := by
  refine go_iload_n dX12_isPass_0 rfl rfl ?_
  refine go_i2l dX12_isPass_1 ?_
  refine go_lconst (v := 0) dX12_isPass_2 (by decide) ?_
  refine go_aload_n dX12_isPass_3 rfl rfl ?_
  refine go_get (k := 42) (v := .int (u.1 12 42)) dX12_isPass_4 ob_12 (by decide) qf_X12_333 rfl ?_
  refine go_iconst (v := 1) dX12_isPass_7 (by decide) ?_
  refine go_isub dX12_isPass_8 ?_
  refine go_i2l dX12_isPass_9 ?_
  refine go_cSi (As := [.long (x1.toInt64), .long 0, .long (((u.1 12 42) - 1).toInt64)]) (st := []) (lc := [some (.long (x1.toInt64)), none, some (.long 0), none, some (.long (((u.1 12 42) - 1).toInt64)), none]) dX12_isPass_10 me_X12_in qm_X12_132 rfl (Nat.le_of_ble_eq_true rfl) rfl ⟨Nat.le_of_ble_eq_true rfl, Nat.le_of_ble_eq_true rfl⟩ rfl (Nat.le_of_ble_eq_true rfl) h (fun r1 u1 h => ?_)
  exact go_zret dX12_isPass_13 rfl h.1 h.2
set_option maxRecDepth 100000 in
set_option maxHeartbeats 4000000 in
theorem B_X12_on_0 {g : gp} {u : sg} {Q : Option Value → sg → Prop} (x1 : Int32) (x2 : Int32) (h : (vp_in ((7 * x1) + x2) 112 ∧ Q (some (.int (u.2 75 ((7 * x1) + x2).toNatClampNeg))) u)) : Go g iX12_on 0 [some (.ref (gd g 12)), some (.int x1), some (.int x2)] [] u Q := by
  refine go_aload_n dX12_on_0 rfl rfl ?_
  refine go_get (k := 43) (v := .ref (gd g 75)) dX12_on_1 ob_12 (by decide) qf_X12_87 rfl ?_
  refine go_bipush (v := 7) dX12_on_4 (by decide) ?_
  refine go_iload_n dX12_on_6 rfl rfl ?_
  refine go_imul dX12_on_7 ?_
  refine go_iload_n dX12_on_8 rfl rfl ?_
  refine go_iadd dX12_on_9 ?_
  obtain ⟨hi, h⟩ := h
  refine go_ild (a := 75) (n := 112) dX12_on_10 (by decide) (by decide) rfl hi ?_
  exact go_iret dX12_on_11 rfl h
set_option maxRecDepth 100000 in
set_option maxHeartbeats 4000000 in
theorem B_X12_isForged_0 {g : gp} {u : sg} {Q : Option Value → sg → Prop} (x1 : Int32) (x2 : Int32) (h : Go g iX12_on 0 [some (.ref (gd g 12)), some (.int x1), some (.int 4)] [] u (QI (fun r1 u1 => Go g iX12_isGood 0 [some (.ref (gd g 12)), some (.int r1), some (.int x2), none] [] u1 (QI (fun r2 u2 => ((¬ r2 = (0 : Int32) → Go g iX12_isForged 23 [some (.ref (gd g 12)), some (.int x1), none, some (.int 0), some (.int 0)] [] u2 Q) ∧ (r2 = (0 : Int32) → Go g iX12_isForged 23 [some (.ref (gd g 12)), some (.int x1), none, some (.int 1), some (.int 0)] [] u2 Q))))))) : Go g iX12_isForged 0 [some (.ref (gd g 12)), some (.int x1), some (.int x2), none, none] [] u Q := by
  refine go_aload_n dX12_isForged_0 rfl rfl ?_
  refine go_aload_n dX12_isForged_1 rfl rfl ?_
  refine go_iload_n dX12_isForged_2 rfl rfl ?_
  refine go_iconst (v := 4) dX12_isForged_3 (by decide) ?_
  refine go_cVi (o := 12) (As := [.int x1, .int 4]) (st := [.ref (gd g 12)]) (lc := [some (.ref (gd g 12)), some (.int x1), some (.int 4)]) dX12_isForged_4 me_X12_on rfl ob_12 qm_X12_343 rfl (Nat.le_of_ble_eq_true rfl) rfl ⟨Nat.le_of_ble_eq_true rfl, Nat.le_of_ble_eq_true rfl⟩ rfl (Nat.le_of_ble_eq_true rfl) h (fun r1 u1 h => ?_)
  refine go_iload_n dX12_isForged_7 rfl rfl ?_
  refine go_cVi (o := 12) (As := [.int r1, .int x2]) (st := []) (lc := [some (.ref (gd g 12)), some (.int r1), some (.int x2), none]) dX12_isForged_8 me_X12_isGood rfl ob_12 qm_X12_277 rfl (Nat.le_of_ble_eq_true rfl) rfl ⟨Nat.le_of_ble_eq_true rfl, Nat.le_of_ble_eq_true rfl⟩ rfl (Nat.le_of_ble_eq_true rfl) h (fun r2 u2 h => ?_)
  refine go_if_ne (tgt := 18) dX12_isForged_11 (by decide) (fun hc => ?_) (fun hc => ?_)
  · replace h := h.1 hc
    refine go_iconst (v := 0) dX12_isForged_18 (by decide) ?_
    refine go_istore_n (lm := [some (.ref (gd g 12)), some (.int x1), some (.int x2), some (.int 0), none]) dX12_isForged_19 rfl (by decide) rfl rfl ?_
    refine go_iconst (v := 0) dX12_isForged_20 (by decide) ?_
    refine go_istore (lm := [some (.ref (gd g 12)), some (.int x1), some (.int x2), some (.int 0), some (.int 0)]) dX12_isForged_21 (by decide) rfl rfl ?_
    refine go_mask [true, true, false, true, true] rfl ?_
    exact h
  · replace h := h.2 hc
    refine go_iconst (v := 1) dX12_isForged_14 (by decide) ?_
    refine go_goto (tgt := 19) dX12_isForged_15 (by decide) ?_
    refine go_istore_n (lm := [some (.ref (gd g 12)), some (.int x1), some (.int x2), some (.int 1), none]) dX12_isForged_19 rfl (by decide) rfl rfl ?_
    refine go_iconst (v := 0) dX12_isForged_20 (by decide) ?_
    refine go_istore (lm := [some (.ref (gd g 12)), some (.int x1), some (.int x2), some (.int 1), some (.int 0)]) dX12_isForged_21 (by decide) rfl rfl ?_
    refine go_mask [true, true, false, true, true] rfl ?_
    exact h
set_option maxRecDepth 100000 in
set_option maxHeartbeats 4000000 in
theorem B_X12_isForged_23 {g : gp} {u : sg} {Q : Option Value → sg → Prop} (x1 : Int32) (x3 : Int32) (x4 : Int32) (h : (((u.1 12 38) ≤ x4 → Go g iX12_isForged 96 [some (.ref (gd g 12)), some (.int x1), none, some (.int x3), some (.int 0)] [] u Q) ∧ (¬ (u.1 12 38) ≤ x4 → ((¬ x3 = (0 : Int32) → Go g iX12_isForged 23 [some (.ref (gd g 12)), some (.int x1), none, some (.int 1), some (.int (x4 + 1))] [] u Q) ∧ (x3 = (0 : Int32) → (vp_in x4 20 ∧ Go g iX12_on 0 [some (.ref (gd g 12)), some (.int x1), some (.int 4)] [] u (QI (fun r1 u1 => ((¬ (u.2 72 x4.toNatClampNeg) = r1 → Go g iX12_isForged 23 [some (.ref (gd g 12)), some (.int x1), none, some (.int 0), some (.int (x4 + 1))] [] u1 Q) ∧ ((u.2 72 x4.toNatClampNeg) = r1 → Go g iX12_on 0 [some (.ref (gd g 12)), some (.int x1), some (.int 5)] [] u1 (QI (fun r2 u2 => (vp_in x4 20 ∧ (vp_in x4 20 ∧ Go g iX12_in 0 [some (.long (r2.toInt64)), none, some (.long ((u2.2 73 x4.toNatClampNeg).toInt64)), none, some (.long ((u2.2 74 x4.toNatClampNeg).toInt64)), none] [] u2 (QI (fun r3 u3 => ((r3 = (0 : Int32) → Go g iX12_isForged 23 [some (.ref (gd g 12)), some (.int x1), none, some (.int 0), some (.int (x4 + 1))] [] u3 Q) ∧ (¬ r3 = (0 : Int32) → Go g iX12_isForged 23 [some (.ref (gd g 12)), some (.int x1), none, some (.int 1), some (.int (x4 + 1))] [] u3 Q)))))))))))))))))) : Go g iX12_isForged 23 [some (.ref (gd g 12)), some (.int x1), none, some (.int x3), some (.int x4)] [] u Q := by
  refine go_iload dX12_isForged_23 rfl ?_
  refine go_aload_n dX12_isForged_25 rfl rfl ?_
  refine go_get (k := 38) (v := .int (u.1 12 38)) dX12_isForged_26 ob_12 (by decide) qf_X12_330 rfl ?_
  refine go_icmp_ge (tgt := 93) dX12_isForged_29 (by decide) (fun hc => ?_) (fun hc => ?_)
  · replace h := h.1 hc
    refine go_iconst (v := 0) dX12_isForged_93 (by decide) ?_
    refine go_istore (lm := [some (.ref (gd g 12)), some (.int x1), none, some (.int x3), some (.int 0)]) dX12_isForged_94 (by decide) rfl rfl ?_
    exact h
  · replace h := h.2 hc
    refine go_iload_n dX12_isForged_32 rfl rfl ?_
    refine go_if_ne (tgt := 81) dX12_isForged_33 (by decide) (fun hc => ?_) (fun hc => ?_)
    · replace h := h.1 hc
      refine go_iconst (v := 1) dX12_isForged_81 (by decide) ?_
      refine go_goto (tgt := 86) dX12_isForged_82 (by decide) ?_
      refine go_istore_n (lm := [some (.ref (gd g 12)), some (.int x1), none, some (.int 1), some (.int x4)]) dX12_isForged_86 rfl (by decide) rfl rfl ?_
      refine go_iinc (v := x4 + 1) (lm := [some (.ref (gd g 12)), some (.int x1), none, some (.int 1), some (.int (x4 + 1))]) dX12_isForged_87 rfl rfl (by decide) rfl rfl ?_
      refine go_goto (tgt := 23) dX12_isForged_90 (by decide) ?_
      exact h
    · replace h := h.2 hc
      refine go_aload_n dX12_isForged_36 rfl rfl ?_
      refine go_get (k := 39) (v := .ref (gd g 72)) dX12_isForged_37 ob_12 (by decide) qf_X12_78 rfl ?_
      refine go_iload dX12_isForged_40 rfl ?_
      obtain ⟨hi, h⟩ := h
      refine go_ild (a := 72) (n := 20) dX12_isForged_42 (by decide) (by decide) rfl hi ?_
      refine go_aload_n dX12_isForged_43 rfl rfl ?_
      refine go_iload_n dX12_isForged_44 rfl rfl ?_
      refine go_iconst (v := 4) dX12_isForged_45 (by decide) ?_
      refine go_cVi (o := 12) (As := [.int x1, .int 4]) (st := [.int (u.2 72 x4.toNatClampNeg)]) (lc := [some (.ref (gd g 12)), some (.int x1), some (.int 4)]) dX12_isForged_46 me_X12_on rfl ob_12 qm_X12_343 rfl (Nat.le_of_ble_eq_true rfl) rfl ⟨Nat.le_of_ble_eq_true rfl, Nat.le_of_ble_eq_true rfl⟩ rfl (Nat.le_of_ble_eq_true rfl) h (fun r1 u1 h => ?_)
      refine go_icmp_ne (tgt := 85) dX12_isForged_49 (by decide) (fun hc => ?_) (fun hc => ?_)
      · replace h := h.1 hc
        refine go_iconst (v := 0) dX12_isForged_85 (by decide) ?_
        refine go_istore_n (lm := [some (.ref (gd g 12)), some (.int x1), none, some (.int 0), some (.int x4)]) dX12_isForged_86 rfl (by decide) rfl rfl ?_
        refine go_iinc (v := x4 + 1) (lm := [some (.ref (gd g 12)), some (.int x1), none, some (.int 0), some (.int (x4 + 1))]) dX12_isForged_87 rfl rfl (by decide) rfl rfl ?_
        refine go_goto (tgt := 23) dX12_isForged_90 (by decide) ?_
        exact h
      · replace h := h.2 hc
        refine go_aload_n dX12_isForged_52 rfl rfl ?_
        refine go_iload_n dX12_isForged_53 rfl rfl ?_
        refine go_iconst (v := 5) dX12_isForged_54 (by decide) ?_
        refine go_cVi (o := 12) (As := [.int x1, .int 5]) (st := []) (lc := [some (.ref (gd g 12)), some (.int x1), some (.int 5)]) dX12_isForged_55 me_X12_on rfl ob_12 qm_X12_343 rfl (Nat.le_of_ble_eq_true rfl) rfl ⟨Nat.le_of_ble_eq_true rfl, Nat.le_of_ble_eq_true rfl⟩ rfl (Nat.le_of_ble_eq_true rfl) h (fun r2 u2 h => ?_)
        refine go_i2l dX12_isForged_58 ?_
        refine go_aload_n dX12_isForged_59 rfl rfl ?_
        refine go_get (k := 40) (v := .ref (gd g 73)) dX12_isForged_60 ob_12 (by decide) qf_X12_81 rfl ?_
        refine go_iload dX12_isForged_63 rfl ?_
        obtain ⟨hi, h⟩ := h
        refine go_ild (a := 73) (n := 20) dX12_isForged_65 (by decide) (by decide) rfl hi ?_
        refine go_i2l dX12_isForged_66 ?_
        refine go_aload_n dX12_isForged_67 rfl rfl ?_
        refine go_get (k := 41) (v := .ref (gd g 74)) dX12_isForged_68 ob_12 (by decide) qf_X12_84 rfl ?_
        refine go_iload dX12_isForged_71 rfl ?_
        obtain ⟨hi, h⟩ := h
        refine go_ild (a := 74) (n := 20) dX12_isForged_73 (by decide) (by decide) rfl hi ?_
        refine go_i2l dX12_isForged_74 ?_
        refine go_cSi (As := [.long (r2.toInt64), .long ((u2.2 73 x4.toNatClampNeg).toInt64), .long ((u2.2 74 x4.toNatClampNeg).toInt64)]) (st := []) (lc := [some (.long (r2.toInt64)), none, some (.long ((u2.2 73 x4.toNatClampNeg).toInt64)), none, some (.long ((u2.2 74 x4.toNatClampNeg).toInt64)), none]) dX12_isForged_75 me_X12_in qm_X12_132 rfl (Nat.le_of_ble_eq_true rfl) rfl ⟨Nat.le_of_ble_eq_true rfl, Nat.le_of_ble_eq_true rfl⟩ rfl (Nat.le_of_ble_eq_true rfl) h (fun r3 u3 h => ?_)
        refine go_if_eq (tgt := 85) dX12_isForged_78 (by decide) (fun hc => ?_) (fun hc => ?_)
        · replace h := h.1 hc
          refine go_iconst (v := 0) dX12_isForged_85 (by decide) ?_
          refine go_istore_n (lm := [some (.ref (gd g 12)), some (.int x1), none, some (.int 0), some (.int x4)]) dX12_isForged_86 rfl (by decide) rfl rfl ?_
          refine go_iinc (v := x4 + 1) (lm := [some (.ref (gd g 12)), some (.int x1), none, some (.int 0), some (.int (x4 + 1))]) dX12_isForged_87 rfl rfl (by decide) rfl rfl ?_
          refine go_goto (tgt := 23) dX12_isForged_90 (by decide) ?_
          exact h
        · replace h := h.2 hc
          refine go_iconst (v := 1) dX12_isForged_81 (by decide) ?_
          refine go_goto (tgt := 86) dX12_isForged_82 (by decide) ?_
          refine go_istore_n (lm := [some (.ref (gd g 12)), some (.int x1), none, some (.int 1), some (.int x4)]) dX12_isForged_86 rfl (by decide) rfl rfl ?_
          refine go_iinc (v := x4 + 1) (lm := [some (.ref (gd g 12)), some (.int x1), none, some (.int 1), some (.int (x4 + 1))]) dX12_isForged_87 rfl rfl (by decide) rfl rfl ?_
          refine go_goto (tgt := 23) dX12_isForged_90 (by decide) ?_
          exact h
set_option maxRecDepth 100000 in
set_option maxHeartbeats 4000000 in
theorem B_X12_isForged_96 {g : gp} {u : sg} {Q : Option Value → sg → Prop} (x1 : Int32) (x3 : Int32) (x4 : Int32) (h : ((x1 ≤ x4 → ((x3 = (0 : Int32) → Q (some (.int (0 : Int32))) u) ∧ (¬ x3 = (0 : Int32) → Go g iX12_on 0 [some (.ref (gd g 12)), some (.int x1), some (.int 0)] [] u (QI (fun r1 u1 => ((¬ r1 = (2 : Int32) → Q (some (.int (0 : Int32))) u1) ∧ (r1 = (2 : Int32) → Q (some (.int (1 : Int32))) u1))))))) ∧ (¬ x1 ≤ x4 → ((¬ x3 = (0 : Int32) → Go g iX12_isForged 96 [some (.ref (gd g 12)), some (.int x1), none, some (.int 1), some (.int (x4 + 1))] [] u Q) ∧ (x3 = (0 : Int32) → Go g iX12_on 0 [some (.ref (gd g 12)), some (.int x4), some (.int 2)] [] u (QI (fun r2 u2 => Go g iX12_on 0 [some (.ref (gd g 12)), some (.int x1), some (.int 2)] [] u2 (QI (fun r3 u3 => ((¬ r2 = r3 → Go g iX12_isForged 96 [some (.ref (gd g 12)), some (.int x1), none, some (.int 0), some (.int (x4 + 1))] [] u3 Q) ∧ (r2 = r3 → Go g iX12_on 0 [some (.ref (gd g 12)), some (.int x4), some (.int 3)] [] u3 (QI (fun r4 u4 => Go g iX12_on 0 [some (.ref (gd g 12)), some (.int x1), some (.int 3)] [] u4 (QI (fun r5 u5 => ((r4 = r5 → Go g iX12_isForged 96 [some (.ref (gd g 12)), some (.int x1), none, some (.int 0), some (.int (x4 + 1))] [] u5 Q) ∧ (¬ r4 = r5 → Go g iX12_isForged 96 [some (.ref (gd g 12)), some (.int x1), none, some (.int 1), some (.int (x4 + 1))] [] u5 Q))))))))))))))))) : Go g iX12_isForged 96 [some (.ref (gd g 12)), some (.int x1), none, some (.int x3), some (.int x4)] [] u Q := by
  refine go_iload dX12_isForged_96 rfl ?_
  refine go_iload_n dX12_isForged_98 rfl rfl ?_
  refine go_icmp_ge (tgt := 150) dX12_isForged_99 (by decide) (fun hc => ?_) (fun hc => ?_)
  · replace h := h.1 hc
    refine go_iload_n dX12_isForged_150 rfl rfl ?_
    refine go_if_eq (tgt := 168) dX12_isForged_151 (by decide) (fun hc => ?_) (fun hc => ?_)
    · replace h := h.1 hc
      refine go_iconst (v := 0) dX12_isForged_168 (by decide) ?_
      exact go_zret dX12_isForged_169 rfl (by decide) h
    · replace h := h.2 hc
      refine go_aload_n dX12_isForged_154 rfl rfl ?_
      refine go_iload_n dX12_isForged_155 rfl rfl ?_
      refine go_iconst (v := 0) dX12_isForged_156 (by decide) ?_
      refine go_cVi (o := 12) (As := [.int x1, .int 0]) (st := []) (lc := [some (.ref (gd g 12)), some (.int x1), some (.int 0)]) dX12_isForged_157 me_X12_on rfl ob_12 qm_X12_343 rfl (Nat.le_of_ble_eq_true rfl) rfl ⟨Nat.le_of_ble_eq_true rfl, Nat.le_of_ble_eq_true rfl⟩ rfl (Nat.le_of_ble_eq_true rfl) h (fun r1 u1 h => ?_)
      refine go_iconst (v := 2) dX12_isForged_160 (by decide) ?_
      refine go_icmp_ne (tgt := 168) dX12_isForged_161 (by decide) (fun hc => ?_) (fun hc => ?_)
      · replace h := h.1 hc
        refine go_iconst (v := 0) dX12_isForged_168 (by decide) ?_
        exact go_zret dX12_isForged_169 rfl (by decide) h
      · replace h := h.2 hc
        refine go_iconst (v := 1) dX12_isForged_164 (by decide) ?_
        refine go_goto (tgt := 169) dX12_isForged_165 (by decide) ?_
        exact go_zret dX12_isForged_169 rfl (by decide) h
  · replace h := h.2 hc
    refine go_iload_n dX12_isForged_102 rfl rfl ?_
    refine go_if_ne (tgt := 138) dX12_isForged_103 (by decide) (fun hc => ?_) (fun hc => ?_)
    · replace h := h.1 hc
      refine go_iconst (v := 1) dX12_isForged_138 (by decide) ?_
      refine go_goto (tgt := 143) dX12_isForged_139 (by decide) ?_
      refine go_istore_n (lm := [some (.ref (gd g 12)), some (.int x1), none, some (.int 1), some (.int x4)]) dX12_isForged_143 rfl (by decide) rfl rfl ?_
      refine go_iinc (v := x4 + 1) (lm := [some (.ref (gd g 12)), some (.int x1), none, some (.int 1), some (.int (x4 + 1))]) dX12_isForged_144 rfl rfl (by decide) rfl rfl ?_
      refine go_goto (tgt := 96) dX12_isForged_147 (by decide) ?_
      exact h
    · replace h := h.2 hc
      refine go_aload_n dX12_isForged_106 rfl rfl ?_
      refine go_iload dX12_isForged_107 rfl ?_
      refine go_iconst (v := 2) dX12_isForged_109 (by decide) ?_
      refine go_cVi (o := 12) (As := [.int x4, .int 2]) (st := []) (lc := [some (.ref (gd g 12)), some (.int x4), some (.int 2)]) dX12_isForged_110 me_X12_on rfl ob_12 qm_X12_343 rfl (Nat.le_of_ble_eq_true rfl) rfl ⟨Nat.le_of_ble_eq_true rfl, Nat.le_of_ble_eq_true rfl⟩ rfl (Nat.le_of_ble_eq_true rfl) h (fun r2 u2 h => ?_)
      refine go_aload_n dX12_isForged_113 rfl rfl ?_
      refine go_iload_n dX12_isForged_114 rfl rfl ?_
      refine go_iconst (v := 2) dX12_isForged_115 (by decide) ?_
      refine go_cVi (o := 12) (As := [.int x1, .int 2]) (st := [.int r2]) (lc := [some (.ref (gd g 12)), some (.int x1), some (.int 2)]) dX12_isForged_116 me_X12_on rfl ob_12 qm_X12_343 rfl (Nat.le_of_ble_eq_true rfl) rfl ⟨Nat.le_of_ble_eq_true rfl, Nat.le_of_ble_eq_true rfl⟩ rfl (Nat.le_of_ble_eq_true rfl) h (fun r3 u3 h => ?_)
      refine go_icmp_ne (tgt := 142) dX12_isForged_119 (by decide) (fun hc => ?_) (fun hc => ?_)
      · replace h := h.1 hc
        refine go_iconst (v := 0) dX12_isForged_142 (by decide) ?_
        refine go_istore_n (lm := [some (.ref (gd g 12)), some (.int x1), none, some (.int 0), some (.int x4)]) dX12_isForged_143 rfl (by decide) rfl rfl ?_
        refine go_iinc (v := x4 + 1) (lm := [some (.ref (gd g 12)), some (.int x1), none, some (.int 0), some (.int (x4 + 1))]) dX12_isForged_144 rfl rfl (by decide) rfl rfl ?_
        refine go_goto (tgt := 96) dX12_isForged_147 (by decide) ?_
        exact h
      · replace h := h.2 hc
        refine go_aload_n dX12_isForged_122 rfl rfl ?_
        refine go_iload dX12_isForged_123 rfl ?_
        refine go_iconst (v := 3) dX12_isForged_125 (by decide) ?_
        refine go_cVi (o := 12) (As := [.int x4, .int 3]) (st := []) (lc := [some (.ref (gd g 12)), some (.int x4), some (.int 3)]) dX12_isForged_126 me_X12_on rfl ob_12 qm_X12_343 rfl (Nat.le_of_ble_eq_true rfl) rfl ⟨Nat.le_of_ble_eq_true rfl, Nat.le_of_ble_eq_true rfl⟩ rfl (Nat.le_of_ble_eq_true rfl) h (fun r4 u4 h => ?_)
        refine go_aload_n dX12_isForged_129 rfl rfl ?_
        refine go_iload_n dX12_isForged_130 rfl rfl ?_
        refine go_iconst (v := 3) dX12_isForged_131 (by decide) ?_
        refine go_cVi (o := 12) (As := [.int x1, .int 3]) (st := [.int r4]) (lc := [some (.ref (gd g 12)), some (.int x1), some (.int 3)]) dX12_isForged_132 me_X12_on rfl ob_12 qm_X12_343 rfl (Nat.le_of_ble_eq_true rfl) rfl ⟨Nat.le_of_ble_eq_true rfl, Nat.le_of_ble_eq_true rfl⟩ rfl (Nat.le_of_ble_eq_true rfl) h (fun r5 u5 h => ?_)
        refine go_icmp_eq (tgt := 142) dX12_isForged_135 (by decide) (fun hc => ?_) (fun hc => ?_)
        · replace h := h.1 hc
          refine go_iconst (v := 0) dX12_isForged_142 (by decide) ?_
          refine go_istore_n (lm := [some (.ref (gd g 12)), some (.int x1), none, some (.int 0), some (.int x4)]) dX12_isForged_143 rfl (by decide) rfl rfl ?_
          refine go_iinc (v := x4 + 1) (lm := [some (.ref (gd g 12)), some (.int x1), none, some (.int 0), some (.int (x4 + 1))]) dX12_isForged_144 rfl rfl (by decide) rfl rfl ?_
          refine go_goto (tgt := 96) dX12_isForged_147 (by decide) ?_
          exact h
        · replace h := h.2 hc
          refine go_iconst (v := 1) dX12_isForged_138 (by decide) ?_
          refine go_goto (tgt := 143) dX12_isForged_139 (by decide) ?_
          refine go_istore_n (lm := [some (.ref (gd g 12)), some (.int x1), none, some (.int 1), some (.int x4)]) dX12_isForged_143 rfl (by decide) rfl rfl ?_
          refine go_iinc (v := x4 + 1) (lm := [some (.ref (gd g 12)), some (.int x1), none, some (.int 1), some (.int (x4 + 1))]) dX12_isForged_144 rfl rfl (by decide) rfl rfl ?_
          refine go_goto (tgt := 96) dX12_isForged_147 (by decide) ?_
          exact h
set_option maxRecDepth 100000 in
set_option maxHeartbeats 4000000 in
theorem B_X12_kindOf_0 {g : gp} {u : sg} {Q : Option Value → sg → Prop} (x1 : Int32) (h : Go g iX12_on 0 [some (.ref (gd g 12)), some (.int x1), some (.int 0)] [] u (QI (fun r1 u1 => Go g iX12_isForged 0 [some (.ref (gd g 12)), some (.int x1), some (.int (u1.1 12 44)), none, none] [] u1 (QI (fun r2 u2 => ((r2 = (0 : Int32) → ((¬ r1 = (2 : Int32) → ((¬ r1 = (1 : Int32) → ((¬ r1 = (3 : Int32) → Q (some (.int (0 : Int32))) u2) ∧ (r1 = (3 : Int32) → Q (some (.int (4 : Int32))) u2))) ∧ (r1 = (1 : Int32) → Q (some (.int (1 : Int32))) u2))) ∧ (r1 = (2 : Int32) → Q (some (.int (2 : Int32))) u2))) ∧ (¬ r2 = (0 : Int32) → Q (some (.int (3 : Int32))) u2))))))) : Go g iX12_kindOf 0 [some (.ref (gd g 12)), some (.int x1), none] [] u Q := by
  refine go_aload_n dX12_kindOf_0 rfl rfl ?_
  refine go_iload_n dX12_kindOf_1 rfl rfl ?_
  refine go_iconst (v := 0) dX12_kindOf_2 (by decide) ?_
  refine go_cVi (o := 12) (As := [.int x1, .int 0]) (st := []) (lc := [some (.ref (gd g 12)), some (.int x1), some (.int 0)]) dX12_kindOf_3 me_X12_on rfl ob_12 qm_X12_343 rfl (Nat.le_of_ble_eq_true rfl) rfl ⟨Nat.le_of_ble_eq_true rfl, Nat.le_of_ble_eq_true rfl⟩ rfl (Nat.le_of_ble_eq_true rfl) h (fun r1 u1 h => ?_)
  refine go_istore_n (lm := [some (.ref (gd g 12)), some (.int x1), some (.int r1)]) dX12_kindOf_6 rfl (by decide) rfl rfl ?_
  refine go_aload_n dX12_kindOf_7 rfl rfl ?_
  refine go_iload_n dX12_kindOf_8 rfl rfl ?_
  refine go_aload_n dX12_kindOf_9 rfl rfl ?_
  refine go_get (k := 44) (v := .int (u1.1 12 44)) dX12_kindOf_10 ob_12 (by decide) qf_X12_347 rfl ?_
  refine go_cVi (o := 12) (As := [.int x1, .int (u1.1 12 44)]) (st := []) (lc := [some (.ref (gd g 12)), some (.int x1), some (.int (u1.1 12 44)), none, none]) dX12_kindOf_13 me_X12_isForged rfl ob_12 qm_X12_350 rfl (Nat.le_of_ble_eq_true rfl) rfl ⟨Nat.le_of_ble_eq_true rfl, Nat.le_of_ble_eq_true rfl⟩ rfl (Nat.le_of_ble_eq_true rfl) h (fun r2 u2 h => ?_)
  refine go_if_eq (tgt := 23) dX12_kindOf_16 (by decide) (fun hc => ?_) (fun hc => ?_)
  · replace h := h.1 hc
    refine go_iload_n dX12_kindOf_23 rfl rfl ?_
    refine go_iconst (v := 2) dX12_kindOf_24 (by decide) ?_
    refine go_icmp_ne (tgt := 32) dX12_kindOf_25 (by decide) (fun hc => ?_) (fun hc => ?_)
    · replace h := h.1 hc
      refine go_iload_n dX12_kindOf_32 rfl rfl ?_
      refine go_iconst (v := 1) dX12_kindOf_33 (by decide) ?_
      refine go_icmp_ne (tgt := 41) dX12_kindOf_34 (by decide) (fun hc => ?_) (fun hc => ?_)
      · replace h := h.1 hc
        refine go_iload_n dX12_kindOf_41 rfl rfl ?_
        refine go_iconst (v := 3) dX12_kindOf_42 (by decide) ?_
        refine go_icmp_ne (tgt := 50) dX12_kindOf_43 (by decide) (fun hc => ?_) (fun hc => ?_)
        · replace h := h.1 hc
          refine go_iconst (v := 0) dX12_kindOf_50 (by decide) ?_
          exact go_iret dX12_kindOf_51 rfl h
        · replace h := h.2 hc
          refine go_iconst (v := 4) dX12_kindOf_46 (by decide) ?_
          refine go_goto (tgt := 51) dX12_kindOf_47 (by decide) ?_
          exact go_iret dX12_kindOf_51 rfl h
      · replace h := h.2 hc
        refine go_iconst (v := 1) dX12_kindOf_37 (by decide) ?_
        refine go_goto (tgt := 51) dX12_kindOf_38 (by decide) ?_
        exact go_iret dX12_kindOf_51 rfl h
    · replace h := h.2 hc
      refine go_iconst (v := 2) dX12_kindOf_28 (by decide) ?_
      refine go_goto (tgt := 51) dX12_kindOf_29 (by decide) ?_
      exact go_iret dX12_kindOf_51 rfl h
  · replace h := h.2 hc
    refine go_iconst (v := 3) dX12_kindOf_19 (by decide) ?_
    refine go_goto (tgt := 51) dX12_kindOf_20 (by decide) ?_
    exact go_iret dX12_kindOf_51 rfl h
set_option maxRecDepth 100000 in
set_option maxHeartbeats 4000000 in
theorem B_X12_canbe_0 {g : gp} {u : sg} {Q : Option Value → sg → Prop} (x1 : Int32) (h : Go g iX12_isPerson 0 [some (.int x1)] [] (sI u 12 0 (0 : Int32)) (QI (fun r1 u1 => ((¬ r1 = (0 : Int32) → Go g iX12_canbe 19 [some (.ref (gd g 12)), some (.int x1), some (.int 1), some (.int 0), none, none, none] [] u1 Q) ∧ (r1 = (0 : Int32) → Q (some (.int (-1000001 : Int32))) u1))))) : Go g iX12_canbe 0 [some (.ref (gd g 12)), some (.int x1), none, none, none, none, none] [] u Q := by
  refine go_aload_n dX12_canbe_0 rfl rfl ?_
  refine go_iconst (v := 0) dX12_canbe_1 (by decide) ?_
  refine go_put (k := 0) dX12_canbe_2 ob_12 (by decide) qf_X12_1 rfl rfl pf_I ?_
  refine go_iload_n dX12_canbe_5 rfl rfl ?_
  refine go_cSi (As := [.int x1]) (st := []) (lc := [some (.int x1)]) dX12_canbe_6 me_X12_isPerson qm_X12_338 rfl (Nat.le_of_ble_eq_true rfl) rfl ⟨Nat.le_of_ble_eq_true rfl, Nat.le_of_ble_eq_true rfl⟩ rfl (Nat.le_of_ble_eq_true rfl) h (fun r1 u1 h => ?_)
  refine go_if_ne (tgt := 15) dX12_canbe_9 (by decide) (fun hc => ?_) (fun hc => ?_)
  · replace h := h.1 hc
    refine go_iconst (v := 1) dX12_canbe_15 (by decide) ?_
    refine go_istore_n (lm := [some (.ref (gd g 12)), some (.int x1), some (.int 1), none, none, none, none]) dX12_canbe_16 rfl (by decide) rfl rfl ?_
    refine go_iconst (v := 0) dX12_canbe_17 (by decide) ?_
    refine go_istore_n (lm := [some (.ref (gd g 12)), some (.int x1), some (.int 1), some (.int 0), none, none, none]) dX12_canbe_18 rfl (by decide) rfl rfl ?_
    exact h
  · replace h := h.2 hc
    refine go_ldc dX12_canbe_12 qc_X12_142 ?_
    exact go_iret dX12_canbe_14 rfl h
set_option maxRecDepth 100000 in
set_option maxHeartbeats 4000000 in
theorem B_X12_canbe_19 {g : gp} {u : sg} {Q : Option Value → sg → Prop} (x1 : Int32) (x2 : Int32) (x3 : Int32) (h : (((u.1 12 42) ≤ x3 → ((x2 = (0 : Int32) → Q (some (.int (0 : Int32))) u) ∧ (¬ x2 = (0 : Int32) → Q (some (.int (1 : Int32))) u))) ∧ (¬ (u.1 12 42) ≤ x3 → Go g iX12_canbe 30 [some (.ref (gd g 12)), some (.int x1), some (.int x2), some (.int x3), some (.int 0), none, none] [] u Q))) : Go g iX12_canbe 19 [some (.ref (gd g 12)), some (.int x1), some (.int x2), some (.int x3), none, none, none] [] u Q := by
  refine go_iload_n dX12_canbe_19 rfl rfl ?_
  refine go_aload_n dX12_canbe_20 rfl rfl ?_
  refine go_get (k := 42) (v := .int (u.1 12 42)) dX12_canbe_21 ob_12 (by decide) qf_X12_333 rfl ?_
  refine go_icmp_ge (tgt := 157) dX12_canbe_24 (by decide) (fun hc => ?_) (fun hc => ?_)
  · replace h := h.1 hc
    refine go_iload_n dX12_canbe_157 rfl rfl ?_
    refine go_if_eq (tgt := 165) dX12_canbe_158 (by decide) (fun hc => ?_) (fun hc => ?_)
    · replace h := h.1 hc
      refine go_iconst (v := 0) dX12_canbe_165 (by decide) ?_
      exact go_iret dX12_canbe_166 rfl h
    · replace h := h.2 hc
      refine go_iconst (v := 1) dX12_canbe_161 (by decide) ?_
      refine go_goto (tgt := 166) dX12_canbe_162 (by decide) ?_
      exact go_iret dX12_canbe_166 rfl h
  · replace h := h.2 hc
    refine go_iconst (v := 0) dX12_canbe_27 (by decide) ?_
    refine go_istore (lm := [some (.ref (gd g 12)), some (.int x1), some (.int x2), some (.int x3), some (.int 0), none, none]) dX12_canbe_28 (by decide) rfl rfl ?_
    exact h
set_option maxRecDepth 100000 in
set_option maxHeartbeats 4000000 in
theorem B_X12_canbe_30 {g : gp} {u : sg} {Q : Option Value → sg → Prop} (x1 : Int32) (x2 : Int32) (x3 : Int32) (x4 : Int32) (h : ((x3 ≤ x4 → Go g iX12_canbe 19 [some (.ref (gd g 12)), some (.int x1), some (.int x2), some (.int (x3 + 1)), none, none, none] [] u Q) ∧ (¬ x3 ≤ x4 → Go g iX12_on 0 [some (.ref (gd g 12)), some (.int x3), some (.int 5)] [] u (QI (fun r1 u1 => Go g iX12_on 0 [some (.ref (gd g 12)), some (.int x4), some (.int 5)] [] u1 (QI (fun r2 u2 => Go g iX12_on 0 [some (.ref (gd g 12)), some (.int x3), some (.int 4)] [] u2 (QI (fun r3 u3 => Go g iX12_on 0 [some (.ref (gd g 12)), some (.int x4), some (.int 4)] [] u3 (QI (fun r4 u4 => ((¬ r3 = r4 → Go g iX12_on 0 [some (.ref (gd g 12)), some (.int x3), some (.int 4)] [] u4 (QI (fun r5 u5 => Go g iX12_on 0 [some (.ref (gd g 12)), some (.int x4), some (.int 4)] [] u5 (QI (fun r6 u6 => (vp_in ((8 * r5) + r6) 72 ∧ Go g iX12_canbe 94 [some (.ref (gd g 12)), some (.int x1), some (.int x2), some (.int x3), some (.int x4), some (.int (r1 - r2)), none] [.int (u6.2 71 ((8 * r5) + r6).toNatClampNeg)] u6 Q)))))) ∧ (r3 = r4 → Go g iX12_canbe 94 [some (.ref (gd g 12)), some (.int x1), some (.int x2), some (.int x3), some (.int x4), some (.int (r1 - r2)), none] [.int 0] u4 Q))))))))))))) : Go g iX12_canbe 30 [some (.ref (gd g 12)), some (.int x1), some (.int x2), some (.int x3), some (.int x4), none, none] [] u Q := by
  refine go_iload dX12_canbe_30 rfl ?_
  refine go_iload_n dX12_canbe_32 rfl rfl ?_
  refine go_icmp_ge (tgt := 151) dX12_canbe_33 (by decide) (fun hc => ?_) (fun hc => ?_)
  · replace h := h.1 hc
    refine go_iinc (v := x3 + 1) (lm := [some (.ref (gd g 12)), some (.int x1), some (.int x2), some (.int (x3 + 1)), some (.int x4), none, none]) dX12_canbe_151 rfl rfl (by decide) rfl rfl ?_
    refine go_goto (tgt := 19) dX12_canbe_154 (by decide) ?_
    refine go_mask [true, true, true, true, false, true, true] rfl ?_
    exact h
  · replace h := h.2 hc
    refine go_aload_n dX12_canbe_36 rfl rfl ?_
    refine go_iload_n dX12_canbe_37 rfl rfl ?_
    refine go_iconst (v := 5) dX12_canbe_38 (by decide) ?_
    refine go_cVi (o := 12) (As := [.int x3, .int 5]) (st := []) (lc := [some (.ref (gd g 12)), some (.int x3), some (.int 5)]) dX12_canbe_39 me_X12_on rfl ob_12 qm_X12_343 rfl (Nat.le_of_ble_eq_true rfl) rfl ⟨Nat.le_of_ble_eq_true rfl, Nat.le_of_ble_eq_true rfl⟩ rfl (Nat.le_of_ble_eq_true rfl) h (fun r1 u1 h => ?_)
    refine go_aload_n dX12_canbe_42 rfl rfl ?_
    refine go_iload dX12_canbe_43 rfl ?_
    refine go_iconst (v := 5) dX12_canbe_45 (by decide) ?_
    refine go_cVi (o := 12) (As := [.int x4, .int 5]) (st := [.int r1]) (lc := [some (.ref (gd g 12)), some (.int x4), some (.int 5)]) dX12_canbe_46 me_X12_on rfl ob_12 qm_X12_343 rfl (Nat.le_of_ble_eq_true rfl) rfl ⟨Nat.le_of_ble_eq_true rfl, Nat.le_of_ble_eq_true rfl⟩ rfl (Nat.le_of_ble_eq_true rfl) h (fun r2 u2 h => ?_)
    refine go_isub dX12_canbe_49 ?_
    refine go_istore (lm := [some (.ref (gd g 12)), some (.int x1), some (.int x2), some (.int x3), some (.int x4), some (.int (r1 - r2)), none]) dX12_canbe_50 (by decide) rfl rfl ?_
    refine go_aload_n dX12_canbe_52 rfl rfl ?_
    refine go_iload_n dX12_canbe_53 rfl rfl ?_
    refine go_iconst (v := 4) dX12_canbe_54 (by decide) ?_
    refine go_cVi (o := 12) (As := [.int x3, .int 4]) (st := []) (lc := [some (.ref (gd g 12)), some (.int x3), some (.int 4)]) dX12_canbe_55 me_X12_on rfl ob_12 qm_X12_343 rfl (Nat.le_of_ble_eq_true rfl) rfl ⟨Nat.le_of_ble_eq_true rfl, Nat.le_of_ble_eq_true rfl⟩ rfl (Nat.le_of_ble_eq_true rfl) h (fun r3 u3 h => ?_)
    refine go_aload_n dX12_canbe_58 rfl rfl ?_
    refine go_iload dX12_canbe_59 rfl ?_
    refine go_iconst (v := 4) dX12_canbe_61 (by decide) ?_
    refine go_cVi (o := 12) (As := [.int x4, .int 4]) (st := [.int r3]) (lc := [some (.ref (gd g 12)), some (.int x4), some (.int 4)]) dX12_canbe_62 me_X12_on rfl ob_12 qm_X12_343 rfl (Nat.le_of_ble_eq_true rfl) rfl ⟨Nat.le_of_ble_eq_true rfl, Nat.le_of_ble_eq_true rfl⟩ rfl (Nat.le_of_ble_eq_true rfl) h (fun r4 u4 h => ?_)
    refine go_icmp_ne (tgt := 72) dX12_canbe_65 (by decide) (fun hc => ?_) (fun hc => ?_)
    · replace h := h.1 hc
      refine go_aload_n dX12_canbe_72 rfl rfl ?_
      refine go_get (k := 37) (v := .ref (gd g 71)) dX12_canbe_73 ob_12 (by decide) qf_X12_75 rfl ?_
      refine go_bipush (v := 8) dX12_canbe_76 (by decide) ?_
      refine go_aload_n dX12_canbe_78 rfl rfl ?_
      refine go_iload_n dX12_canbe_79 rfl rfl ?_
      refine go_iconst (v := 4) dX12_canbe_80 (by decide) ?_
      refine go_cVi (o := 12) (As := [.int x3, .int 4]) (st := [.int 8, .ref (gd g 71)]) (lc := [some (.ref (gd g 12)), some (.int x3), some (.int 4)]) dX12_canbe_81 me_X12_on rfl ob_12 qm_X12_343 rfl (Nat.le_of_ble_eq_true rfl) rfl ⟨Nat.le_of_ble_eq_true rfl, Nat.le_of_ble_eq_true rfl⟩ rfl (Nat.le_of_ble_eq_true rfl) h (fun r5 u5 h => ?_)
      refine go_imul dX12_canbe_84 ?_
      refine go_aload_n dX12_canbe_85 rfl rfl ?_
      refine go_iload dX12_canbe_86 rfl ?_
      refine go_iconst (v := 4) dX12_canbe_88 (by decide) ?_
      refine go_cVi (o := 12) (As := [.int x4, .int 4]) (st := [.int (8 * r5), .ref (gd g 71)]) (lc := [some (.ref (gd g 12)), some (.int x4), some (.int 4)]) dX12_canbe_89 me_X12_on rfl ob_12 qm_X12_343 rfl (Nat.le_of_ble_eq_true rfl) rfl ⟨Nat.le_of_ble_eq_true rfl, Nat.le_of_ble_eq_true rfl⟩ rfl (Nat.le_of_ble_eq_true rfl) h (fun r6 u6 h => ?_)
      refine go_iadd dX12_canbe_92 ?_
      obtain ⟨hi, h⟩ := h
      refine go_ild (a := 71) (n := 72) dX12_canbe_93 (by decide) (by decide) rfl hi ?_
      exact h
    · replace h := h.2 hc
      refine go_iconst (v := 0) dX12_canbe_68 (by decide) ?_
      refine go_goto (tgt := 94) dX12_canbe_69 (by decide) ?_
      exact h
set_option maxRecDepth 100000 in
set_option maxHeartbeats 4000000 in
theorem B_X12_canbe_94 {g : gp} {u : sg} {Q : Option Value → sg → Prop} (x1 : Int32) (x2 : Int32) (x3 : Int32) (x4 : Int32) (x5 : Int32) (t0 : Int32) (h : ((x2 = (0 : Int32) → Go g iX12_canbe 30 [some (.ref (gd g 12)), some (.int x1), some (.int 0), some (.int x3), some (.int (x4 + 1)), none, none] [] u Q) ∧ (¬ x2 = (0 : Int32) → Go g iX12_on 0 [some (.ref (gd g 12)), some (.int x3), some (.int 1)] [] u (QI (fun r1 u1 => ((¬ r1 = x1 → Go g iX12_canbe 30 [some (.ref (gd g 12)), some (.int x1), some (.int 1), some (.int x3), some (.int (x4 + 1)), none, none] [] u1 Q) ∧ (r1 = x1 → Go g iX12_on 0 [some (.ref (gd g 12)), some (.int x4), some (.int 1)] [] u1 (QI (fun r2 u2 => ((¬ r2 = x1 → Go g iX12_canbe 30 [some (.ref (gd g 12)), some (.int x1), some (.int 1), some (.int x3), some (.int (x4 + 1)), none, none] [] u2 Q) ∧ (r2 = x1 → (((0 : Int32) ≤ x5 → Go g iX12_canbe 134 [some (.ref (gd g 12)), some (.int x1), none, some (.int x3), some (.int x4), none, some (.int t0)] [.int x5] u2 Q) ∧ (¬ (0 : Int32) ≤ x5 → Go g iX12_canbe 134 [some (.ref (gd g 12)), some (.int x1), none, some (.int x3), some (.int x4), none, some (.int t0)] [.int (-x5)] u2 Q))))))))))))) : Go g iX12_canbe 94 [some (.ref (gd g 12)), some (.int x1), some (.int x2), some (.int x3), some (.int x4), some (.int x5), none] [.int t0] u Q := by
  refine go_istore (lm := [some (.ref (gd g 12)), some (.int x1), some (.int x2), some (.int x3), some (.int x4), some (.int x5), some (.int t0)]) dX12_canbe_94 (by decide) rfl rfl ?_
  refine go_iload_n dX12_canbe_96 rfl rfl ?_
  refine go_if_eq (tgt := 143) dX12_canbe_97 (by decide) (fun hc => ?_) (fun hc => ?_)
  · replace h := h.1 hc
    refine go_iconst (v := 0) dX12_canbe_143 (by decide) ?_
    refine go_istore_n (lm := [some (.ref (gd g 12)), some (.int x1), some (.int 0), some (.int x3), some (.int x4), some (.int x5), some (.int t0)]) dX12_canbe_144 rfl (by decide) rfl rfl ?_
    refine go_iinc (v := x4 + 1) (lm := [some (.ref (gd g 12)), some (.int x1), some (.int 0), some (.int x3), some (.int (x4 + 1)), some (.int x5), some (.int t0)]) dX12_canbe_145 rfl rfl (by decide) rfl rfl ?_
    refine go_goto (tgt := 30) dX12_canbe_148 (by decide) ?_
    refine go_mask [true, true, true, true, true, false, false] rfl ?_
    exact h
  · replace h := h.2 hc
    refine go_aload_n dX12_canbe_100 rfl rfl ?_
    refine go_iload_n dX12_canbe_101 rfl rfl ?_
    refine go_iconst (v := 1) dX12_canbe_102 (by decide) ?_
    refine go_cVi (o := 12) (As := [.int x3, .int 1]) (st := []) (lc := [some (.ref (gd g 12)), some (.int x3), some (.int 1)]) dX12_canbe_103 me_X12_on rfl ob_12 qm_X12_343 rfl (Nat.le_of_ble_eq_true rfl) rfl ⟨Nat.le_of_ble_eq_true rfl, Nat.le_of_ble_eq_true rfl⟩ rfl (Nat.le_of_ble_eq_true rfl) h (fun r1 u1 h => ?_)
    refine go_iload_n dX12_canbe_106 rfl rfl ?_
    refine go_icmp_ne (tgt := 139) dX12_canbe_107 (by decide) (fun hc => ?_) (fun hc => ?_)
    · replace h := h.1 hc
      refine go_iconst (v := 1) dX12_canbe_139 (by decide) ?_
      refine go_goto (tgt := 144) dX12_canbe_140 (by decide) ?_
      refine go_istore_n (lm := [some (.ref (gd g 12)), some (.int x1), some (.int 1), some (.int x3), some (.int x4), some (.int x5), some (.int t0)]) dX12_canbe_144 rfl (by decide) rfl rfl ?_
      refine go_iinc (v := x4 + 1) (lm := [some (.ref (gd g 12)), some (.int x1), some (.int 1), some (.int x3), some (.int (x4 + 1)), some (.int x5), some (.int t0)]) dX12_canbe_145 rfl rfl (by decide) rfl rfl ?_
      refine go_goto (tgt := 30) dX12_canbe_148 (by decide) ?_
      refine go_mask [true, true, true, true, true, false, false] rfl ?_
      exact h
    · replace h := h.2 hc
      refine go_aload_n dX12_canbe_110 rfl rfl ?_
      refine go_iload dX12_canbe_111 rfl ?_
      refine go_iconst (v := 1) dX12_canbe_113 (by decide) ?_
      refine go_cVi (o := 12) (As := [.int x4, .int 1]) (st := []) (lc := [some (.ref (gd g 12)), some (.int x4), some (.int 1)]) dX12_canbe_114 me_X12_on rfl ob_12 qm_X12_343 rfl (Nat.le_of_ble_eq_true rfl) rfl ⟨Nat.le_of_ble_eq_true rfl, Nat.le_of_ble_eq_true rfl⟩ rfl (Nat.le_of_ble_eq_true rfl) h (fun r2 u2 h => ?_)
      refine go_iload_n dX12_canbe_117 rfl rfl ?_
      refine go_icmp_ne (tgt := 139) dX12_canbe_118 (by decide) (fun hc => ?_) (fun hc => ?_)
      · replace h := h.1 hc
        refine go_iconst (v := 1) dX12_canbe_139 (by decide) ?_
        refine go_goto (tgt := 144) dX12_canbe_140 (by decide) ?_
        refine go_istore_n (lm := [some (.ref (gd g 12)), some (.int x1), some (.int 1), some (.int x3), some (.int x4), some (.int x5), some (.int t0)]) dX12_canbe_144 rfl (by decide) rfl rfl ?_
        refine go_iinc (v := x4 + 1) (lm := [some (.ref (gd g 12)), some (.int x1), some (.int 1), some (.int x3), some (.int (x4 + 1)), some (.int x5), some (.int t0)]) dX12_canbe_145 rfl rfl (by decide) rfl rfl ?_
        refine go_goto (tgt := 30) dX12_canbe_148 (by decide) ?_
        refine go_mask [true, true, true, true, true, false, false] rfl ?_
        exact h
      · replace h := h.2 hc
        refine go_iload dX12_canbe_121 rfl ?_
        refine go_if_ge (tgt := 132) dX12_canbe_123 (by decide) (fun hc => ?_) (fun hc => ?_)
        · replace h := h.1 hc
          refine go_iload dX12_canbe_132 rfl ?_
          refine go_mask [true, true, false, true, true, false, true] rfl ?_
          exact h
        · replace h := h.2 hc
          refine go_iload dX12_canbe_126 rfl ?_
          refine go_ineg dX12_canbe_128 ?_
          refine go_goto (tgt := 134) dX12_canbe_129 (by decide) ?_
          refine go_mask [true, true, false, true, true, false, true] rfl ?_
          exact h
set_option maxRecDepth 100000 in
set_option maxHeartbeats 4000000 in
theorem B_X12_canbe_134 {g : gp} {u : sg} {Q : Option Value → sg → Prop} (x1 : Int32) (x3 : Int32) (x4 : Int32) (x6 : Int32) (t0 : Int32) (h : ((t0 < x6 → Go g iX12_canbe 30 [some (.ref (gd g 12)), some (.int x1), some (.int 0), some (.int x3), some (.int (x4 + 1)), none, none] [] u Q) ∧ (¬ t0 < x6 → Go g iX12_canbe 30 [some (.ref (gd g 12)), some (.int x1), some (.int 1), some (.int x3), some (.int (x4 + 1)), none, none] [] u Q))) : Go g iX12_canbe 134 [some (.ref (gd g 12)), some (.int x1), none, some (.int x3), some (.int x4), none, some (.int x6)] [.int t0] u Q := by
  refine go_iload dX12_canbe_134 rfl ?_
  refine go_icmp_lt (tgt := 143) dX12_canbe_136 (by decide) (fun hc => ?_) (fun hc => ?_)
  · replace h := h.1 hc
    refine go_iconst (v := 0) dX12_canbe_143 (by decide) ?_
    refine go_istore_n (lm := [some (.ref (gd g 12)), some (.int x1), some (.int 0), some (.int x3), some (.int x4), none, some (.int x6)]) dX12_canbe_144 rfl (by decide) rfl rfl ?_
    refine go_iinc (v := x4 + 1) (lm := [some (.ref (gd g 12)), some (.int x1), some (.int 0), some (.int x3), some (.int (x4 + 1)), none, some (.int x6)]) dX12_canbe_145 rfl rfl (by decide) rfl rfl ?_
    refine go_goto (tgt := 30) dX12_canbe_148 (by decide) ?_
    refine go_mask [true, true, true, true, true, true, false] rfl ?_
    exact h
  · replace h := h.2 hc
    refine go_iconst (v := 1) dX12_canbe_139 (by decide) ?_
    refine go_goto (tgt := 144) dX12_canbe_140 (by decide) ?_
    refine go_istore_n (lm := [some (.ref (gd g 12)), some (.int x1), some (.int 1), some (.int x3), some (.int x4), none, some (.int x6)]) dX12_canbe_144 rfl (by decide) rfl rfl ?_
    refine go_iinc (v := x4 + 1) (lm := [some (.ref (gd g 12)), some (.int x1), some (.int 1), some (.int x3), some (.int (x4 + 1)), none, some (.int x6)]) dX12_canbe_145 rfl rfl (by decide) rfl rfl ?_
    refine go_goto (tgt := 30) dX12_canbe_148 (by decide) ?_
    refine go_mask [true, true, true, true, true, true, false] rfl ?_
    exact h
set_option maxRecDepth 100000 in
set_option maxHeartbeats 4000000 in
theorem B_X12_lets_0 {g : gp} {u : sg} {Q : Option Value → sg → Prop} (x1 : Int32) (x2 : Int32) (x3 : Int32) (x4 : Int32) (h : Go g iX12_isPass 0 [some (.ref (gd g 12)), some (.int x1)] [] (sI u 12 0 (0 : Int32)) (QI (fun r1 u1 => ((r1 = (0 : Int32) → Q (some (.int (-1000001 : Int32))) u1) ∧ (¬ r1 = (0 : Int32) → Go g iX12_isDay 0 [some (.int x2)] [] u1 (QI (fun r2 u2 => ((r2 = (0 : Int32) → Q (some (.int (-1000001 : Int32))) u2) ∧ (¬ r2 = (0 : Int32) → Go g iX12_isGate 0 [some (.int x3)] [] u2 (QI (fun r3 u3 => ((r3 = (0 : Int32) → Q (some (.int (-1000001 : Int32))) u3) ∧ (¬ r3 = (0 : Int32) → Go g iX12_isMinute 0 [some (.int x4)] [] u3 (QI (fun r4 u4 => ((¬ r4 = (0 : Int32) → Go g iX12_on 0 [some (.ref (gd g 12)), some (.int x1), some (.int 1)] [] u4 (QI (fun r5 u5 => Go g iX12_isBanned 0 [some (.ref (gd g 12)), some (.int r5), some (.int x2), none] [] u5 (QI (fun r6 u6 => ((¬ r6 = (0 : Int32) → Q (some (.int (0 : Int32))) u6) ∧ (r6 = (0 : Int32) → Go g iX12_on 0 [some (.ref (gd g 12)), some (.int x1), some (.int 6)] [] u6 (QI (fun r7 u7 => ((r7 < x2 → Q (some (.int (0 : Int32))) u7) ∧ (¬ r7 < x2 → Go g iX12_on 0 [some (.ref (gd g 12)), some (.int x1), some (.int 5)] [] u7 (QI (fun r8 u8 => Go g iX12_on 0 [some (.ref (gd g 12)), some (.int x1), some (.int 4)] [] u8 (QI (fun r9 u9 => (vp_in (64 + r9) 72 ∧ (((x2 - r8) < (u9.2 71 (64 + r9).toNatClampNeg) → Q (some (.int (0 : Int32))) u9) ∧ (¬ (x2 - r8) < (u9.2 71 (64 + r9).toNatClampNeg) → Go g iX12_isForged 0 [some (.ref (gd g 12)), some (.int x1), some (.int x2), none, none] [] u9 (QI (fun r10 u10 => ((¬ r10 = (0 : Int32) → Q (some (.int (0 : Int32))) u10) ∧ (r10 = (0 : Int32) → Go g iX12_isOpen 0 [some (.ref (gd g 12)), some (.int x3), some (.int x4)] [] u10 (QI (fun r11 u11 => ((¬ r11 = (0 : Int32) → Go g iX12_lets 117 [none, none, none, none, none, none] [] u11 Q) ∧ (r11 = (0 : Int32) → Go g iX12_on 0 [some (.ref (gd g 12)), some (.int x1), some (.int 0)] [] u11 (QI (fun r12 u12 => ((¬ r12 = (3 : Int32) → Q (some (.int (0 : Int32))) u12) ∧ (r12 = (3 : Int32) → Go g iX12_lets 117 [none, none, none, none, none, none] [] u12 Q)))))))))))))))))))))))))))))) ∧ (r4 = (0 : Int32) → Q (some (.int (-1000001 : Int32))) u4))))))))))))))))) : Go g iX12_lets 0 [some (.ref (gd g 12)), some (.int x1), some (.int x2), some (.int x3), some (.int x4), none] [] u Q := by
  refine go_aload_n dX12_lets_0 rfl rfl ?_
  refine go_iconst (v := 0) dX12_lets_1 (by decide) ?_
  refine go_put (k := 0) dX12_lets_2 ob_12 (by decide) qf_X12_1 rfl rfl pf_I ?_
  refine go_aload_n dX12_lets_5 rfl rfl ?_
  refine go_iload_n dX12_lets_6 rfl rfl ?_
  refine go_cVi (o := 12) (As := [.int x1]) (st := []) (lc := [some (.ref (gd g 12)), some (.int x1)]) dX12_lets_7 me_X12_isPass rfl ob_12 qm_X12_353 rfl (Nat.le_of_ble_eq_true rfl) rfl ⟨Nat.le_of_ble_eq_true rfl, Nat.le_of_ble_eq_true rfl⟩ rfl (Nat.le_of_ble_eq_true rfl) h (fun r1 u1 h => ?_)
  refine go_if_eq (tgt := 35) dX12_lets_10 (by decide) (fun hc => ?_) (fun hc => ?_)
  · replace h := h.1 hc
    refine go_ldc dX12_lets_35 qc_X12_142 ?_
    exact go_iret dX12_lets_37 rfl h
  · replace h := h.2 hc
    refine go_iload_n dX12_lets_13 rfl rfl ?_
    refine go_cSi (As := [.int x2]) (st := []) (lc := [some (.int x2)]) dX12_lets_14 me_X12_isDay qm_X12_258 rfl (Nat.le_of_ble_eq_true rfl) rfl ⟨Nat.le_of_ble_eq_true rfl, Nat.le_of_ble_eq_true rfl⟩ rfl (Nat.le_of_ble_eq_true rfl) h (fun r2 u2 h => ?_)
    refine go_if_eq (tgt := 35) dX12_lets_17 (by decide) (fun hc => ?_) (fun hc => ?_)
    · replace h := h.1 hc
      refine go_ldc dX12_lets_35 qc_X12_142 ?_
      exact go_iret dX12_lets_37 rfl h
    · replace h := h.2 hc
      refine go_iload_n dX12_lets_20 rfl rfl ?_
      refine go_cSi (As := [.int x3]) (st := []) (lc := [some (.int x3)]) dX12_lets_21 me_X12_isGate qm_X12_153 rfl (Nat.le_of_ble_eq_true rfl) rfl ⟨Nat.le_of_ble_eq_true rfl, Nat.le_of_ble_eq_true rfl⟩ rfl (Nat.le_of_ble_eq_true rfl) h (fun r3 u3 h => ?_)
      refine go_if_eq (tgt := 35) dX12_lets_24 (by decide) (fun hc => ?_) (fun hc => ?_)
      · replace h := h.1 hc
        refine go_ldc dX12_lets_35 qc_X12_142 ?_
        exact go_iret dX12_lets_37 rfl h
      · replace h := h.2 hc
        refine go_iload dX12_lets_27 rfl ?_
        refine go_cSi (As := [.int x4]) (st := []) (lc := [some (.int x4)]) dX12_lets_29 me_X12_isMinute qm_X12_156 rfl (Nat.le_of_ble_eq_true rfl) rfl ⟨Nat.le_of_ble_eq_true rfl, Nat.le_of_ble_eq_true rfl⟩ rfl (Nat.le_of_ble_eq_true rfl) h (fun r4 u4 h => ?_)
        refine go_if_ne (tgt := 38) dX12_lets_32 (by decide) (fun hc => ?_) (fun hc => ?_)
        · replace h := h.1 hc
          refine go_aload_n dX12_lets_38 rfl rfl ?_
          refine go_aload_n dX12_lets_39 rfl rfl ?_
          refine go_iload_n dX12_lets_40 rfl rfl ?_
          refine go_iconst (v := 1) dX12_lets_41 (by decide) ?_
          refine go_cVi (o := 12) (As := [.int x1, .int 1]) (st := [.ref (gd g 12)]) (lc := [some (.ref (gd g 12)), some (.int x1), some (.int 1)]) dX12_lets_42 me_X12_on rfl ob_12 qm_X12_343 rfl (Nat.le_of_ble_eq_true rfl) rfl ⟨Nat.le_of_ble_eq_true rfl, Nat.le_of_ble_eq_true rfl⟩ rfl (Nat.le_of_ble_eq_true rfl) h (fun r5 u5 h => ?_)
          refine go_iload_n dX12_lets_45 rfl rfl ?_
          refine go_cVi (o := 12) (As := [.int r5, .int x2]) (st := []) (lc := [some (.ref (gd g 12)), some (.int r5), some (.int x2), none]) dX12_lets_46 me_X12_isBanned rfl ob_12 qm_X12_284 rfl (Nat.le_of_ble_eq_true rfl) rfl ⟨Nat.le_of_ble_eq_true rfl, Nat.le_of_ble_eq_true rfl⟩ rfl (Nat.le_of_ble_eq_true rfl) h (fun r6 u6 h => ?_)
          refine go_if_ne (tgt := 121) dX12_lets_49 (by decide) (fun hc => ?_) (fun hc => ?_)
          · replace h := h.1 hc
            refine go_iconst (v := 0) dX12_lets_121 (by decide) ?_
            refine go_istore (lm := [some (.ref (gd g 12)), some (.int x1), some (.int x2), some (.int x3), some (.int x4), some (.int 0)]) dX12_lets_122 (by decide) rfl rfl ?_
            refine go_iload dX12_lets_124 rfl ?_
            refine go_if_eq (tgt := 133) dX12_lets_126 (by decide) (fun _ => ?_) (fun hc => absurd hc (by decide))
            refine go_iconst (v := 0) dX12_lets_133 (by decide) ?_
            exact go_iret dX12_lets_134 rfl h
          · replace h := h.2 hc
            refine go_iload_n dX12_lets_52 rfl rfl ?_
            refine go_aload_n dX12_lets_53 rfl rfl ?_
            refine go_iload_n dX12_lets_54 rfl rfl ?_
            refine go_bipush (v := 6) dX12_lets_55 (by decide) ?_
            refine go_cVi (o := 12) (As := [.int x1, .int 6]) (st := [.int x2]) (lc := [some (.ref (gd g 12)), some (.int x1), some (.int 6)]) dX12_lets_57 me_X12_on rfl ob_12 qm_X12_343 rfl (Nat.le_of_ble_eq_true rfl) rfl ⟨Nat.le_of_ble_eq_true rfl, Nat.le_of_ble_eq_true rfl⟩ rfl (Nat.le_of_ble_eq_true rfl) h (fun r7 u7 h => ?_)
            refine go_icmp_gt (tgt := 121) dX12_lets_60 (by decide) (fun hc => ?_) (fun hc => ?_)
            · replace h := h.1 hc
              refine go_iconst (v := 0) dX12_lets_121 (by decide) ?_
              refine go_istore (lm := [some (.ref (gd g 12)), some (.int x1), some (.int x2), some (.int x3), some (.int x4), some (.int 0)]) dX12_lets_122 (by decide) rfl rfl ?_
              refine go_iload dX12_lets_124 rfl ?_
              refine go_if_eq (tgt := 133) dX12_lets_126 (by decide) (fun _ => ?_) (fun hc => absurd hc (by decide))
              refine go_iconst (v := 0) dX12_lets_133 (by decide) ?_
              exact go_iret dX12_lets_134 rfl h
            · replace h := h.2 hc
              refine go_iload_n dX12_lets_63 rfl rfl ?_
              refine go_aload_n dX12_lets_64 rfl rfl ?_
              refine go_iload_n dX12_lets_65 rfl rfl ?_
              refine go_iconst (v := 5) dX12_lets_66 (by decide) ?_
              refine go_cVi (o := 12) (As := [.int x1, .int 5]) (st := [.int x2]) (lc := [some (.ref (gd g 12)), some (.int x1), some (.int 5)]) dX12_lets_67 me_X12_on rfl ob_12 qm_X12_343 rfl (Nat.le_of_ble_eq_true rfl) rfl ⟨Nat.le_of_ble_eq_true rfl, Nat.le_of_ble_eq_true rfl⟩ rfl (Nat.le_of_ble_eq_true rfl) h (fun r8 u8 h => ?_)
              refine go_isub dX12_lets_70 ?_
              refine go_aload_n dX12_lets_71 rfl rfl ?_
              refine go_get (k := 37) (v := .ref (gd g 71)) dX12_lets_72 ob_12 (by decide) qf_X12_75 rfl ?_
              refine go_bipush (v := 64) dX12_lets_75 (by decide) ?_
              refine go_aload_n dX12_lets_77 rfl rfl ?_
              refine go_iload_n dX12_lets_78 rfl rfl ?_
              refine go_iconst (v := 4) dX12_lets_79 (by decide) ?_
              refine go_cVi (o := 12) (As := [.int x1, .int 4]) (st := [.int 64, .ref (gd g 71), .int (x2 - r8)]) (lc := [some (.ref (gd g 12)), some (.int x1), some (.int 4)]) dX12_lets_80 me_X12_on rfl ob_12 qm_X12_343 rfl (Nat.le_of_ble_eq_true rfl) rfl ⟨Nat.le_of_ble_eq_true rfl, Nat.le_of_ble_eq_true rfl⟩ rfl (Nat.le_of_ble_eq_true rfl) h (fun r9 u9 h => ?_)
              refine go_iadd dX12_lets_83 ?_
              obtain ⟨hi, h⟩ := h
              refine go_ild (a := 71) (n := 72) dX12_lets_84 (by decide) (by decide) rfl hi ?_
              refine go_icmp_lt (tgt := 121) dX12_lets_85 (by decide) (fun hc => ?_) (fun hc => ?_)
              · replace h := h.1 hc
                refine go_iconst (v := 0) dX12_lets_121 (by decide) ?_
                refine go_istore (lm := [some (.ref (gd g 12)), some (.int x1), some (.int x2), some (.int x3), some (.int x4), some (.int 0)]) dX12_lets_122 (by decide) rfl rfl ?_
                refine go_iload dX12_lets_124 rfl ?_
                refine go_if_eq (tgt := 133) dX12_lets_126 (by decide) (fun _ => ?_) (fun hc => absurd hc (by decide))
                refine go_iconst (v := 0) dX12_lets_133 (by decide) ?_
                exact go_iret dX12_lets_134 rfl h
              · replace h := h.2 hc
                refine go_aload_n dX12_lets_88 rfl rfl ?_
                refine go_iload_n dX12_lets_89 rfl rfl ?_
                refine go_iload_n dX12_lets_90 rfl rfl ?_
                refine go_cVi (o := 12) (As := [.int x1, .int x2]) (st := []) (lc := [some (.ref (gd g 12)), some (.int x1), some (.int x2), none, none]) dX12_lets_91 me_X12_isForged rfl ob_12 qm_X12_350 rfl (Nat.le_of_ble_eq_true rfl) rfl ⟨Nat.le_of_ble_eq_true rfl, Nat.le_of_ble_eq_true rfl⟩ rfl (Nat.le_of_ble_eq_true rfl) h (fun r10 u10 h => ?_)
                refine go_if_ne (tgt := 121) dX12_lets_94 (by decide) (fun hc => ?_) (fun hc => ?_)
                · replace h := h.1 hc
                  refine go_iconst (v := 0) dX12_lets_121 (by decide) ?_
                  refine go_istore (lm := [some (.ref (gd g 12)), some (.int x1), some (.int x2), some (.int x3), some (.int x4), some (.int 0)]) dX12_lets_122 (by decide) rfl rfl ?_
                  refine go_iload dX12_lets_124 rfl ?_
                  refine go_if_eq (tgt := 133) dX12_lets_126 (by decide) (fun _ => ?_) (fun hc => absurd hc (by decide))
                  refine go_iconst (v := 0) dX12_lets_133 (by decide) ?_
                  exact go_iret dX12_lets_134 rfl h
                · replace h := h.2 hc
                  refine go_aload_n dX12_lets_97 rfl rfl ?_
                  refine go_iload_n dX12_lets_98 rfl rfl ?_
                  refine go_iload dX12_lets_99 rfl ?_
                  refine go_cVi (o := 12) (As := [.int x3, .int x4]) (st := []) (lc := [some (.ref (gd g 12)), some (.int x3), some (.int x4)]) dX12_lets_101 me_X12_isOpen rfl ob_12 qm_X12_317 rfl (Nat.le_of_ble_eq_true rfl) rfl ⟨Nat.le_of_ble_eq_true rfl, Nat.le_of_ble_eq_true rfl⟩ rfl (Nat.le_of_ble_eq_true rfl) h (fun r11 u11 h => ?_)
                  refine go_if_ne (tgt := 117) dX12_lets_104 (by decide) (fun hc => ?_) (fun hc => ?_)
                  · replace h := h.1 hc
                    refine go_mask [false, false, false, false, false, true] rfl ?_
                    exact h
                  · replace h := h.2 hc
                    refine go_aload_n dX12_lets_107 rfl rfl ?_
                    refine go_iload_n dX12_lets_108 rfl rfl ?_
                    refine go_iconst (v := 0) dX12_lets_109 (by decide) ?_
                    refine go_cVi (o := 12) (As := [.int x1, .int 0]) (st := []) (lc := [some (.ref (gd g 12)), some (.int x1), some (.int 0)]) dX12_lets_110 me_X12_on rfl ob_12 qm_X12_343 rfl (Nat.le_of_ble_eq_true rfl) rfl ⟨Nat.le_of_ble_eq_true rfl, Nat.le_of_ble_eq_true rfl⟩ rfl (Nat.le_of_ble_eq_true rfl) h (fun r12 u12 h => ?_)
                    refine go_iconst (v := 3) dX12_lets_113 (by decide) ?_
                    refine go_icmp_ne (tgt := 121) dX12_lets_114 (by decide) (fun hc => ?_) (fun hc => ?_)
                    · replace h := h.1 hc
                      refine go_iconst (v := 0) dX12_lets_121 (by decide) ?_
                      refine go_istore (lm := [some (.ref (gd g 12)), some (.int x1), some (.int x2), some (.int x3), some (.int x4), some (.int 0)]) dX12_lets_122 (by decide) rfl rfl ?_
                      refine go_iload dX12_lets_124 rfl ?_
                      refine go_if_eq (tgt := 133) dX12_lets_126 (by decide) (fun _ => ?_) (fun hc => absurd hc (by decide))
                      refine go_iconst (v := 0) dX12_lets_133 (by decide) ?_
                      exact go_iret dX12_lets_134 rfl h
                    · replace h := h.2 hc
                      refine go_mask [false, false, false, false, false, true] rfl ?_
                      exact h
        · replace h := h.2 hc
          refine go_ldc dX12_lets_35 qc_X12_142 ?_
          exact go_iret dX12_lets_37 rfl h
set_option maxRecDepth 100000 in
set_option maxHeartbeats 4000000 in
theorem B_X12_lets_117 {g : gp} {u : sg} {Q : Option Value → sg → Prop}  (h : Q (some (.int (1 : Int32))) u) : Go g iX12_lets 117 [none, none, none, none, none, none] [] u Q := by
  refine go_iconst (v := 1) dX12_lets_117 (by decide) ?_
  refine go_goto (tgt := 122) dX12_lets_118 (by decide) ?_
  refine go_istore (lm := [none, none, none, none, none, some (.int 1)]) dX12_lets_122 (by decide) rfl rfl ?_
  refine go_iload dX12_lets_124 rfl ?_
  refine go_if_eq (tgt := 133) dX12_lets_126 (by decide) (fun hc => absurd hc (by decide)) (fun _ => ?_)
  refine go_iconst (v := 1) dX12_lets_129 (by decide) ?_
  refine go_goto (tgt := 134) dX12_lets_130 (by decide) ?_
  exact go_iret dX12_lets_134 rfl h
set_option maxRecDepth 100000 in
set_option maxHeartbeats 4000000 in
theorem B_X12_far_0 {g : gp} {u : sg} {Q : Option Value → sg → Prop} (x0 : Int32) (x1 : Int32) (h : ((x1 ≤ x0 → Q (some (.int (x0 - x1))) u) ∧ (¬ x1 ≤ x0 → Q (some (.int (x1 - x0))) u))) : Go g iX12_far 0 [some (.int x0), some (.int x1)] [] u Q := by
  refine go_iload_n dX12_far_0 rfl rfl ?_
  refine go_iload_n dX12_far_1 rfl rfl ?_
  refine go_icmp_ge (tgt := 11) dX12_far_2 (by decide) (fun hc => ?_) (fun hc => ?_)
  · replace h := h.1 hc
    refine go_iload_n dX12_far_11 rfl rfl ?_
    refine go_iload_n dX12_far_12 rfl rfl ?_
    refine go_isub dX12_far_13 ?_
    exact go_iret dX12_far_14 rfl h
  · replace h := h.2 hc
    refine go_iload_n dX12_far_5 rfl rfl ?_
    refine go_iload_n dX12_far_6 rfl rfl ?_
    refine go_isub dX12_far_7 ?_
    refine go_goto (tgt := 14) dX12_far_8 (by decide) ?_
    exact go_iret dX12_far_14 rfl h
set_option maxRecDepth 100000 in
set_option maxHeartbeats 4000000 in
theorem B_X12_dusk_0 {g : gp} {u : sg} {Q : Option Value → sg → Prop} (x1 : Int32) (x2 : Int32) (x3 : Int32) (x4 : Int32) (h : Go g iX12_isSpot 0 [some (.int x1), some (.int x2)] [] (sI u 12 0 (0 : Int32)) (QI (fun r1 u1 => ((r1 = (0 : Int32) → Q (some (.int (-1000001 : Int32))) u1) ∧ (¬ r1 = (0 : Int32) → Go g iX12_isMinute 0 [some (.int x3)] [] u1 (QI (fun r2 u2 => ((r2 = (0 : Int32) → Q (some (.int (-1000001 : Int32))) u2) ∧ (¬ r2 = (0 : Int32) → Go g iX12_in 0 [some (.long (x4.toInt64)), none, some (.long 1), none, some (.long 60), none] [] u2 (QI (fun r3 u3 => ((¬ r3 = (0 : Int32) → Go g iX12_dusk 46 [some (.ref (gd g 12)), some (.int x1), some (.int x2), some (.int x3), some (.int x4), some (.int ((-1000000))), some (.int 0), some (.int 0), none] [] u3 Q) ∧ (r3 = (0 : Int32) → Q (some (.int (-1000001 : Int32))) u3))))))))))))) : Go g iX12_dusk 0 [some (.ref (gd g 12)), some (.int x1), some (.int x2), some (.int x3), some (.int x4), none, none, none, none] [] u Q := by
  refine go_aload_n dX12_dusk_0 rfl rfl ?_
  refine go_iconst (v := 0) dX12_dusk_1 (by decide) ?_
  refine go_put (k := 0) dX12_dusk_2 ob_12 (by decide) qf_X12_1 rfl rfl pf_I ?_
  refine go_iload_n dX12_dusk_5 rfl rfl ?_
  refine go_iload_n dX12_dusk_6 rfl rfl ?_
  refine go_cSi (As := [.int x1, .int x2]) (st := []) (lc := [some (.int x1), some (.int x2)]) dX12_dusk_7 me_X12_isSpot qm_X12_163 rfl (Nat.le_of_ble_eq_true rfl) rfl ⟨Nat.le_of_ble_eq_true rfl, Nat.le_of_ble_eq_true rfl⟩ rfl (Nat.le_of_ble_eq_true rfl) h (fun r1 u1 h => ?_)
  refine go_if_eq (tgt := 33) dX12_dusk_10 (by decide) (fun hc => ?_) (fun hc => ?_)
  · replace h := h.1 hc
    refine go_ldc dX12_dusk_33 qc_X12_142 ?_
    exact go_iret dX12_dusk_35 rfl h
  · replace h := h.2 hc
    refine go_iload_n dX12_dusk_13 rfl rfl ?_
    refine go_cSi (As := [.int x3]) (st := []) (lc := [some (.int x3)]) dX12_dusk_14 me_X12_isMinute qm_X12_156 rfl (Nat.le_of_ble_eq_true rfl) rfl ⟨Nat.le_of_ble_eq_true rfl, Nat.le_of_ble_eq_true rfl⟩ rfl (Nat.le_of_ble_eq_true rfl) h (fun r2 u2 h => ?_)
    refine go_if_eq (tgt := 33) dX12_dusk_17 (by decide) (fun hc => ?_) (fun hc => ?_)
    · replace h := h.1 hc
      refine go_ldc dX12_dusk_33 qc_X12_142 ?_
      exact go_iret dX12_dusk_35 rfl h
    · replace h := h.2 hc
      refine go_iload dX12_dusk_20 rfl ?_
      refine go_i2l dX12_dusk_22 ?_
      refine go_lconst (v := 1) dX12_dusk_23 (by decide) ?_
      refine go_ldc2 dX12_dusk_24 ql_X12_328 ?_
      refine go_cSi (As := [.long (x4.toInt64), .long 1, .long 60]) (st := []) (lc := [some (.long (x4.toInt64)), none, some (.long 1), none, some (.long 60), none]) dX12_dusk_27 me_X12_in qm_X12_132 rfl (Nat.le_of_ble_eq_true rfl) rfl ⟨Nat.le_of_ble_eq_true rfl, Nat.le_of_ble_eq_true rfl⟩ rfl (Nat.le_of_ble_eq_true rfl) h (fun r3 u3 h => ?_)
      refine go_if_ne (tgt := 36) dX12_dusk_30 (by decide) (fun hc => ?_) (fun hc => ?_)
      · replace h := h.1 hc
        refine go_ldc dX12_dusk_36 qc_X12_129 ?_
        refine go_istore (lm := [some (.ref (gd g 12)), some (.int x1), some (.int x2), some (.int x3), some (.int x4), some (.int ((-1000000))), none, none, none]) dX12_dusk_38 (by decide) rfl rfl ?_
        refine go_iconst (v := 0) dX12_dusk_40 (by decide) ?_
        refine go_istore (lm := [some (.ref (gd g 12)), some (.int x1), some (.int x2), some (.int x3), some (.int x4), some (.int ((-1000000))), some (.int 0), none, none]) dX12_dusk_41 (by decide) rfl rfl ?_
        refine go_iconst (v := 0) dX12_dusk_43 (by decide) ?_
        refine go_istore (lm := [some (.ref (gd g 12)), some (.int x1), some (.int x2), some (.int x3), some (.int x4), some (.int ((-1000000))), some (.int 0), some (.int 0), none]) dX12_dusk_44 (by decide) rfl rfl ?_
        exact h
      · replace h := h.2 hc
        refine go_ldc dX12_dusk_33 qc_X12_142 ?_
        exact go_iret dX12_dusk_35 rfl h
set_option maxRecDepth 100000 in
set_option maxHeartbeats 4000000 in
theorem B_X12_dusk_46 {g : gp} {u : sg} {Q : Option Value → sg → Prop} (x1 : Int32) (x2 : Int32) (x3 : Int32) (x4 : Int32) (x5 : Int32) (x6 : Int32) (x7 : Int32) (h : (((9 : Int32) ≤ x7 → Q (some (.int x5)) u) ∧ (¬ (9 : Int32) ≤ x7 → (vp_in x7 9 ∧ Go g iX12_far 0 [some (.int x1), some (.int (u.2 58 x7.toNatClampNeg))] [] u (QI (fun r1 u1 => (vp_in x7 9 ∧ Go g iX12_far 0 [some (.int x2), some (.int (u1.2 59 x7.toNatClampNeg))] [] u1 (QI (fun r2 u2 => (vp_in x7 9 ∧ (((u2.2 55 x7.toNatClampNeg) ≤ (x3 + (((r1 + r2) * x4) / 100)) → Go g iX12_dusk 110 [some (.ref (gd g 12)), some (.int x1), some (.int x2), some (.int x3), some (.int x4), some (.int x5), some (.int x6), some (.int x7), none] [.int (x3 + (((r1 + r2) * x4) / 100))] u2 Q) ∧ (¬ (u2.2 55 x7.toNatClampNeg) ≤ (x3 + (((r1 + r2) * x4) / 100)) → (vp_in x7 9 ∧ Go g iX12_dusk 110 [some (.ref (gd g 12)), some (.int x1), some (.int x2), some (.int x3), some (.int x4), some (.int x5), some (.int x6), some (.int x7), none] [.int (u2.2 55 x7.toNatClampNeg)] u2 Q))))))))))))) : Go g iX12_dusk 46 [some (.ref (gd g 12)), some (.int x1), some (.int x2), some (.int x3), some (.int x4), some (.int x5), some (.int x6), some (.int x7), none] [] u Q := by
  refine go_iload dX12_dusk_46 rfl ?_
  refine go_bipush (v := 9) dX12_dusk_48 (by decide) ?_
  refine go_icmp_ge (tgt := 152) dX12_dusk_50 (by decide) (fun hc => ?_) (fun hc => ?_)
  · replace h := h.1 hc
    refine go_iload dX12_dusk_152 rfl ?_
    exact go_iret dX12_dusk_154 rfl h
  · replace h := h.2 hc
    refine go_iload_n dX12_dusk_53 rfl rfl ?_
    refine go_iload_n dX12_dusk_54 rfl rfl ?_
    refine go_aload_n dX12_dusk_55 rfl rfl ?_
    refine go_get (k := 8) (v := .ref (gd g 58)) dX12_dusk_56 ob_12 (by decide) qf_X12_36 rfl ?_
    refine go_iload dX12_dusk_59 rfl ?_
    obtain ⟨hi, h⟩ := h
    refine go_ild (a := 58) (n := 9) dX12_dusk_61 (by decide) (by decide) rfl hi ?_
    refine go_cSi (As := [.int x1, .int (u.2 58 x7.toNatClampNeg)]) (st := [.int x3]) (lc := [some (.int x1), some (.int (u.2 58 x7.toNatClampNeg))]) dX12_dusk_62 me_X12_far qm_X12_356 rfl (Nat.le_of_ble_eq_true rfl) rfl ⟨Nat.le_of_ble_eq_true rfl, Nat.le_of_ble_eq_true rfl⟩ rfl (Nat.le_of_ble_eq_true rfl) h (fun r1 u1 h => ?_)
    refine go_iload_n dX12_dusk_65 rfl rfl ?_
    refine go_aload_n dX12_dusk_66 rfl rfl ?_
    refine go_get (k := 9) (v := .ref (gd g 59)) dX12_dusk_67 ob_12 (by decide) qf_X12_39 rfl ?_
    refine go_iload dX12_dusk_70 rfl ?_
    obtain ⟨hi, h⟩ := h
    refine go_ild (a := 59) (n := 9) dX12_dusk_72 (by decide) (by decide) rfl hi ?_
    refine go_cSi (As := [.int x2, .int (u1.2 59 x7.toNatClampNeg)]) (st := [.int r1, .int x3]) (lc := [some (.int x2), some (.int (u1.2 59 x7.toNatClampNeg))]) dX12_dusk_73 me_X12_far qm_X12_356 rfl (Nat.le_of_ble_eq_true rfl) rfl ⟨Nat.le_of_ble_eq_true rfl, Nat.le_of_ble_eq_true rfl⟩ rfl (Nat.le_of_ble_eq_true rfl) h (fun r2 u2 h => ?_)
    refine go_iadd dX12_dusk_76 ?_
    refine go_iload dX12_dusk_77 rfl ?_
    refine go_imul dX12_dusk_79 ?_
    refine go_bipush (v := 100) dX12_dusk_80 (by decide) ?_
    refine go_idiv dX12_dusk_82 (by decide) ?_
    refine go_iadd dX12_dusk_83 ?_
    refine go_istore (lm := [some (.ref (gd g 12)), some (.int x1), some (.int x2), some (.int x3), some (.int x4), some (.int x5), some (.int x6), some (.int x7), some (.int (x3 + (((r1 + r2) * x4) / 100)))]) dX12_dusk_84 (by decide) rfl rfl ?_
    refine go_iload dX12_dusk_86 rfl ?_
    refine go_aload_n dX12_dusk_88 rfl rfl ?_
    refine go_get (k := 5) (v := .ref (gd g 55)) dX12_dusk_89 ob_12 (by decide) qf_X12_27 rfl ?_
    refine go_iload dX12_dusk_92 rfl ?_
    obtain ⟨hi, h⟩ := h
    refine go_ild (a := 55) (n := 9) dX12_dusk_94 (by decide) (by decide) rfl hi ?_
    refine go_icmp_ge (tgt := 108) dX12_dusk_95 (by decide) (fun hc => ?_) (fun hc => ?_)
    · replace h := h.1 hc
      refine go_iload dX12_dusk_108 rfl ?_
      refine go_mask [true, true, true, true, true, true, true, true, false] rfl ?_
      exact h
    · replace h := h.2 hc
      refine go_aload_n dX12_dusk_98 rfl rfl ?_
      refine go_get (k := 5) (v := .ref (gd g 55)) dX12_dusk_99 ob_12 (by decide) qf_X12_27 rfl ?_
      refine go_iload dX12_dusk_102 rfl ?_
      obtain ⟨hi, h⟩ := h
      refine go_ild (a := 55) (n := 9) dX12_dusk_104 (by decide) (by decide) rfl hi ?_
      refine go_goto (tgt := 110) dX12_dusk_105 (by decide) ?_
      refine go_mask [true, true, true, true, true, true, true, true, false] rfl ?_
      exact h
set_option maxRecDepth 100000 in
set_option maxHeartbeats 4000000 in
theorem B_X12_dusk_110 {g : gp} {u : sg} {Q : Option Value → sg → Prop} (x1 : Int32) (x2 : Int32) (x3 : Int32) (x4 : Int32) (x5 : Int32) (x6 : Int32) (x7 : Int32) (t0 : Int32) (h : (vp_in x7 9 ∧ (((u.2 56 x7.toNatClampNeg) ≤ t0 → Go g iX12_dusk 46 [some (.ref (gd g 12)), some (.int x1), some (.int x2), some (.int x3), some (.int x4), some (.int x5), some (.int x6), some (.int (x7 + 1)), none] [] u Q) ∧ (¬ (u.2 56 x7.toNatClampNeg) ≤ t0 → ((x5 = (-1000000 : Int32) → Go g iX12_dusk 46 [some (.ref (gd g 12)), some (.int x1), some (.int x2), some (.int x3), some (.int x4), some (.int x7), some (.int t0), some (.int (x7 + 1)), none] [] u Q) ∧ (¬ x5 = (-1000000 : Int32) → ((x6 ≤ t0 → Go g iX12_dusk 46 [some (.ref (gd g 12)), some (.int x1), some (.int x2), some (.int x3), some (.int x4), some (.int x5), some (.int x6), some (.int (x7 + 1)), none] [] u Q) ∧ (¬ x6 ≤ t0 → Go g iX12_dusk 46 [some (.ref (gd g 12)), some (.int x1), some (.int x2), some (.int x3), some (.int x4), some (.int x7), some (.int t0), some (.int (x7 + 1)), none] [] u Q)))))))) : Go g iX12_dusk 110 [some (.ref (gd g 12)), some (.int x1), some (.int x2), some (.int x3), some (.int x4), some (.int x5), some (.int x6), some (.int x7), none] [.int t0] u Q := by
  refine go_istore (lm := [some (.ref (gd g 12)), some (.int x1), some (.int x2), some (.int x3), some (.int x4), some (.int x5), some (.int x6), some (.int x7), some (.int t0)]) dX12_dusk_110 (by decide) rfl rfl ?_
  refine go_iload dX12_dusk_112 rfl ?_
  refine go_aload_n dX12_dusk_114 rfl rfl ?_
  refine go_get (k := 6) (v := .ref (gd g 56)) dX12_dusk_115 ob_12 (by decide) qf_X12_30 rfl ?_
  refine go_iload dX12_dusk_118 rfl ?_
  obtain ⟨hi, h⟩ := h
  refine go_ild (a := 56) (n := 9) dX12_dusk_120 (by decide) (by decide) rfl hi ?_
  refine go_icmp_ge (tgt := 146) dX12_dusk_121 (by decide) (fun hc => ?_) (fun hc => ?_)
  · replace h := h.1 hc
    refine go_iinc (v := x7 + 1) (lm := [some (.ref (gd g 12)), some (.int x1), some (.int x2), some (.int x3), some (.int x4), some (.int x5), some (.int x6), some (.int (x7 + 1)), some (.int t0)]) dX12_dusk_146 rfl rfl (by decide) rfl rfl ?_
    refine go_goto (tgt := 46) dX12_dusk_149 (by decide) ?_
    refine go_mask [true, true, true, true, true, true, true, true, false] rfl ?_
    exact h
  · replace h := h.2 hc
    refine go_iload dX12_dusk_124 rfl ?_
    refine go_ldc dX12_dusk_126 qc_X12_129 ?_
    refine go_icmp_eq (tgt := 138) dX12_dusk_128 (by decide) (fun hc => ?_) (fun hc => ?_)
    · replace h := h.1 hc
      refine go_iload dX12_dusk_138 rfl ?_
      refine go_istore (lm := [some (.ref (gd g 12)), some (.int x1), some (.int x2), some (.int x3), some (.int x4), some (.int x7), some (.int x6), some (.int x7), some (.int t0)]) dX12_dusk_140 (by decide) rfl rfl ?_
      refine go_iload dX12_dusk_142 rfl ?_
      refine go_istore (lm := [some (.ref (gd g 12)), some (.int x1), some (.int x2), some (.int x3), some (.int x4), some (.int x7), some (.int t0), some (.int x7), some (.int t0)]) dX12_dusk_144 (by decide) rfl rfl ?_
      refine go_iinc (v := x7 + 1) (lm := [some (.ref (gd g 12)), some (.int x1), some (.int x2), some (.int x3), some (.int x4), some (.int x7), some (.int t0), some (.int (x7 + 1)), some (.int t0)]) dX12_dusk_146 rfl rfl (by decide) rfl rfl ?_
      refine go_goto (tgt := 46) dX12_dusk_149 (by decide) ?_
      refine go_mask [true, true, true, true, true, true, true, true, false] rfl ?_
      exact h
    · replace h := h.2 hc
      refine go_iload dX12_dusk_131 rfl ?_
      refine go_iload dX12_dusk_133 rfl ?_
      refine go_icmp_ge (tgt := 146) dX12_dusk_135 (by decide) (fun hc => ?_) (fun hc => ?_)
      · replace h := h.1 hc
        refine go_iinc (v := x7 + 1) (lm := [some (.ref (gd g 12)), some (.int x1), some (.int x2), some (.int x3), some (.int x4), some (.int x5), some (.int x6), some (.int (x7 + 1)), some (.int t0)]) dX12_dusk_146 rfl rfl (by decide) rfl rfl ?_
        refine go_goto (tgt := 46) dX12_dusk_149 (by decide) ?_
        refine go_mask [true, true, true, true, true, true, true, true, false] rfl ?_
        exact h
      · replace h := h.2 hc
        refine go_iload dX12_dusk_138 rfl ?_
        refine go_istore (lm := [some (.ref (gd g 12)), some (.int x1), some (.int x2), some (.int x3), some (.int x4), some (.int x7), some (.int x6), some (.int x7), some (.int t0)]) dX12_dusk_140 (by decide) rfl rfl ?_
        refine go_iload dX12_dusk_142 rfl ?_
        refine go_istore (lm := [some (.ref (gd g 12)), some (.int x1), some (.int x2), some (.int x3), some (.int x4), some (.int x7), some (.int t0), some (.int x7), some (.int t0)]) dX12_dusk_144 (by decide) rfl rfl ?_
        refine go_iinc (v := x7 + 1) (lm := [some (.ref (gd g 12)), some (.int x1), some (.int x2), some (.int x3), some (.int x4), some (.int x7), some (.int t0), some (.int (x7 + 1)), some (.int t0)]) dX12_dusk_146 rfl rfl (by decide) rfl rfl ?_
        refine go_goto (tgt := 46) dX12_dusk_149 (by decide) ?_
        refine go_mask [true, true, true, true, true, true, true, true, false] rfl ?_
        exact h
set_option maxRecDepth 100000 in
set_option maxHeartbeats 4000000 in
theorem B_X12_waitedAt_0 {g : gp} {u : sg} {Q : Option Value → sg → Prop} (x1 : Int32) (x2 : Int32) (x3 : Int32) (x4 : Int32) (x5 : Int32) (h : Go g iX12_waitedAt 3 [some (.ref (gd g 12)), some (.int x1), some (.int x2), some (.int x3), some (.int x4), some (.int x5), some (.int 0), none, none, none, none, none, none] [] u Q) : Go g iX12_waitedAt 0 [some (.ref (gd g 12)), some (.int x1), some (.int x2), some (.int x3), some (.int x4), some (.int x5), none, none, none, none, none, none, none] [] u Q := by
  refine go_iconst (v := 0) dX12_waitedAt_0 (by decide) ?_
  refine go_istore (lm := [some (.ref (gd g 12)), some (.int x1), some (.int x2), some (.int x3), some (.int x4), some (.int x5), some (.int 0), none, none, none, none, none, none]) dX12_waitedAt_1 (by decide) rfl rfl ?_
  exact h
set_option maxRecDepth 100000 in
set_option maxHeartbeats 4000000 in
theorem B_X12_waitedAt_3 {g : gp} {u : sg} {Q : Option Value → sg → Prop} (x1 : Int32) (x2 : Int32) (x3 : Int32) (x4 : Int32) (x5 : Int32) (x6 : Int32) (h : (((8 : Int32) ≤ x6 → Go g iX12_waitedAt 33 [some (.ref (gd g 12)), some (.int x1), some (.int x2), some (.int x3), some (.int x4), some (.int x5), some (.int 0), some (.int 0), some (.int 1), none, none, none, none] [] u Q) ∧ (¬ (8 : Int32) ≤ x6 → (vp_in x6 8 ∧ Go g iX12_waitedAt 3 [some (.ref (gd g 12)), some (.int x1), some (.int x2), some (.int x3), some (.int x4), some (.int x5), some (.int (x6 + 1)), none, none, none, none, none, none] [] (sA u 76 x6.toNatClampNeg (0 : Int32)) Q)))) : Go g iX12_waitedAt 3 [some (.ref (gd g 12)), some (.int x1), some (.int x2), some (.int x3), some (.int x4), some (.int x5), some (.int x6), none, none, none, none, none, none] [] u Q := by
  refine go_iload dX12_waitedAt_3 rfl ?_
  refine go_bipush (v := 8) dX12_waitedAt_5 (by decide) ?_
  refine go_icmp_ge (tgt := 24) dX12_waitedAt_7 (by decide) (fun hc => ?_) (fun hc => ?_)
  · replace h := h.1 hc
    refine go_iconst (v := 0) dX12_waitedAt_24 (by decide) ?_
    refine go_istore (lm := [some (.ref (gd g 12)), some (.int x1), some (.int x2), some (.int x3), some (.int x4), some (.int x5), some (.int 0), none, none, none, none, none, none]) dX12_waitedAt_25 (by decide) rfl rfl ?_
    refine go_iconst (v := 0) dX12_waitedAt_27 (by decide) ?_
    refine go_istore (lm := [some (.ref (gd g 12)), some (.int x1), some (.int x2), some (.int x3), some (.int x4), some (.int x5), some (.int 0), some (.int 0), none, none, none, none, none]) dX12_waitedAt_28 (by decide) rfl rfl ?_
    refine go_iconst (v := 1) dX12_waitedAt_30 (by decide) ?_
    refine go_istore (lm := [some (.ref (gd g 12)), some (.int x1), some (.int x2), some (.int x3), some (.int x4), some (.int x5), some (.int 0), some (.int 0), some (.int 1), none, none, none, none]) dX12_waitedAt_31 (by decide) rfl rfl ?_
    exact h
  · replace h := h.2 hc
    refine go_aload_n dX12_waitedAt_10 rfl rfl ?_
    refine go_get (k := 45) (v := .ref (gd g 76)) dX12_waitedAt_11 ob_12 (by decide) qf_X12_90 rfl ?_
    refine go_iload dX12_waitedAt_14 rfl ?_
    refine go_iconst (v := 0) dX12_waitedAt_16 (by decide) ?_
    obtain ⟨hi, h⟩ := h
    refine go_ist (a := 76) (n := 8) dX12_waitedAt_17 (by decide) (by decide) rfl hi ?_
    refine go_iinc (v := x6 + 1) (lm := [some (.ref (gd g 12)), some (.int x1), some (.int x2), some (.int x3), some (.int x4), some (.int x5), some (.int (x6 + 1)), none, none, none, none, none, none]) dX12_waitedAt_18 rfl rfl (by decide) rfl rfl ?_
    refine go_goto (tgt := 3) dX12_waitedAt_21 (by decide) ?_
    exact h
set_option maxRecDepth 100000 in
set_option maxHeartbeats 4000000 in
theorem B_X12_waitedAt_33 {g : gp} {u : sg} {Q : Option Value → sg → Prop} (x1 : Int32) (x2 : Int32) (x3 : Int32) (x4 : Int32) (x5 : Int32) (x6 : Int32) (x7 : Int32) (x8 : Int32) (h : ((x8 = (0 : Int32) → Q (some (.int x6)) u) ∧ (¬ x8 = (0 : Int32) → Go g iX12_waitedAt 45 [some (.ref (gd g 12)), some (.int x1), some (.int x2), some (.int x3), some (.int x4), some (.int x5), some (.int x6), some (.int x7), none, some (.int ((-1000000))), some (.int 0), none, none] [] u Q))) : Go g iX12_waitedAt 33 [some (.ref (gd g 12)), some (.int x1), some (.int x2), some (.int x3), some (.int x4), some (.int x5), some (.int x6), some (.int x7), some (.int x8), none, none, none, none] [] u Q := by
  refine go_iload dX12_waitedAt_33 rfl ?_
  refine go_if_eq (tgt := 278) dX12_waitedAt_35 (by decide) (fun hc => ?_) (fun hc => ?_)
  · replace h := h.1 hc
    refine go_iload dX12_waitedAt_278 rfl ?_
    exact go_iret dX12_waitedAt_280 rfl h
  · replace h := h.2 hc
    refine go_ldc dX12_waitedAt_38 qc_X12_129 ?_
    refine go_istore (lm := [some (.ref (gd g 12)), some (.int x1), some (.int x2), some (.int x3), some (.int x4), some (.int x5), some (.int x6), some (.int x7), some (.int x8), some (.int ((-1000000))), none, none, none]) dX12_waitedAt_40 (by decide) rfl rfl ?_
    refine go_iconst (v := 0) dX12_waitedAt_42 (by decide) ?_
    refine go_istore (lm := [some (.ref (gd g 12)), some (.int x1), some (.int x2), some (.int x3), some (.int x4), some (.int x5), some (.int x6), some (.int x7), some (.int x8), some (.int ((-1000000))), some (.int 0), none, none]) dX12_waitedAt_43 (by decide) rfl rfl ?_
    refine go_mask [true, true, true, true, true, true, true, true, false, true, true, true, true] rfl ?_
    exact h
set_option maxRecDepth 100000 in
set_option maxHeartbeats 4000000 in
theorem B_X12_waitedAt_45 {g : gp} {u : sg} {Q : Option Value → sg → Prop} (x1 : Int32) (x2 : Int32) (x3 : Int32) (x4 : Int32) (x5 : Int32) (x6 : Int32) (x7 : Int32) (x9 : Int32) (x10 : Int32) (h : ((x2 ≤ x10 → ((x9 = (-1000000 : Int32) → Go g iX12_waitedAt 151 [some (.ref (gd g 12)), some (.int x1), some (.int x2), some (.int x3), some (.int x4), some (.int x5), some (.int x6), some (.int x7), none, some (.int x9), none, none, none] [.int 0] u Q) ∧ (¬ x9 = (-1000000 : Int32) → Go g iX12_waitedAt 151 [some (.ref (gd g 12)), some (.int x1), some (.int x2), some (.int x3), some (.int x4), some (.int x5), some (.int x6), some (.int x7), none, some (.int x9), none, none, none] [.int 1] u Q))) ∧ (¬ x2 ≤ x10 → (vp_in (x1 + (2 * x10)) 512 ∧ ((¬ (u.2 54 (x1 + (2 * x10)).toNatClampNeg) = x3 → Go g iX12_waitedAt 81 [some (.ref (gd g 12)), some (.int x1), some (.int x2), some (.int x3), some (.int x4), some (.int x5), some (.int x6), some (.int x7), none, some (.int x9), some (.int x10), none, none] [.int 0] u Q) ∧ ((u.2 54 (x1 + (2 * x10)).toNatClampNeg) = x3 → ((¬ ((x7 >>> (x10 &&& 31)) &&& 1) = (0 : Int32) → Go g iX12_waitedAt 81 [some (.ref (gd g 12)), some (.int x1), some (.int x2), some (.int x3), some (.int x4), some (.int x5), some (.int x6), some (.int x7), none, some (.int x9), some (.int x10), none, none] [.int 0] u Q) ∧ (((x7 >>> (x10 &&& 31)) &&& 1) = (0 : Int32) → Go g iX12_waitedAt 81 [some (.ref (gd g 12)), some (.int x1), some (.int x2), some (.int x3), some (.int x4), some (.int x5), some (.int x6), some (.int x7), none, some (.int x9), some (.int x10), none, none] [.int 1] u Q)))))))) : Go g iX12_waitedAt 45 [some (.ref (gd g 12)), some (.int x1), some (.int x2), some (.int x3), some (.int x4), some (.int x5), some (.int x6), some (.int x7), none, some (.int x9), some (.int x10), none, none] [] u Q := by
  refine go_iload dX12_waitedAt_45 rfl ?_
  refine go_iload_n dX12_waitedAt_47 rfl rfl ?_
  refine go_icmp_ge (tgt := 139) dX12_waitedAt_48 (by decide) (fun hc => ?_) (fun hc => ?_)
  · replace h := h.1 hc
    refine go_iload dX12_waitedAt_139 rfl ?_
    refine go_ldc dX12_waitedAt_141 qc_X12_129 ?_
    refine go_icmp_eq (tgt := 150) dX12_waitedAt_143 (by decide) (fun hc => ?_) (fun hc => ?_)
    · replace h := h.1 hc
      refine go_iconst (v := 0) dX12_waitedAt_150 (by decide) ?_
      refine go_mask [true, true, true, true, true, true, true, true, true, true, false, true, true] rfl ?_
      exact h
    · replace h := h.2 hc
      refine go_iconst (v := 1) dX12_waitedAt_146 (by decide) ?_
      refine go_goto (tgt := 151) dX12_waitedAt_147 (by decide) ?_
      refine go_mask [true, true, true, true, true, true, true, true, true, true, false, true, true] rfl ?_
      exact h
  · replace h := h.2 hc
    refine go_aload_n dX12_waitedAt_51 rfl rfl ?_
    refine go_get (k := 4) (v := .ref (gd g 54)) dX12_waitedAt_52 ob_12 (by decide) qf_X12_24 rfl ?_
    refine go_iload_n dX12_waitedAt_55 rfl rfl ?_
    refine go_iconst (v := 2) dX12_waitedAt_56 (by decide) ?_
    refine go_iload dX12_waitedAt_57 rfl ?_
    refine go_imul dX12_waitedAt_59 ?_
    refine go_iadd dX12_waitedAt_60 ?_
    obtain ⟨hi, h⟩ := h
    refine go_ild (a := 54) (n := 512) dX12_waitedAt_61 (by decide) (by decide) rfl hi ?_
    refine go_iload_n dX12_waitedAt_62 rfl rfl ?_
    refine go_icmp_ne (tgt := 80) dX12_waitedAt_63 (by decide) (fun hc => ?_) (fun hc => ?_)
    · replace h := h.1 hc
      refine go_iconst (v := 0) dX12_waitedAt_80 (by decide) ?_
      exact h
    · replace h := h.2 hc
      refine go_iload dX12_waitedAt_66 rfl ?_
      refine go_iload dX12_waitedAt_68 rfl ?_
      refine go_ishr dX12_waitedAt_70 ?_
      refine go_iconst (v := 1) dX12_waitedAt_71 (by decide) ?_
      refine go_iand dX12_waitedAt_72 ?_
      refine go_if_ne (tgt := 80) dX12_waitedAt_73 (by decide) (fun hc => ?_) (fun hc => ?_)
      · replace h := h.1 hc
        refine go_iconst (v := 0) dX12_waitedAt_80 (by decide) ?_
        exact h
      · replace h := h.2 hc
        refine go_iconst (v := 1) dX12_waitedAt_76 (by decide) ?_
        refine go_goto (tgt := 81) dX12_waitedAt_77 (by decide) ?_
        exact h
set_option maxRecDepth 100000 in
set_option maxHeartbeats 4000000 in
theorem B_X12_waitedAt_81 {g : gp} {u : sg} {Q : Option Value → sg → Prop} (x1 : Int32) (x2 : Int32) (x3 : Int32) (x4 : Int32) (x5 : Int32) (x6 : Int32) (x7 : Int32) (x9 : Int32) (x10 : Int32) (t0 : Int32) (h : ((t0 = (0 : Int32) → Go g iX12_waitedAt 45 [some (.ref (gd g 12)), some (.int x1), some (.int x2), some (.int x3), some (.int x4), some (.int x5), some (.int x6), some (.int x7), none, some (.int x9), some (.int (x10 + 1)), none, none] [] u Q) ∧ (¬ t0 = (0 : Int32) → ((x9 = (-1000000 : Int32) → Go g iX12_waitedAt 45 [some (.ref (gd g 12)), some (.int x1), some (.int x2), some (.int x3), some (.int x4), some (.int x5), some (.int x6), some (.int x7), none, some (.int x10), some (.int (x10 + 1)), none, none] [] u Q) ∧ (¬ x9 = (-1000000 : Int32) → (vp_in ((x1 + (2 * x10)) + 1) 512 ∧ (vp_in ((x1 + (2 * x9)) + 1) 512 ∧ (((u.2 54 ((x1 + (2 * x9)) + 1).toNatClampNeg) ≤ (u.2 54 ((x1 + (2 * x10)) + 1).toNatClampNeg) → Go g iX12_waitedAt 45 [some (.ref (gd g 12)), some (.int x1), some (.int x2), some (.int x3), some (.int x4), some (.int x5), some (.int x6), some (.int x7), none, some (.int x9), some (.int (x10 + 1)), none, none] [] u Q) ∧ (¬ (u.2 54 ((x1 + (2 * x9)) + 1).toNatClampNeg) ≤ (u.2 54 ((x1 + (2 * x10)) + 1).toNatClampNeg) → Go g iX12_waitedAt 45 [some (.ref (gd g 12)), some (.int x1), some (.int x2), some (.int x3), some (.int x4), some (.int x5), some (.int x6), some (.int x7), none, some (.int x10), some (.int (x10 + 1)), none, none] [] u Q))))))))) : Go g iX12_waitedAt 81 [some (.ref (gd g 12)), some (.int x1), some (.int x2), some (.int x3), some (.int x4), some (.int x5), some (.int x6), some (.int x7), none, some (.int x9), some (.int x10), none, none] [.int t0] u Q := by
  refine go_istore (lm := [some (.ref (gd g 12)), some (.int x1), some (.int x2), some (.int x3), some (.int x4), some (.int x5), some (.int x6), some (.int x7), none, some (.int x9), some (.int x10), some (.int t0), none]) dX12_waitedAt_81 (by decide) rfl rfl ?_
  refine go_iload dX12_waitedAt_83 rfl ?_
  refine go_if_eq (tgt := 129) dX12_waitedAt_85 (by decide) (fun hc => ?_) (fun hc => ?_)
  · replace h := h.1 hc
    refine go_iload dX12_waitedAt_129 rfl ?_
    refine go_istore (lm := [some (.ref (gd g 12)), some (.int x1), some (.int x2), some (.int x3), some (.int x4), some (.int x5), some (.int x6), some (.int x7), none, some (.int x9), some (.int x10), some (.int t0), none]) dX12_waitedAt_131 (by decide) rfl rfl ?_
    refine go_iinc (v := x10 + 1) (lm := [some (.ref (gd g 12)), some (.int x1), some (.int x2), some (.int x3), some (.int x4), some (.int x5), some (.int x6), some (.int x7), none, some (.int x9), some (.int (x10 + 1)), some (.int t0), none]) dX12_waitedAt_133 rfl rfl (by decide) rfl rfl ?_
    refine go_goto (tgt := 45) dX12_waitedAt_136 (by decide) ?_
    refine go_mask [true, true, true, true, true, true, true, true, true, true, true, false, true] rfl ?_
    exact h
  · replace h := h.2 hc
    refine go_iload dX12_waitedAt_88 rfl ?_
    refine go_ldc dX12_waitedAt_90 qc_X12_129 ?_
    refine go_icmp_eq (tgt := 124) dX12_waitedAt_92 (by decide) (fun hc => ?_) (fun hc => ?_)
    · replace h := h.1 hc
      refine go_iload dX12_waitedAt_124 rfl ?_
      refine go_goto (tgt := 131) dX12_waitedAt_126 (by decide) ?_
      refine go_istore (lm := [some (.ref (gd g 12)), some (.int x1), some (.int x2), some (.int x3), some (.int x4), some (.int x5), some (.int x6), some (.int x7), none, some (.int x10), some (.int x10), some (.int t0), none]) dX12_waitedAt_131 (by decide) rfl rfl ?_
      refine go_iinc (v := x10 + 1) (lm := [some (.ref (gd g 12)), some (.int x1), some (.int x2), some (.int x3), some (.int x4), some (.int x5), some (.int x6), some (.int x7), none, some (.int x10), some (.int (x10 + 1)), some (.int t0), none]) dX12_waitedAt_133 rfl rfl (by decide) rfl rfl ?_
      refine go_goto (tgt := 45) dX12_waitedAt_136 (by decide) ?_
      refine go_mask [true, true, true, true, true, true, true, true, true, true, true, false, true] rfl ?_
      exact h
    · replace h := h.2 hc
      refine go_aload_n dX12_waitedAt_95 rfl rfl ?_
      refine go_get (k := 4) (v := .ref (gd g 54)) dX12_waitedAt_96 ob_12 (by decide) qf_X12_24 rfl ?_
      refine go_iload_n dX12_waitedAt_99 rfl rfl ?_
      refine go_iconst (v := 2) dX12_waitedAt_100 (by decide) ?_
      refine go_iload dX12_waitedAt_101 rfl ?_
      refine go_imul dX12_waitedAt_103 ?_
      refine go_iadd dX12_waitedAt_104 ?_
      refine go_iconst (v := 1) dX12_waitedAt_105 (by decide) ?_
      refine go_iadd dX12_waitedAt_106 ?_
      obtain ⟨hi, h⟩ := h
      refine go_ild (a := 54) (n := 512) dX12_waitedAt_107 (by decide) (by decide) rfl hi ?_
      refine go_aload_n dX12_waitedAt_108 rfl rfl ?_
      refine go_get (k := 4) (v := .ref (gd g 54)) dX12_waitedAt_109 ob_12 (by decide) qf_X12_24 rfl ?_
      refine go_iload_n dX12_waitedAt_112 rfl rfl ?_
      refine go_iconst (v := 2) dX12_waitedAt_113 (by decide) ?_
      refine go_iload dX12_waitedAt_114 rfl ?_
      refine go_imul dX12_waitedAt_116 ?_
      refine go_iadd dX12_waitedAt_117 ?_
      refine go_iconst (v := 1) dX12_waitedAt_118 (by decide) ?_
      refine go_iadd dX12_waitedAt_119 ?_
      obtain ⟨hi, h⟩ := h
      refine go_ild (a := 54) (n := 512) dX12_waitedAt_120 (by decide) (by decide) rfl hi ?_
      refine go_icmp_ge (tgt := 129) dX12_waitedAt_121 (by decide) (fun hc => ?_) (fun hc => ?_)
      · replace h := h.1 hc
        refine go_iload dX12_waitedAt_129 rfl ?_
        refine go_istore (lm := [some (.ref (gd g 12)), some (.int x1), some (.int x2), some (.int x3), some (.int x4), some (.int x5), some (.int x6), some (.int x7), none, some (.int x9), some (.int x10), some (.int t0), none]) dX12_waitedAt_131 (by decide) rfl rfl ?_
        refine go_iinc (v := x10 + 1) (lm := [some (.ref (gd g 12)), some (.int x1), some (.int x2), some (.int x3), some (.int x4), some (.int x5), some (.int x6), some (.int x7), none, some (.int x9), some (.int (x10 + 1)), some (.int t0), none]) dX12_waitedAt_133 rfl rfl (by decide) rfl rfl ?_
        refine go_goto (tgt := 45) dX12_waitedAt_136 (by decide) ?_
        refine go_mask [true, true, true, true, true, true, true, true, true, true, true, false, true] rfl ?_
        exact h
      · replace h := h.2 hc
        refine go_iload dX12_waitedAt_124 rfl ?_
        refine go_goto (tgt := 131) dX12_waitedAt_126 (by decide) ?_
        refine go_istore (lm := [some (.ref (gd g 12)), some (.int x1), some (.int x2), some (.int x3), some (.int x4), some (.int x5), some (.int x6), some (.int x7), none, some (.int x10), some (.int x10), some (.int t0), none]) dX12_waitedAt_131 (by decide) rfl rfl ?_
        refine go_iinc (v := x10 + 1) (lm := [some (.ref (gd g 12)), some (.int x1), some (.int x2), some (.int x3), some (.int x4), some (.int x5), some (.int x6), some (.int x7), none, some (.int x10), some (.int (x10 + 1)), some (.int t0), none]) dX12_waitedAt_133 rfl rfl (by decide) rfl rfl ?_
        refine go_goto (tgt := 45) dX12_waitedAt_136 (by decide) ?_
        refine go_mask [true, true, true, true, true, true, true, true, true, true, true, false, true] rfl ?_
        exact h
set_option maxRecDepth 100000 in
set_option maxHeartbeats 4000000 in
theorem B_X12_waitedAt_151 {g : gp} {u : sg} {Q : Option Value → sg → Prop} (x1 : Int32) (x2 : Int32) (x3 : Int32) (x4 : Int32) (x5 : Int32) (x6 : Int32) (x7 : Int32) (x9 : Int32) (t0 : Int32) (h : ((t0 = (0 : Int32) → Go g iX12_waitedAt 33 [some (.ref (gd g 12)), some (.int x1), some (.int x2), some (.int x3), some (.int x4), some (.int x5), some (.int x6), some (.int x7), some (.int t0), none, none, none, none] [] u Q) ∧ (¬ t0 = (0 : Int32) → Go g iX12_waitedAt 173 [some (.ref (gd g 12)), some (.int x1), some (.int x2), some (.int x3), some (.int x4), some (.int x5), some (.int x6), some (.int (x7 ||| (1 <<< (x9 &&& 31)))), some (.int t0), some (.int x9), some (.int 0), some (.int 1), none] [] u Q))) : Go g iX12_waitedAt 151 [some (.ref (gd g 12)), some (.int x1), some (.int x2), some (.int x3), some (.int x4), some (.int x5), some (.int x6), some (.int x7), none, some (.int x9), none, none, none] [.int t0] u Q := by
  refine go_istore (lm := [some (.ref (gd g 12)), some (.int x1), some (.int x2), some (.int x3), some (.int x4), some (.int x5), some (.int x6), some (.int x7), some (.int t0), some (.int x9), none, none, none]) dX12_waitedAt_151 (by decide) rfl rfl ?_
  refine go_iload dX12_waitedAt_153 rfl ?_
  refine go_if_eq (tgt := 275) dX12_waitedAt_155 (by decide) (fun hc => ?_) (fun hc => ?_)
  · replace h := h.1 hc
    refine go_goto (tgt := 33) dX12_waitedAt_275 (by decide) ?_
    refine go_mask [true, true, true, true, true, true, true, true, true, false, true, true, true] rfl ?_
    exact h
  · replace h := h.2 hc
    refine go_iload dX12_waitedAt_158 rfl ?_
    refine go_iconst (v := 1) dX12_waitedAt_160 (by decide) ?_
    refine go_iload dX12_waitedAt_161 rfl ?_
    refine go_ishl dX12_waitedAt_163 ?_
    refine go_ior dX12_waitedAt_164 ?_
    refine go_istore (lm := [some (.ref (gd g 12)), some (.int x1), some (.int x2), some (.int x3), some (.int x4), some (.int x5), some (.int x6), some (.int (x7 ||| (1 <<< (x9 &&& 31)))), some (.int t0), some (.int x9), none, none, none]) dX12_waitedAt_165 (by decide) rfl rfl ?_
    refine go_iconst (v := 0) dX12_waitedAt_167 (by decide) ?_
    refine go_istore (lm := [some (.ref (gd g 12)), some (.int x1), some (.int x2), some (.int x3), some (.int x4), some (.int x5), some (.int x6), some (.int (x7 ||| (1 <<< (x9 &&& 31)))), some (.int t0), some (.int x9), some (.int 0), none, none]) dX12_waitedAt_168 (by decide) rfl rfl ?_
    refine go_iconst (v := 1) dX12_waitedAt_170 (by decide) ?_
    refine go_istore (lm := [some (.ref (gd g 12)), some (.int x1), some (.int x2), some (.int x3), some (.int x4), some (.int x5), some (.int x6), some (.int (x7 ||| (1 <<< (x9 &&& 31)))), some (.int t0), some (.int x9), some (.int 0), some (.int 1), none]) dX12_waitedAt_171 (by decide) rfl rfl ?_
    exact h
set_option maxRecDepth 100000 in
set_option maxHeartbeats 4000000 in
theorem B_X12_waitedAt_173 {g : gp} {u : sg} {Q : Option Value → sg → Prop} (x1 : Int32) (x2 : Int32) (x3 : Int32) (x4 : Int32) (x5 : Int32) (x6 : Int32) (x7 : Int32) (x8 : Int32) (x9 : Int32) (x10 : Int32) (x11 : Int32) (h : ((x5 ≤ x11 → (vp_in ((x1 + (2 * x9)) + 1) 512 ∧ (vp_in x10 8 ∧ (((u.2 54 ((x1 + (2 * x9)) + 1).toNatClampNeg) ≤ (u.2 76 x10.toNatClampNeg) → (vp_in x10 8 ∧ Go g iX12_waitedAt 251 [some (.ref (gd g 12)), some (.int x1), some (.int x2), some (.int x3), some (.int x4), some (.int x5), some (.int x6), some (.int x7), some (.int x8), none, some (.int x10), some (.int (u.2 54 ((x1 + (2 * x9)) + 1).toNatClampNeg)), none] [.int (u.2 76 x10.toNatClampNeg)] u Q)) ∧ (¬ (u.2 54 ((x1 + (2 * x9)) + 1).toNatClampNeg) ≤ (u.2 76 x10.toNatClampNeg) → Go g iX12_waitedAt 251 [some (.ref (gd g 12)), some (.int x1), some (.int x2), some (.int x3), some (.int x4), some (.int x5), some (.int x6), some (.int x7), some (.int x8), none, some (.int x10), some (.int (u.2 54 ((x1 + (2 * x9)) + 1).toNatClampNeg)), none] [.int (u.2 54 ((x1 + (2 * x9)) + 1).toNatClampNeg)] u Q))))) ∧ (¬ x5 ≤ x11 → (vp_in x11 8 ∧ (vp_in x10 8 ∧ (((u.2 76 x10.toNatClampNeg) ≤ (u.2 76 x11.toNatClampNeg) → Go g iX12_waitedAt 173 [some (.ref (gd g 12)), some (.int x1), some (.int x2), some (.int x3), some (.int x4), some (.int x5), some (.int x6), some (.int x7), some (.int x8), some (.int x9), some (.int x10), some (.int (x11 + 1)), none] [] u Q) ∧ (¬ (u.2 76 x10.toNatClampNeg) ≤ (u.2 76 x11.toNatClampNeg) → Go g iX12_waitedAt 173 [some (.ref (gd g 12)), some (.int x1), some (.int x2), some (.int x3), some (.int x4), some (.int x5), some (.int x6), some (.int x7), some (.int x8), some (.int x9), some (.int x11), some (.int (x11 + 1)), none] [] u Q))))))) : Go g iX12_waitedAt 173 [some (.ref (gd g 12)), some (.int x1), some (.int x2), some (.int x3), some (.int x4), some (.int x5), some (.int x6), some (.int x7), some (.int x8), some (.int x9), some (.int x10), some (.int x11), none] [] u Q := by
  refine go_iload dX12_waitedAt_173 rfl ?_
  refine go_iload dX12_waitedAt_175 rfl ?_
  refine go_icmp_ge (tgt := 212) dX12_waitedAt_177 (by decide) (fun hc => ?_) (fun hc => ?_)
  · replace h := h.1 hc
    refine go_aload_n dX12_waitedAt_212 rfl rfl ?_
    refine go_get (k := 4) (v := .ref (gd g 54)) dX12_waitedAt_213 ob_12 (by decide) qf_X12_24 rfl ?_
    refine go_iload_n dX12_waitedAt_216 rfl rfl ?_
    refine go_iconst (v := 2) dX12_waitedAt_217 (by decide) ?_
    refine go_iload dX12_waitedAt_218 rfl ?_
    refine go_imul dX12_waitedAt_220 ?_
    refine go_iadd dX12_waitedAt_221 ?_
    refine go_iconst (v := 1) dX12_waitedAt_222 (by decide) ?_
    refine go_iadd dX12_waitedAt_223 ?_
    obtain ⟨hi, h⟩ := h
    refine go_ild (a := 54) (n := 512) dX12_waitedAt_224 (by decide) (by decide) rfl hi ?_
    refine go_istore (lm := [some (.ref (gd g 12)), some (.int x1), some (.int x2), some (.int x3), some (.int x4), some (.int x5), some (.int x6), some (.int x7), some (.int x8), some (.int x9), some (.int x10), some (.int (u.2 54 ((x1 + (2 * x9)) + 1).toNatClampNeg)), none]) dX12_waitedAt_225 (by decide) rfl rfl ?_
    refine go_iload dX12_waitedAt_227 rfl ?_
    refine go_aload_n dX12_waitedAt_229 rfl rfl ?_
    refine go_get (k := 45) (v := .ref (gd g 76)) dX12_waitedAt_230 ob_12 (by decide) qf_X12_90 rfl ?_
    refine go_iload dX12_waitedAt_233 rfl ?_
    obtain ⟨hi, h⟩ := h
    refine go_ild (a := 76) (n := 8) dX12_waitedAt_235 (by decide) (by decide) rfl hi ?_
    refine go_icmp_le (tgt := 244) dX12_waitedAt_236 (by decide) (fun hc => ?_) (fun hc => ?_)
    · replace h := h.1 hc
      refine go_aload_n dX12_waitedAt_244 rfl rfl ?_
      refine go_get (k := 45) (v := .ref (gd g 76)) dX12_waitedAt_245 ob_12 (by decide) qf_X12_90 rfl ?_
      refine go_iload dX12_waitedAt_248 rfl ?_
      obtain ⟨hi, h⟩ := h
      refine go_ild (a := 76) (n := 8) dX12_waitedAt_250 (by decide) (by decide) rfl hi ?_
      refine go_mask [true, true, true, true, true, true, true, true, true, false, true, true, true] rfl ?_
      exact h
    · replace h := h.2 hc
      refine go_iload dX12_waitedAt_239 rfl ?_
      refine go_goto (tgt := 251) dX12_waitedAt_241 (by decide) ?_
      refine go_mask [true, true, true, true, true, true, true, true, true, false, true, true, true] rfl ?_
      exact h
  · replace h := h.2 hc
    refine go_aload_n dX12_waitedAt_180 rfl rfl ?_
    refine go_get (k := 45) (v := .ref (gd g 76)) dX12_waitedAt_181 ob_12 (by decide) qf_X12_90 rfl ?_
    refine go_iload dX12_waitedAt_184 rfl ?_
    obtain ⟨hi, h⟩ := h
    refine go_ild (a := 76) (n := 8) dX12_waitedAt_186 (by decide) (by decide) rfl hi ?_
    refine go_aload_n dX12_waitedAt_187 rfl rfl ?_
    refine go_get (k := 45) (v := .ref (gd g 76)) dX12_waitedAt_188 ob_12 (by decide) qf_X12_90 rfl ?_
    refine go_iload dX12_waitedAt_191 rfl ?_
    obtain ⟨hi, h⟩ := h
    refine go_ild (a := 76) (n := 8) dX12_waitedAt_193 (by decide) (by decide) rfl hi ?_
    refine go_icmp_ge (tgt := 202) dX12_waitedAt_194 (by decide) (fun hc => ?_) (fun hc => ?_)
    · replace h := h.1 hc
      refine go_iload dX12_waitedAt_202 rfl ?_
      refine go_istore (lm := [some (.ref (gd g 12)), some (.int x1), some (.int x2), some (.int x3), some (.int x4), some (.int x5), some (.int x6), some (.int x7), some (.int x8), some (.int x9), some (.int x10), some (.int x11), none]) dX12_waitedAt_204 (by decide) rfl rfl ?_
      refine go_iinc (v := x11 + 1) (lm := [some (.ref (gd g 12)), some (.int x1), some (.int x2), some (.int x3), some (.int x4), some (.int x5), some (.int x6), some (.int x7), some (.int x8), some (.int x9), some (.int x10), some (.int (x11 + 1)), none]) dX12_waitedAt_206 rfl rfl (by decide) rfl rfl ?_
      refine go_goto (tgt := 173) dX12_waitedAt_209 (by decide) ?_
      exact h
    · replace h := h.2 hc
      refine go_iload dX12_waitedAt_197 rfl ?_
      refine go_goto (tgt := 204) dX12_waitedAt_199 (by decide) ?_
      refine go_istore (lm := [some (.ref (gd g 12)), some (.int x1), some (.int x2), some (.int x3), some (.int x4), some (.int x5), some (.int x6), some (.int x7), some (.int x8), some (.int x9), some (.int x11), some (.int x11), none]) dX12_waitedAt_204 (by decide) rfl rfl ?_
      refine go_iinc (v := x11 + 1) (lm := [some (.ref (gd g 12)), some (.int x1), some (.int x2), some (.int x3), some (.int x4), some (.int x5), some (.int x6), some (.int x7), some (.int x8), some (.int x9), some (.int x11), some (.int (x11 + 1)), none]) dX12_waitedAt_206 rfl rfl (by decide) rfl rfl ?_
      refine go_goto (tgt := 173) dX12_waitedAt_209 (by decide) ?_
      exact h
set_option maxRecDepth 100000 in
set_option maxHeartbeats 4000000 in
theorem B_X12_waitedAt_251 {g : gp} {u : sg} {Q : Option Value → sg → Prop} (x1 : Int32) (x2 : Int32) (x3 : Int32) (x4 : Int32) (x5 : Int32) (x6 : Int32) (x7 : Int32) (x8 : Int32) (x10 : Int32) (x11 : Int32) (t0 : Int32) (h : (vp_in x10 8 ∧ Go g iX12_waitedAt 33 [some (.ref (gd g 12)), some (.int x1), some (.int x2), some (.int x3), some (.int x4), some (.int x5), some (.int (x6 + (t0 - x11))), some (.int x7), some (.int x8), none, none, none, none] [] (sA u 76 x10.toNatClampNeg (t0 + x4)) Q)) : Go g iX12_waitedAt 251 [some (.ref (gd g 12)), some (.int x1), some (.int x2), some (.int x3), some (.int x4), some (.int x5), some (.int x6), some (.int x7), some (.int x8), none, some (.int x10), some (.int x11), none] [.int t0] u Q := by
  refine go_istore (lm := [some (.ref (gd g 12)), some (.int x1), some (.int x2), some (.int x3), some (.int x4), some (.int x5), some (.int x6), some (.int x7), some (.int x8), none, some (.int x10), some (.int x11), some (.int t0)]) dX12_waitedAt_251 (by decide) rfl rfl ?_
  refine go_iload dX12_waitedAt_253 rfl ?_
  refine go_iload dX12_waitedAt_255 rfl ?_
  refine go_iload dX12_waitedAt_257 rfl ?_
  refine go_isub dX12_waitedAt_259 ?_
  refine go_iadd dX12_waitedAt_260 ?_
  refine go_istore (lm := [some (.ref (gd g 12)), some (.int x1), some (.int x2), some (.int x3), some (.int x4), some (.int x5), some (.int (x6 + (t0 - x11))), some (.int x7), some (.int x8), none, some (.int x10), some (.int x11), some (.int t0)]) dX12_waitedAt_261 (by decide) rfl rfl ?_
  refine go_aload_n dX12_waitedAt_263 rfl rfl ?_
  refine go_get (k := 45) (v := .ref (gd g 76)) dX12_waitedAt_264 ob_12 (by decide) qf_X12_90 rfl ?_
  refine go_iload dX12_waitedAt_267 rfl ?_
  refine go_iload dX12_waitedAt_269 rfl ?_
  refine go_iload dX12_waitedAt_271 rfl ?_
  refine go_iadd dX12_waitedAt_273 ?_
  obtain ⟨hi, h⟩ := h
  refine go_ist (a := 76) (n := 8) dX12_waitedAt_274 (by decide) (by decide) rfl hi ?_
  refine go_goto (tgt := 33) dX12_waitedAt_275 (by decide) ?_
  refine go_mask [true, true, true, true, true, true, true, true, true, true, false, false, false] rfl ?_
  exact h
set_option maxRecDepth 100000 in
set_option maxHeartbeats 4000000 in
theorem B_X12_clerks_0 {g : gp} {u : sg} {Q : Option Value → sg → Prop} (x1 : Int32) (x2 : Int32) (x3 : Int32) (x4 : Int32) (x5 : Int32) (x6 : Int32) (h : Go g iX12_isSheet 0 [some (.int x1)] [] (sI u 12 0 (0 : Int32)) (QI (fun r1 u1 => ((r1 = (0 : Int32) → Q (some (.int (-1000001 : Int32))) u1) ∧ (¬ r1 = (0 : Int32) → Go g iX12_in 0 [some (.long (x3.toInt64)), none, some (.long 1), none, some (.long 20), none] [] u1 (QI (fun r2 u2 => ((r2 = (0 : Int32) → Q (some (.int (-1000001 : Int32))) u2) ∧ (¬ r2 = (0 : Int32) → Go g iX12_in 0 [some (.long (x4.toInt64)), none, some (.long 1), none, some (.long 60), none] [] u2 (QI (fun r3 u3 => ((r3 = (0 : Int32) → Q (some (.int (-1000001 : Int32))) u3) ∧ (¬ r3 = (0 : Int32) → Go g iX12_in 0 [some (.long (x5.toInt64)), none, some (.long 1), none, some (.long 8), none] [] u3 (QI (fun r4 u4 => ((r4 = (0 : Int32) → Q (some (.int (-1000001 : Int32))) u4) ∧ (¬ r4 = (0 : Int32) → Go g iX12_in 0 [some (.long (x6.toInt64)), none, some (.long 0), none, some (.long 4), none] [] u4 (QI (fun r5 u5 => ((¬ r5 = (0 : Int32) → Go g iX12_lookItems 0 [some (.ref (gd g 12)), some (.int x1), some (.int x2), some (.int (2 * x3))] [] u5 (QI (fun r6 u6 => (((0 : Int32) ≤ r6 → Go g iX12_clerks 96 [some (.ref (gd g 12)), none, none, some (.int x3), some (.int x4), some (.int x5), some (.int x6), none, some (.int ((64 * x1) + x2)), some (.int 0), none, none, none, none, none] [] u6 Q) ∧ (¬ (0 : Int32) ≤ r6 → Q (some (.int r6)) u6))))) ∧ (r5 = (0 : Int32) → Q (some (.int (-1000001 : Int32))) u5))))))))))))))))))))) : Go g iX12_clerks 0 [some (.ref (gd g 12)), some (.int x1), some (.int x2), some (.int x3), some (.int x4), some (.int x5), some (.int x6), none, none, none, none, none, none, none, none] [] u Q := by
  refine go_aload_n dX12_clerks_0 rfl rfl ?_
  refine go_iconst (v := 0) dX12_clerks_1 (by decide) ?_
  refine go_put (k := 0) dX12_clerks_2 ob_12 (by decide) qf_X12_1 rfl rfl pf_I ?_
  refine go_iload_n dX12_clerks_5 rfl rfl ?_
  refine go_cSi (As := [.int x1]) (st := []) (lc := [some (.int x1)]) dX12_clerks_6 me_X12_isSheet qm_X12_136 rfl (Nat.le_of_ble_eq_true rfl) rfl ⟨Nat.le_of_ble_eq_true rfl, Nat.le_of_ble_eq_true rfl⟩ rfl (Nat.le_of_ble_eq_true rfl) h (fun r1 u1 h => ?_)
  refine go_if_eq (tgt := 63) dX12_clerks_9 (by decide) (fun hc => ?_) (fun hc => ?_)
  · replace h := h.1 hc
    refine go_ldc dX12_clerks_63 qc_X12_142 ?_
    exact go_iret dX12_clerks_65 rfl h
  · replace h := h.2 hc
    refine go_iload_n dX12_clerks_12 rfl rfl ?_
    refine go_i2l dX12_clerks_13 ?_
    refine go_lconst (v := 1) dX12_clerks_14 (by decide) ?_
    refine go_ldc2 dX12_clerks_15 ql_X12_269 ?_
    refine go_cSi (As := [.long (x3.toInt64), .long 1, .long 20]) (st := []) (lc := [some (.long (x3.toInt64)), none, some (.long 1), none, some (.long 20), none]) dX12_clerks_18 me_X12_in qm_X12_132 rfl (Nat.le_of_ble_eq_true rfl) rfl ⟨Nat.le_of_ble_eq_true rfl, Nat.le_of_ble_eq_true rfl⟩ rfl (Nat.le_of_ble_eq_true rfl) h (fun r2 u2 h => ?_)
    refine go_if_eq (tgt := 63) dX12_clerks_21 (by decide) (fun hc => ?_) (fun hc => ?_)
    · replace h := h.1 hc
      refine go_ldc dX12_clerks_63 qc_X12_142 ?_
      exact go_iret dX12_clerks_65 rfl h
    · replace h := h.2 hc
      refine go_iload dX12_clerks_24 rfl ?_
      refine go_i2l dX12_clerks_26 ?_
      refine go_lconst (v := 1) dX12_clerks_27 (by decide) ?_
      refine go_ldc2 dX12_clerks_28 ql_X12_328 ?_
      refine go_cSi (As := [.long (x4.toInt64), .long 1, .long 60]) (st := []) (lc := [some (.long (x4.toInt64)), none, some (.long 1), none, some (.long 60), none]) dX12_clerks_31 me_X12_in qm_X12_132 rfl (Nat.le_of_ble_eq_true rfl) rfl ⟨Nat.le_of_ble_eq_true rfl, Nat.le_of_ble_eq_true rfl⟩ rfl (Nat.le_of_ble_eq_true rfl) h (fun r3 u3 h => ?_)
      refine go_if_eq (tgt := 63) dX12_clerks_34 (by decide) (fun hc => ?_) (fun hc => ?_)
      · replace h := h.1 hc
        refine go_ldc dX12_clerks_63 qc_X12_142 ?_
        exact go_iret dX12_clerks_65 rfl h
      · replace h := h.2 hc
        refine go_iload dX12_clerks_37 rfl ?_
        refine go_i2l dX12_clerks_39 ?_
        refine go_lconst (v := 1) dX12_clerks_40 (by decide) ?_
        refine go_ldc2 dX12_clerks_41 ql_X12_147 ?_
        refine go_cSi (As := [.long (x5.toInt64), .long 1, .long 8]) (st := []) (lc := [some (.long (x5.toInt64)), none, some (.long 1), none, some (.long 8), none]) dX12_clerks_44 me_X12_in qm_X12_132 rfl (Nat.le_of_ble_eq_true rfl) rfl ⟨Nat.le_of_ble_eq_true rfl, Nat.le_of_ble_eq_true rfl⟩ rfl (Nat.le_of_ble_eq_true rfl) h (fun r4 u4 h => ?_)
        refine go_if_eq (tgt := 63) dX12_clerks_47 (by decide) (fun hc => ?_) (fun hc => ?_)
        · replace h := h.1 hc
          refine go_ldc dX12_clerks_63 qc_X12_142 ?_
          exact go_iret dX12_clerks_65 rfl h
        · replace h := h.2 hc
          refine go_iload dX12_clerks_50 rfl ?_
          refine go_i2l dX12_clerks_52 ?_
          refine go_lconst (v := 0) dX12_clerks_53 (by decide) ?_
          refine go_ldc2 dX12_clerks_54 ql_X12_293 ?_
          refine go_cSi (As := [.long (x6.toInt64), .long 0, .long 4]) (st := []) (lc := [some (.long (x6.toInt64)), none, some (.long 0), none, some (.long 4), none]) dX12_clerks_57 me_X12_in qm_X12_132 rfl (Nat.le_of_ble_eq_true rfl) rfl ⟨Nat.le_of_ble_eq_true rfl, Nat.le_of_ble_eq_true rfl⟩ rfl (Nat.le_of_ble_eq_true rfl) h (fun r5 u5 h => ?_)
          refine go_if_ne (tgt := 66) dX12_clerks_60 (by decide) (fun hc => ?_) (fun hc => ?_)
          · replace h := h.1 hc
            refine go_aload_n dX12_clerks_66 rfl rfl ?_
            refine go_iload_n dX12_clerks_67 rfl rfl ?_
            refine go_iload_n dX12_clerks_68 rfl rfl ?_
            refine go_iconst (v := 2) dX12_clerks_69 (by decide) ?_
            refine go_iload_n dX12_clerks_70 rfl rfl ?_
            refine go_imul dX12_clerks_71 ?_
            refine go_cVi (o := 12) (As := [.int x1, .int x2, .int (2 * x3)]) (st := []) (lc := [some (.ref (gd g 12)), some (.int x1), some (.int x2), some (.int (2 * x3))]) dX12_clerks_72 me_X12_lookItems rfl ob_12 qm_X12_290 rfl (Nat.le_of_ble_eq_true rfl) rfl ⟨Nat.le_of_ble_eq_true rfl, Nat.le_of_ble_eq_true rfl⟩ rfl (Nat.le_of_ble_eq_true rfl) h (fun r6 u6 h => ?_)
            refine go_istore (lm := [some (.ref (gd g 12)), some (.int x1), some (.int x2), some (.int x3), some (.int x4), some (.int x5), some (.int x6), some (.int r6), none, none, none, none, none, none, none]) dX12_clerks_75 (by decide) rfl rfl ?_
            refine go_iload dX12_clerks_77 rfl ?_
            refine go_if_ge (tgt := 85) dX12_clerks_79 (by decide) (fun hc => ?_) (fun hc => ?_)
            · replace h := h.1 hc
              refine go_bipush (v := 64) dX12_clerks_85 (by decide) ?_
              refine go_iload_n dX12_clerks_87 rfl rfl ?_
              refine go_imul dX12_clerks_88 ?_
              refine go_iload_n dX12_clerks_89 rfl rfl ?_
              refine go_iadd dX12_clerks_90 ?_
              refine go_istore (lm := [some (.ref (gd g 12)), some (.int x1), some (.int x2), some (.int x3), some (.int x4), some (.int x5), some (.int x6), some (.int r6), some (.int ((64 * x1) + x2)), none, none, none, none, none, none]) dX12_clerks_91 (by decide) rfl rfl ?_
              refine go_iconst (v := 0) dX12_clerks_93 (by decide) ?_
              refine go_istore (lm := [some (.ref (gd g 12)), some (.int x1), some (.int x2), some (.int x3), some (.int x4), some (.int x5), some (.int x6), some (.int r6), some (.int ((64 * x1) + x2)), some (.int 0), none, none, none, none, none]) dX12_clerks_94 (by decide) rfl rfl ?_
              refine go_mask [true, false, false, true, true, true, true, false, true, true, true, true, true, true, true] rfl ?_
              exact h
            · replace h := h.2 hc
              refine go_iload dX12_clerks_82 rfl ?_
              exact go_iret dX12_clerks_84 rfl h
          · replace h := h.2 hc
            refine go_ldc dX12_clerks_63 qc_X12_142 ?_
            exact go_iret dX12_clerks_65 rfl h
set_option maxRecDepth 100000 in
set_option maxHeartbeats 4000000 in
theorem B_X12_clerks_96 {g : gp} {u : sg} {Q : Option Value → sg → Prop} (x3 : Int32) (x4 : Int32) (x5 : Int32) (x6 : Int32) (x8 : Int32) (x9 : Int32) (h : ((x3 ≤ x9 → Go g iX12_clerks 162 [some (.ref (gd g 12)), none, none, some (.int x3), some (.int x4), some (.int x5), some (.int x6), none, some (.int x8), some (.int 0), none, none, none, none, none] [] (sI u 12 1 (0 : Int32)) Q) ∧ (¬ x3 ≤ x9 → (vp_in (x8 + (2 * x9)) 512 ∧ Go g iX12_in 0 [some (.long ((u.2 54 (x8 + (2 * x9)).toNatClampNeg).toInt64)), none, some (.long 0), none, some (.long 3), none] [] u (QI (fun r1 u1 => ((r1 = (0 : Int32) → Q (some (.int (-1000001 : Int32))) u1) ∧ (¬ r1 = (0 : Int32) → (vp_in ((x8 + (2 * x9)) + 1) 512 ∧ Go g iX12_isMinute 0 [some (.int (u1.2 54 ((x8 + (2 * x9)) + 1).toNatClampNeg))] [] u1 (QI (fun r2 u2 => ((¬ r2 = (0 : Int32) → Go g iX12_clerks 96 [some (.ref (gd g 12)), none, none, some (.int x3), some (.int x4), some (.int x5), some (.int x6), none, some (.int x8), some (.int (x9 + 1)), none, none, none, none, none] [] u2 Q) ∧ (r2 = (0 : Int32) → Q (some (.int (-1000001 : Int32))) u2))))))))))))) : Go g iX12_clerks 96 [some (.ref (gd g 12)), none, none, some (.int x3), some (.int x4), some (.int x5), some (.int x6), none, some (.int x8), some (.int x9), none, none, none, none, none] [] u Q := by
  refine go_iload dX12_clerks_96 rfl ?_
  refine go_iload_n dX12_clerks_98 rfl rfl ?_
  refine go_icmp_ge (tgt := 154) dX12_clerks_99 (by decide) (fun hc => ?_) (fun hc => ?_)
  · replace h := h.1 hc
    refine go_aload_n dX12_clerks_154 rfl rfl ?_
    refine go_iconst (v := 0) dX12_clerks_155 (by decide) ?_
    refine go_put (k := 1) dX12_clerks_156 ob_12 (by decide) qf_X12_7 rfl rfl pf_I ?_
    refine go_iconst (v := 0) dX12_clerks_159 (by decide) ?_
    refine go_istore (lm := [some (.ref (gd g 12)), none, none, some (.int x3), some (.int x4), some (.int x5), some (.int x6), none, some (.int x8), some (.int 0), none, none, none, none, none]) dX12_clerks_160 (by decide) rfl rfl ?_
    exact h
  · replace h := h.2 hc
    refine go_aload_n dX12_clerks_102 rfl rfl ?_
    refine go_get (k := 4) (v := .ref (gd g 54)) dX12_clerks_103 ob_12 (by decide) qf_X12_24 rfl ?_
    refine go_iload dX12_clerks_106 rfl ?_
    refine go_iconst (v := 2) dX12_clerks_108 (by decide) ?_
    refine go_iload dX12_clerks_109 rfl ?_
    refine go_imul dX12_clerks_111 ?_
    refine go_iadd dX12_clerks_112 ?_
    obtain ⟨hi, h⟩ := h
    refine go_ild (a := 54) (n := 512) dX12_clerks_113 (by decide) (by decide) rfl hi ?_
    refine go_i2l dX12_clerks_114 ?_
    refine go_lconst (v := 0) dX12_clerks_115 (by decide) ?_
    refine go_ldc2 dX12_clerks_116 ql_X12_336 ?_
    refine go_cSi (As := [.long ((u.2 54 (x8 + (2 * x9)).toNatClampNeg).toInt64), .long 0, .long 3]) (st := []) (lc := [some (.long ((u.2 54 (x8 + (2 * x9)).toNatClampNeg).toInt64)), none, some (.long 0), none, some (.long 3), none]) dX12_clerks_119 me_X12_in qm_X12_132 rfl (Nat.le_of_ble_eq_true rfl) rfl ⟨Nat.le_of_ble_eq_true rfl, Nat.le_of_ble_eq_true rfl⟩ rfl (Nat.le_of_ble_eq_true rfl) h (fun r1 u1 h => ?_)
    refine go_if_eq (tgt := 145) dX12_clerks_122 (by decide) (fun hc => ?_) (fun hc => ?_)
    · replace h := h.1 hc
      refine go_ldc dX12_clerks_145 qc_X12_142 ?_
      exact go_iret dX12_clerks_147 rfl h
    · replace h := h.2 hc
      refine go_aload_n dX12_clerks_125 rfl rfl ?_
      refine go_get (k := 4) (v := .ref (gd g 54)) dX12_clerks_126 ob_12 (by decide) qf_X12_24 rfl ?_
      refine go_iload dX12_clerks_129 rfl ?_
      refine go_iconst (v := 2) dX12_clerks_131 (by decide) ?_
      refine go_iload dX12_clerks_132 rfl ?_
      refine go_imul dX12_clerks_134 ?_
      refine go_iadd dX12_clerks_135 ?_
      refine go_iconst (v := 1) dX12_clerks_136 (by decide) ?_
      refine go_iadd dX12_clerks_137 ?_
      obtain ⟨hi, h⟩ := h
      refine go_ild (a := 54) (n := 512) dX12_clerks_138 (by decide) (by decide) rfl hi ?_
      refine go_cSi (As := [.int (u1.2 54 ((x8 + (2 * x9)) + 1).toNatClampNeg)]) (st := []) (lc := [some (.int (u1.2 54 ((x8 + (2 * x9)) + 1).toNatClampNeg))]) dX12_clerks_139 me_X12_isMinute qm_X12_156 rfl (Nat.le_of_ble_eq_true rfl) rfl ⟨Nat.le_of_ble_eq_true rfl, Nat.le_of_ble_eq_true rfl⟩ rfl (Nat.le_of_ble_eq_true rfl) h (fun r2 u2 h => ?_)
      refine go_if_ne (tgt := 148) dX12_clerks_142 (by decide) (fun hc => ?_) (fun hc => ?_)
      · replace h := h.1 hc
        refine go_iinc (v := x9 + 1) (lm := [some (.ref (gd g 12)), none, none, some (.int x3), some (.int x4), some (.int x5), some (.int x6), none, some (.int x8), some (.int (x9 + 1)), none, none, none, none, none]) dX12_clerks_148 rfl rfl (by decide) rfl rfl ?_
        refine go_goto (tgt := 96) dX12_clerks_151 (by decide) ?_
        exact h
      · replace h := h.2 hc
        refine go_ldc dX12_clerks_145 qc_X12_142 ?_
        exact go_iret dX12_clerks_147 rfl h
set_option maxRecDepth 100000 in
set_option maxHeartbeats 4000000 in
theorem B_X12_clerks_162 {g : gp} {u : sg} {Q : Option Value → sg → Prop} (x3 : Int32) (x4 : Int32) (x5 : Int32) (x6 : Int32) (x8 : Int32) (x9 : Int32) (h : (((4 : Int32) ≤ x9 → Go g iX12_clerks 292 [some (.ref (gd g 12)), none, none, none, none, some (.int x5), some (.int x6), none, none, some (.int ((-1000000))), some (.int x5), none, none, none, none] [] u Q) ∧ (¬ (4 : Int32) ≤ x9 → Go g iX12_clerks 174 [some (.ref (gd g 12)), none, none, some (.int x3), some (.int x4), some (.int x5), some (.int x6), none, some (.int x8), some (.int x9), some (.int 0), some (.int 0), none, none, none] [] u Q))) : Go g iX12_clerks 162 [some (.ref (gd g 12)), none, none, some (.int x3), some (.int x4), some (.int x5), some (.int x6), none, some (.int x8), some (.int x9), none, none, none, none, none] [] u Q := by
  refine go_iload dX12_clerks_162 rfl ?_
  refine go_iconst (v := 4) dX12_clerks_164 (by decide) ?_
  refine go_icmp_ge (tgt := 284) dX12_clerks_165 (by decide) (fun hc => ?_) (fun hc => ?_)
  · replace h := h.1 hc
    refine go_ldc dX12_clerks_284 qc_X12_129 ?_
    refine go_istore (lm := [some (.ref (gd g 12)), none, none, some (.int x3), some (.int x4), some (.int x5), some (.int x6), none, some (.int x8), some (.int ((-1000000))), none, none, none, none, none]) dX12_clerks_286 (by decide) rfl rfl ?_
    refine go_iload dX12_clerks_288 rfl ?_
    refine go_istore (lm := [some (.ref (gd g 12)), none, none, some (.int x3), some (.int x4), some (.int x5), some (.int x6), none, some (.int x8), some (.int ((-1000000))), some (.int x5), none, none, none, none]) dX12_clerks_290 (by decide) rfl rfl ?_
    refine go_mask [true, true, true, false, false, true, true, true, false, true, true, true, true, true, true] rfl ?_
    exact h
  · replace h := h.2 hc
    refine go_iconst (v := 0) dX12_clerks_168 (by decide) ?_
    refine go_istore (lm := [some (.ref (gd g 12)), none, none, some (.int x3), some (.int x4), some (.int x5), some (.int x6), none, some (.int x8), some (.int x9), some (.int 0), none, none, none, none]) dX12_clerks_169 (by decide) rfl rfl ?_
    refine go_iconst (v := 0) dX12_clerks_171 (by decide) ?_
    refine go_istore (lm := [some (.ref (gd g 12)), none, none, some (.int x3), some (.int x4), some (.int x5), some (.int x6), none, some (.int x8), some (.int x9), some (.int 0), some (.int 0), none, none, none]) dX12_clerks_172 (by decide) rfl rfl ?_
    exact h
set_option maxRecDepth 100000 in
set_option maxHeartbeats 4000000 in
theorem B_X12_clerks_174 {g : gp} {u : sg} {Q : Option Value → sg → Prop} (x3 : Int32) (x4 : Int32) (x5 : Int32) (x6 : Int32) (x8 : Int32) (x9 : Int32) (x10 : Int32) (x11 : Int32) (h : ((x3 ≤ x11 → ((x10 = (0 : Int32) → (vp_in (9 * x9) 36 ∧ Go g iX12_clerks 239 [some (.ref (gd g 12)), none, none, some (.int x3), some (.int x4), some (.int x5), some (.int x6), none, some (.int x8), some (.int x9), none, some (.int 1), none, none, none] [] (sA u 78 (9 * x9).toNatClampNeg (0 : Int32)) Q)) ∧ (¬ x10 = (0 : Int32) → (vp_in (9 * x9) 36 ∧ Go g iX12_clerks 239 [some (.ref (gd g 12)), none, none, some (.int x3), some (.int x4), some (.int x5), some (.int x6), none, some (.int x8), some (.int x9), none, some (.int 1), none, none, none] [] (sA u 78 (9 * x9).toNatClampNeg (-1000000 : Int32)) Q)))) ∧ (¬ x3 ≤ x11 → ((¬ x10 = (0 : Int32) → Go g iX12_clerks 174 [some (.ref (gd g 12)), none, none, some (.int x3), some (.int x4), some (.int x5), some (.int x6), none, some (.int x8), some (.int x9), some (.int 1), some (.int (x11 + 1)), none, none, none] [] u Q) ∧ (x10 = (0 : Int32) → (vp_in (x8 + (2 * x11)) 512 ∧ ((¬ (u.2 54 (x8 + (2 * x11)).toNatClampNeg) = x9 → Go g iX12_clerks 174 [some (.ref (gd g 12)), none, none, some (.int x3), some (.int x4), some (.int x5), some (.int x6), none, some (.int x8), some (.int x9), some (.int 0), some (.int (x11 + 1)), none, none, none] [] u Q) ∧ ((u.2 54 (x8 + (2 * x11)).toNatClampNeg) = x9 → Go g iX12_clerks 174 [some (.ref (gd g 12)), none, none, some (.int x3), some (.int x4), some (.int x5), some (.int x6), none, some (.int x8), some (.int x9), some (.int 1), some (.int (x11 + 1)), none, none, none] [] u Q)))))))) : Go g iX12_clerks 174 [some (.ref (gd g 12)), none, none, some (.int x3), some (.int x4), some (.int x5), some (.int x6), none, some (.int x8), some (.int x9), some (.int x10), some (.int x11), none, none, none] [] u Q := by
  refine go_iload dX12_clerks_174 rfl ?_
  refine go_iload_n dX12_clerks_176 rfl rfl ?_
  refine go_icmp_ge (tgt := 215) dX12_clerks_177 (by decide) (fun hc => ?_) (fun hc => ?_)
  · replace h := h.1 hc
    refine go_aload_n dX12_clerks_215 rfl rfl ?_
    refine go_get (k := 47) (v := .ref (gd g 78)) dX12_clerks_216 ob_12 (by decide) qf_X12_96 rfl ?_
    refine go_bipush (v := 9) dX12_clerks_219 (by decide) ?_
    refine go_iload dX12_clerks_221 rfl ?_
    refine go_imul dX12_clerks_223 ?_
    refine go_iload dX12_clerks_224 rfl ?_
    refine go_if_eq (tgt := 234) dX12_clerks_226 (by decide) (fun hc => ?_) (fun hc => ?_)
    · replace h := h.1 hc
      refine go_iconst (v := 0) dX12_clerks_234 (by decide) ?_
      obtain ⟨hi, h⟩ := h
      refine go_ist (a := 78) (n := 36) dX12_clerks_235 (by decide) (by decide) rfl hi ?_
      refine go_iconst (v := 1) dX12_clerks_236 (by decide) ?_
      refine go_istore (lm := [some (.ref (gd g 12)), none, none, some (.int x3), some (.int x4), some (.int x5), some (.int x6), none, some (.int x8), some (.int x9), some (.int x10), some (.int 1), none, none, none]) dX12_clerks_237 (by decide) rfl rfl ?_
      refine go_mask [true, true, true, true, true, true, true, true, true, true, false, true, true, true, true] rfl ?_
      exact h
    · replace h := h.2 hc
      refine go_ldc dX12_clerks_229 qc_X12_129 ?_
      refine go_goto (tgt := 235) dX12_clerks_231 (by decide) ?_
      obtain ⟨hi, h⟩ := h
      refine go_ist (a := 78) (n := 36) dX12_clerks_235 (by decide) (by decide) rfl hi ?_
      refine go_iconst (v := 1) dX12_clerks_236 (by decide) ?_
      refine go_istore (lm := [some (.ref (gd g 12)), none, none, some (.int x3), some (.int x4), some (.int x5), some (.int x6), none, some (.int x8), some (.int x9), some (.int x10), some (.int 1), none, none, none]) dX12_clerks_237 (by decide) rfl rfl ?_
      refine go_mask [true, true, true, true, true, true, true, true, true, true, false, true, true, true, true] rfl ?_
      exact h
  · replace h := h.2 hc
    refine go_iload dX12_clerks_180 rfl ?_
    refine go_if_ne (tgt := 202) dX12_clerks_182 (by decide) (fun hc => ?_) (fun hc => ?_)
    · replace h := h.1 hc
      refine go_iconst (v := 1) dX12_clerks_202 (by decide) ?_
      refine go_goto (tgt := 207) dX12_clerks_203 (by decide) ?_
      refine go_istore (lm := [some (.ref (gd g 12)), none, none, some (.int x3), some (.int x4), some (.int x5), some (.int x6), none, some (.int x8), some (.int x9), some (.int 1), some (.int x11), none, none, none]) dX12_clerks_207 (by decide) rfl rfl ?_
      refine go_iinc (v := x11 + 1) (lm := [some (.ref (gd g 12)), none, none, some (.int x3), some (.int x4), some (.int x5), some (.int x6), none, some (.int x8), some (.int x9), some (.int 1), some (.int (x11 + 1)), none, none, none]) dX12_clerks_209 rfl rfl (by decide) rfl rfl ?_
      refine go_goto (tgt := 174) dX12_clerks_212 (by decide) ?_
      exact h
    · replace h := h.2 hc
      refine go_aload_n dX12_clerks_185 rfl rfl ?_
      refine go_get (k := 4) (v := .ref (gd g 54)) dX12_clerks_186 ob_12 (by decide) qf_X12_24 rfl ?_
      refine go_iload dX12_clerks_189 rfl ?_
      refine go_iconst (v := 2) dX12_clerks_191 (by decide) ?_
      refine go_iload dX12_clerks_192 rfl ?_
      refine go_imul dX12_clerks_194 ?_
      refine go_iadd dX12_clerks_195 ?_
      obtain ⟨hi, h⟩ := h
      refine go_ild (a := 54) (n := 512) dX12_clerks_196 (by decide) (by decide) rfl hi ?_
      refine go_iload dX12_clerks_197 rfl ?_
      refine go_icmp_ne (tgt := 206) dX12_clerks_199 (by decide) (fun hc => ?_) (fun hc => ?_)
      · replace h := h.1 hc
        refine go_iconst (v := 0) dX12_clerks_206 (by decide) ?_
        refine go_istore (lm := [some (.ref (gd g 12)), none, none, some (.int x3), some (.int x4), some (.int x5), some (.int x6), none, some (.int x8), some (.int x9), some (.int 0), some (.int x11), none, none, none]) dX12_clerks_207 (by decide) rfl rfl ?_
        refine go_iinc (v := x11 + 1) (lm := [some (.ref (gd g 12)), none, none, some (.int x3), some (.int x4), some (.int x5), some (.int x6), none, some (.int x8), some (.int x9), some (.int 0), some (.int (x11 + 1)), none, none, none]) dX12_clerks_209 rfl rfl (by decide) rfl rfl ?_
        refine go_goto (tgt := 174) dX12_clerks_212 (by decide) ?_
        exact h
      · replace h := h.2 hc
        refine go_iconst (v := 1) dX12_clerks_202 (by decide) ?_
        refine go_goto (tgt := 207) dX12_clerks_203 (by decide) ?_
        refine go_istore (lm := [some (.ref (gd g 12)), none, none, some (.int x3), some (.int x4), some (.int x5), some (.int x6), none, some (.int x8), some (.int x9), some (.int 1), some (.int x11), none, none, none]) dX12_clerks_207 (by decide) rfl rfl ?_
        refine go_iinc (v := x11 + 1) (lm := [some (.ref (gd g 12)), none, none, some (.int x3), some (.int x4), some (.int x5), some (.int x6), none, some (.int x8), some (.int x9), some (.int 1), some (.int (x11 + 1)), none, none, none]) dX12_clerks_209 rfl rfl (by decide) rfl rfl ?_
        refine go_goto (tgt := 174) dX12_clerks_212 (by decide) ?_
        exact h
set_option maxRecDepth 100000 in
set_option maxHeartbeats 4000000 in
theorem B_X12_clerks_239 {g : gp} {u : sg} {Q : Option Value → sg → Prop} (x3 : Int32) (x4 : Int32) (x5 : Int32) (x6 : Int32) (x8 : Int32) (x9 : Int32) (x11 : Int32) (h : ((x5 < x11 → Go g iX12_clerks 162 [some (.ref (gd g 12)), none, none, some (.int x3), some (.int x4), some (.int x5), some (.int x6), none, some (.int x8), some (.int (x9 + 1)), none, none, none, none, none] [] u Q) ∧ (¬ x5 < x11 → Go g iX12_waitedAt 0 [some (.ref (gd g 12)), some (.int x8), some (.int x3), some (.int x9), some (.int x4), some (.int x11), none, none, none, none, none, none, none] [] u (QI (fun r1 u1 => (vp_in ((9 * x9) + x11) 36 ∧ Go g iX12_clerks 239 [some (.ref (gd g 12)), none, none, some (.int x3), some (.int x4), some (.int x5), some (.int x6), none, some (.int x8), some (.int x9), none, some (.int (x11 + 1)), none, none, none] [] (sA u1 78 ((9 * x9) + x11).toNatClampNeg r1) Q)))))) : Go g iX12_clerks 239 [some (.ref (gd g 12)), none, none, some (.int x3), some (.int x4), some (.int x5), some (.int x6), none, some (.int x8), some (.int x9), none, some (.int x11), none, none, none] [] u Q := by
  refine go_iload dX12_clerks_239 rfl ?_
  refine go_iload dX12_clerks_241 rfl ?_
  refine go_icmp_gt (tgt := 278) dX12_clerks_243 (by decide) (fun hc => ?_) (fun hc => ?_)
  · replace h := h.1 hc
    refine go_iinc (v := x9 + 1) (lm := [some (.ref (gd g 12)), none, none, some (.int x3), some (.int x4), some (.int x5), some (.int x6), none, some (.int x8), some (.int (x9 + 1)), none, some (.int x11), none, none, none]) dX12_clerks_278 rfl rfl (by decide) rfl rfl ?_
    refine go_goto (tgt := 162) dX12_clerks_281 (by decide) ?_
    refine go_mask [true, true, true, true, true, true, true, true, true, true, true, false, true, true, true] rfl ?_
    exact h
  · replace h := h.2 hc
    refine go_aload_n dX12_clerks_246 rfl rfl ?_
    refine go_get (k := 47) (v := .ref (gd g 78)) dX12_clerks_247 ob_12 (by decide) qf_X12_96 rfl ?_
    refine go_bipush (v := 9) dX12_clerks_250 (by decide) ?_
    refine go_iload dX12_clerks_252 rfl ?_
    refine go_imul dX12_clerks_254 ?_
    refine go_iload dX12_clerks_255 rfl ?_
    refine go_iadd dX12_clerks_257 ?_
    refine go_aload_n dX12_clerks_258 rfl rfl ?_
    refine go_iload dX12_clerks_259 rfl ?_
    refine go_iload_n dX12_clerks_261 rfl rfl ?_
    refine go_iload dX12_clerks_262 rfl ?_
    refine go_iload dX12_clerks_264 rfl ?_
    refine go_iload dX12_clerks_266 rfl ?_
    refine go_cVi (o := 12) (As := [.int x8, .int x3, .int x9, .int x4, .int x11]) (st := [.int ((9 * x9) + x11), .ref (gd g 78)]) (lc := [some (.ref (gd g 12)), some (.int x8), some (.int x3), some (.int x9), some (.int x4), some (.int x11), none, none, none, none, none, none, none]) dX12_clerks_268 me_X12_waitedAt rfl ob_12 qm_X12_359 rfl (Nat.le_of_ble_eq_true rfl) rfl ⟨Nat.le_of_ble_eq_true rfl, Nat.le_of_ble_eq_true rfl⟩ rfl (Nat.le_of_ble_eq_true rfl) h (fun r1 u1 h => ?_)
    obtain ⟨hi, h⟩ := h
    refine go_ist (a := 78) (n := 36) dX12_clerks_271 (by decide) (by decide) rfl hi ?_
    refine go_iinc (v := x11 + 1) (lm := [some (.ref (gd g 12)), none, none, some (.int x3), some (.int x4), some (.int x5), some (.int x6), none, some (.int x8), some (.int x9), none, some (.int (x11 + 1)), none, none, none]) dX12_clerks_272 rfl rfl (by decide) rfl rfl ?_
    refine go_goto (tgt := 239) dX12_clerks_275 (by decide) ?_
    exact h
set_option maxRecDepth 100000 in
set_option maxHeartbeats 4000000 in
theorem B_X12_clerks_292 {g : gp} {u : sg} {Q : Option Value → sg → Prop} (x5 : Int32) (x6 : Int32) (x9 : Int32) (x10 : Int32) (h : ((x10 < (0 : Int32) → ((¬ x9 = (-1000000 : Int32) → ((¬ x6 = (0 : Int32) → (vp_in (x6 - 1) 4 ∧ Q (some (.int (u.2 77 (x6 - 1).toNatClampNeg))) u)) ∧ (x6 = (0 : Int32) → Q (some (.int x9)) u))) ∧ (x9 = (-1000000 : Int32) → Q (some (.int (-1000000 : Int32))) u))) ∧ (¬ x10 < (0 : Int32) → Go g iX12_clerks 304 [some (.ref (gd g 12)), none, none, none, none, some (.int x5), some (.int x6), none, none, some (.int x9), some (.int x10), some (.int (x5 - x10)), none, none, none] [] u Q))) : Go g iX12_clerks 292 [some (.ref (gd g 12)), none, none, none, none, some (.int x5), some (.int x6), none, none, some (.int x9), some (.int x10), none, none, none, none] [] u Q := by
  refine go_iload dX12_clerks_292 rfl ?_
  refine go_if_lt (tgt := 452) dX12_clerks_294 (by decide) (fun hc => ?_) (fun hc => ?_)
  · replace h := h.1 hc
    refine go_iload dX12_clerks_452 rfl ?_
    refine go_ldc dX12_clerks_454 qc_X12_129 ?_
    refine go_icmp_ne (tgt := 464) dX12_clerks_456 (by decide) (fun hc => ?_) (fun hc => ?_)
    · replace h := h.1 hc
      refine go_iload dX12_clerks_464 rfl ?_
      refine go_if_ne (tgt := 474) dX12_clerks_466 (by decide) (fun hc => ?_) (fun hc => ?_)
      · replace h := h.1 hc
        refine go_aload_n dX12_clerks_474 rfl rfl ?_
        refine go_get (k := 46) (v := .ref (gd g 77)) dX12_clerks_475 ob_12 (by decide) qf_X12_93 rfl ?_
        refine go_iload dX12_clerks_478 rfl ?_
        refine go_iconst (v := 1) dX12_clerks_480 (by decide) ?_
        refine go_isub dX12_clerks_481 ?_
        obtain ⟨hi, h⟩ := h
        refine go_ild (a := 77) (n := 4) dX12_clerks_482 (by decide) (by decide) rfl hi ?_
        exact go_iret dX12_clerks_483 rfl h
      · replace h := h.2 hc
        refine go_iload dX12_clerks_469 rfl ?_
        refine go_goto (tgt := 483) dX12_clerks_471 (by decide) ?_
        exact go_iret dX12_clerks_483 rfl h
    · replace h := h.2 hc
      refine go_ldc dX12_clerks_459 qc_X12_129 ?_
      refine go_goto (tgt := 483) dX12_clerks_461 (by decide) ?_
      exact go_iret dX12_clerks_483 rfl h
  · replace h := h.2 hc
    refine go_iload dX12_clerks_297 rfl ?_
    refine go_iload dX12_clerks_299 rfl ?_
    refine go_isub dX12_clerks_301 ?_
    refine go_istore (lm := [some (.ref (gd g 12)), none, none, none, none, some (.int x5), some (.int x6), none, none, some (.int x9), some (.int x10), some (.int (x5 - x10)), none, none, none]) dX12_clerks_302 (by decide) rfl rfl ?_
    exact h
set_option maxRecDepth 100000 in
set_option maxHeartbeats 4000000 in
theorem B_X12_clerks_304 {g : gp} {u : sg} {Q : Option Value → sg → Prop} (x5 : Int32) (x6 : Int32) (x9 : Int32) (x10 : Int32) (x11 : Int32) (h : ((x11 < (0 : Int32) → Go g iX12_clerks 292 [some (.ref (gd g 12)), none, none, none, none, some (.int x5), some (.int x6), none, none, some (.int x9), some (.int (x10 + (-1))), none, none, none, none] [] u Q) ∧ (¬ x11 < (0 : Int32) → Go g iX12_clerks 319 [some (.ref (gd g 12)), none, none, none, none, some (.int x5), some (.int x6), none, none, some (.int x9), some (.int x10), some (.int x11), some (.int ((x5 - x10) - x11)), none, none] [] u Q))) : Go g iX12_clerks 304 [some (.ref (gd g 12)), none, none, none, none, some (.int x5), some (.int x6), none, none, some (.int x9), some (.int x10), some (.int x11), none, none, none] [] u Q := by
  refine go_iload dX12_clerks_304 rfl ?_
  refine go_if_lt (tgt := 446) dX12_clerks_306 (by decide) (fun hc => ?_) (fun hc => ?_)
  · replace h := h.1 hc
    refine go_iinc (v := x10 + (-1)) (lm := [some (.ref (gd g 12)), none, none, none, none, some (.int x5), some (.int x6), none, none, some (.int x9), some (.int (x10 + (-1))), some (.int x11), none, none, none]) dX12_clerks_446 rfl rfl (by decide) rfl rfl ?_
    refine go_goto (tgt := 292) dX12_clerks_449 (by decide) ?_
    refine go_mask [true, true, true, true, true, true, true, true, true, true, true, false, true, true, true] rfl ?_
    exact h
  · replace h := h.2 hc
    refine go_iload dX12_clerks_309 rfl ?_
    refine go_iload dX12_clerks_311 rfl ?_
    refine go_isub dX12_clerks_313 ?_
    refine go_iload dX12_clerks_314 rfl ?_
    refine go_isub dX12_clerks_316 ?_
    refine go_istore (lm := [some (.ref (gd g 12)), none, none, none, none, some (.int x5), some (.int x6), none, none, some (.int x9), some (.int x10), some (.int x11), some (.int ((x5 - x10) - x11)), none, none]) dX12_clerks_317 (by decide) rfl rfl ?_
    exact h
set_option maxRecDepth 100000 in
set_option maxHeartbeats 4000000 in
theorem B_X12_clerks_319 {g : gp} {u : sg} {Q : Option Value → sg → Prop} (x5 : Int32) (x6 : Int32) (x9 : Int32) (x10 : Int32) (x11 : Int32) (x12 : Int32) (h : ((x12 < (0 : Int32) → Go g iX12_clerks 304 [some (.ref (gd g 12)), none, none, none, none, some (.int x5), some (.int x6), none, none, some (.int x9), some (.int x10), some (.int (x11 + (-1))), none, none, none] [] u Q) ∧ (¬ x12 < (0 : Int32) → (vp_in x10 36 ∧ (vp_in (9 + x11) 36 ∧ (vp_in (18 + x12) 36 ∧ (vp_in (27 + (((x5 - x10) - x11) - x12)) 36 ∧ ((((((u.2 78 x10.toNatClampNeg) + (u.2 78 (9 + x11).toNatClampNeg)) + (u.2 78 (18 + x12).toNatClampNeg)) + (u.2 78 (27 + (((x5 - x10) - x11) - x12)).toNatClampNeg)) < (0 : Int32) → Go g iX12_clerks 319 [some (.ref (gd g 12)), none, none, none, none, some (.int x5), some (.int x6), none, none, some (.int x9), some (.int x10), some (.int x11), some (.int (x12 + (-1))), none, none] [] u Q) ∧ (¬ ((((u.2 78 x10.toNatClampNeg) + (u.2 78 (9 + x11).toNatClampNeg)) + (u.2 78 (18 + x12).toNatClampNeg)) + (u.2 78 (27 + (((x5 - x10) - x11) - x12)).toNatClampNeg)) < (0 : Int32) → ((x9 = (-1000000 : Int32) → Go g iX12_clerks 398 [some (.ref (gd g 12)), none, none, none, none, some (.int x5), some (.int x6), none, none, none, some (.int x10), some (.int x11), some (.int x12), some (.int (((x5 - x10) - x11) - x12)), some (.int ((((u.2 78 x10.toNatClampNeg) + (u.2 78 (9 + x11).toNatClampNeg)) + (u.2 78 (18 + x12).toNatClampNeg)) + (u.2 78 (27 + (((x5 - x10) - x11) - x12)).toNatClampNeg)))] [] u Q) ∧ (¬ x9 = (-1000000 : Int32) → ((x9 ≤ ((((u.2 78 x10.toNatClampNeg) + (u.2 78 (9 + x11).toNatClampNeg)) + (u.2 78 (18 + x12).toNatClampNeg)) + (u.2 78 (27 + (((x5 - x10) - x11) - x12)).toNatClampNeg)) → Go g iX12_clerks 319 [some (.ref (gd g 12)), none, none, none, none, some (.int x5), some (.int x6), none, none, some (.int x9), some (.int x10), some (.int x11), some (.int (x12 + (-1))), none, none] [] u Q) ∧ (¬ x9 ≤ ((((u.2 78 x10.toNatClampNeg) + (u.2 78 (9 + x11).toNatClampNeg)) + (u.2 78 (18 + x12).toNatClampNeg)) + (u.2 78 (27 + (((x5 - x10) - x11) - x12)).toNatClampNeg)) → Go g iX12_clerks 398 [some (.ref (gd g 12)), none, none, none, none, some (.int x5), some (.int x6), none, none, none, some (.int x10), some (.int x11), some (.int x12), some (.int (((x5 - x10) - x11) - x12)), some (.int ((((u.2 78 x10.toNatClampNeg) + (u.2 78 (9 + x11).toNatClampNeg)) + (u.2 78 (18 + x12).toNatClampNeg)) + (u.2 78 (27 + (((x5 - x10) - x11) - x12)).toNatClampNeg)))] [] u Q))))))))))))) : Go g iX12_clerks 319 [some (.ref (gd g 12)), none, none, none, none, some (.int x5), some (.int x6), none, none, some (.int x9), some (.int x10), some (.int x11), some (.int x12), none, none] [] u Q := by
  refine go_iload dX12_clerks_319 rfl ?_
  refine go_if_lt (tgt := 440) dX12_clerks_321 (by decide) (fun hc => ?_) (fun hc => ?_)
  · replace h := h.1 hc
    refine go_iinc (v := x11 + (-1)) (lm := [some (.ref (gd g 12)), none, none, none, none, some (.int x5), some (.int x6), none, none, some (.int x9), some (.int x10), some (.int (x11 + (-1))), some (.int x12), none, none]) dX12_clerks_440 rfl rfl (by decide) rfl rfl ?_
    refine go_goto (tgt := 304) dX12_clerks_443 (by decide) ?_
    refine go_mask [true, true, true, true, true, true, true, true, true, true, true, true, false, true, true] rfl ?_
    exact h
  · replace h := h.2 hc
    refine go_iload dX12_clerks_324 rfl ?_
    refine go_iload dX12_clerks_326 rfl ?_
    refine go_isub dX12_clerks_328 ?_
    refine go_iload dX12_clerks_329 rfl ?_
    refine go_isub dX12_clerks_331 ?_
    refine go_iload dX12_clerks_332 rfl ?_
    refine go_isub dX12_clerks_334 ?_
    refine go_istore (lm := [some (.ref (gd g 12)), none, none, none, none, some (.int x5), some (.int x6), none, none, some (.int x9), some (.int x10), some (.int x11), some (.int x12), some (.int (((x5 - x10) - x11) - x12)), none]) dX12_clerks_335 (by decide) rfl rfl ?_
    refine go_aload_n dX12_clerks_337 rfl rfl ?_
    refine go_get (k := 47) (v := .ref (gd g 78)) dX12_clerks_338 ob_12 (by decide) qf_X12_96 rfl ?_
    refine go_iload dX12_clerks_341 rfl ?_
    obtain ⟨hi, h⟩ := h
    refine go_ild (a := 78) (n := 36) dX12_clerks_343 (by decide) (by decide) rfl hi ?_
    refine go_aload_n dX12_clerks_344 rfl rfl ?_
    refine go_get (k := 47) (v := .ref (gd g 78)) dX12_clerks_345 ob_12 (by decide) qf_X12_96 rfl ?_
    refine go_bipush (v := 9) dX12_clerks_348 (by decide) ?_
    refine go_iload dX12_clerks_350 rfl ?_
    refine go_iadd dX12_clerks_352 ?_
    obtain ⟨hi, h⟩ := h
    refine go_ild (a := 78) (n := 36) dX12_clerks_353 (by decide) (by decide) rfl hi ?_
    refine go_iadd dX12_clerks_354 ?_
    refine go_aload_n dX12_clerks_355 rfl rfl ?_
    refine go_get (k := 47) (v := .ref (gd g 78)) dX12_clerks_356 ob_12 (by decide) qf_X12_96 rfl ?_
    refine go_bipush (v := 18) dX12_clerks_359 (by decide) ?_
    refine go_iload dX12_clerks_361 rfl ?_
    refine go_iadd dX12_clerks_363 ?_
    obtain ⟨hi, h⟩ := h
    refine go_ild (a := 78) (n := 36) dX12_clerks_364 (by decide) (by decide) rfl hi ?_
    refine go_iadd dX12_clerks_365 ?_
    refine go_aload_n dX12_clerks_366 rfl rfl ?_
    refine go_get (k := 47) (v := .ref (gd g 78)) dX12_clerks_367 ob_12 (by decide) qf_X12_96 rfl ?_
    refine go_bipush (v := 27) dX12_clerks_370 (by decide) ?_
    refine go_iload dX12_clerks_372 rfl ?_
    refine go_iadd dX12_clerks_374 ?_
    obtain ⟨hi, h⟩ := h
    refine go_ild (a := 78) (n := 36) dX12_clerks_375 (by decide) (by decide) rfl hi ?_
    refine go_iadd dX12_clerks_376 ?_
    refine go_istore (lm := [some (.ref (gd g 12)), none, none, none, none, some (.int x5), some (.int x6), none, none, some (.int x9), some (.int x10), some (.int x11), some (.int x12), some (.int (((x5 - x10) - x11) - x12)), some (.int ((((u.2 78 x10.toNatClampNeg) + (u.2 78 (9 + x11).toNatClampNeg)) + (u.2 78 (18 + x12).toNatClampNeg)) + (u.2 78 (27 + (((x5 - x10) - x11) - x12)).toNatClampNeg)))]) dX12_clerks_377 (by decide) rfl rfl ?_
    refine go_iload dX12_clerks_379 rfl ?_
    refine go_if_lt (tgt := 434) dX12_clerks_381 (by decide) (fun hc => ?_) (fun hc => ?_)
    · replace h := h.1 hc
      refine go_iinc (v := x12 + (-1)) (lm := [some (.ref (gd g 12)), none, none, none, none, some (.int x5), some (.int x6), none, none, some (.int x9), some (.int x10), some (.int x11), some (.int (x12 + (-1))), some (.int (((x5 - x10) - x11) - x12)), some (.int ((((u.2 78 x10.toNatClampNeg) + (u.2 78 (9 + x11).toNatClampNeg)) + (u.2 78 (18 + x12).toNatClampNeg)) + (u.2 78 (27 + (((x5 - x10) - x11) - x12)).toNatClampNeg)))]) dX12_clerks_434 rfl rfl (by decide) rfl rfl ?_
      refine go_goto (tgt := 319) dX12_clerks_437 (by decide) ?_
      refine go_mask [true, true, true, true, true, true, true, true, true, true, true, true, true, false, false] rfl ?_
      exact h
    · replace h := h.2 hc
      refine go_iload dX12_clerks_384 rfl ?_
      refine go_ldc dX12_clerks_386 qc_X12_129 ?_
      refine go_icmp_eq (tgt := 398) dX12_clerks_388 (by decide) (fun hc => ?_) (fun hc => ?_)
      · replace h := h.1 hc
        refine go_mask [true, true, true, true, true, true, true, true, true, false, true, true, true, true, true] rfl ?_
        exact h
      · replace h := h.2 hc
        refine go_iload dX12_clerks_391 rfl ?_
        refine go_iload dX12_clerks_393 rfl ?_
        refine go_icmp_ge (tgt := 434) dX12_clerks_395 (by decide) (fun hc => ?_) (fun hc => ?_)
        · replace h := h.1 hc
          refine go_iinc (v := x12 + (-1)) (lm := [some (.ref (gd g 12)), none, none, none, none, some (.int x5), some (.int x6), none, none, some (.int x9), some (.int x10), some (.int x11), some (.int (x12 + (-1))), some (.int (((x5 - x10) - x11) - x12)), some (.int ((((u.2 78 x10.toNatClampNeg) + (u.2 78 (9 + x11).toNatClampNeg)) + (u.2 78 (18 + x12).toNatClampNeg)) + (u.2 78 (27 + (((x5 - x10) - x11) - x12)).toNatClampNeg)))]) dX12_clerks_434 rfl rfl (by decide) rfl rfl ?_
          refine go_goto (tgt := 319) dX12_clerks_437 (by decide) ?_
          refine go_mask [true, true, true, true, true, true, true, true, true, true, true, true, true, false, false] rfl ?_
          exact h
        · replace h := h.2 hc
          refine go_mask [true, true, true, true, true, true, true, true, true, false, true, true, true, true, true] rfl ?_
          exact h
set_option maxRecDepth 100000 in
set_option maxHeartbeats 4000000 in
theorem B_X12_clerks_398 {g : gp} {u : sg} {Q : Option Value → sg → Prop} (x5 : Int32) (x6 : Int32) (x10 : Int32) (x11 : Int32) (x12 : Int32) (x13 : Int32) (x14 : Int32) (h : (vp_in (0 : Int32) 4 ∧ (vp_in (1 : Int32) 4 ∧ (vp_in (2 : Int32) 4 ∧ (vp_in (3 : Int32) 4 ∧ Go g iX12_clerks 319 [some (.ref (gd g 12)), none, none, none, none, some (.int x5), some (.int x6), none, none, some (.int x14), some (.int x10), some (.int x11), some (.int (x12 + (-1))), none, none] [] (sA (sA (sA (sA u 77 (0 : Int32).toNatClampNeg x10) 77 (1 : Int32).toNatClampNeg x11) 77 (2 : Int32).toNatClampNeg x12) 77 (3 : Int32).toNatClampNeg x13) Q))))) : Go g iX12_clerks 398 [some (.ref (gd g 12)), none, none, none, none, some (.int x5), some (.int x6), none, none, none, some (.int x10), some (.int x11), some (.int x12), some (.int x13), some (.int x14)] [] u Q := by
  refine go_iload dX12_clerks_398 rfl ?_
  refine go_istore (lm := [some (.ref (gd g 12)), none, none, none, none, some (.int x5), some (.int x6), none, none, some (.int x14), some (.int x10), some (.int x11), some (.int x12), some (.int x13), some (.int x14)]) dX12_clerks_400 (by decide) rfl rfl ?_
  refine go_aload_n dX12_clerks_402 rfl rfl ?_
  refine go_get (k := 46) (v := .ref (gd g 77)) dX12_clerks_403 ob_12 (by decide) qf_X12_93 rfl ?_
  refine go_iconst (v := 0) dX12_clerks_406 (by decide) ?_
  refine go_iload dX12_clerks_407 rfl ?_
  obtain ⟨hi, h⟩ := h
  refine go_ist (a := 77) (n := 4) dX12_clerks_409 (by decide) (by decide) rfl hi ?_
  refine go_aload_n dX12_clerks_410 rfl rfl ?_
  refine go_get (k := 46) (v := .ref (gd g 77)) dX12_clerks_411 ob_12 (by decide) qf_X12_93 rfl ?_
  refine go_iconst (v := 1) dX12_clerks_414 (by decide) ?_
  refine go_iload dX12_clerks_415 rfl ?_
  obtain ⟨hi, h⟩ := h
  refine go_ist (a := 77) (n := 4) dX12_clerks_417 (by decide) (by decide) rfl hi ?_
  refine go_aload_n dX12_clerks_418 rfl rfl ?_
  refine go_get (k := 46) (v := .ref (gd g 77)) dX12_clerks_419 ob_12 (by decide) qf_X12_93 rfl ?_
  refine go_iconst (v := 2) dX12_clerks_422 (by decide) ?_
  refine go_iload dX12_clerks_423 rfl ?_
  obtain ⟨hi, h⟩ := h
  refine go_ist (a := 77) (n := 4) dX12_clerks_425 (by decide) (by decide) rfl hi ?_
  refine go_aload_n dX12_clerks_426 rfl rfl ?_
  refine go_get (k := 46) (v := .ref (gd g 77)) dX12_clerks_427 ob_12 (by decide) qf_X12_93 rfl ?_
  refine go_iconst (v := 3) dX12_clerks_430 (by decide) ?_
  refine go_iload dX12_clerks_431 rfl ?_
  obtain ⟨hi, h⟩ := h
  refine go_ist (a := 77) (n := 4) dX12_clerks_433 (by decide) (by decide) rfl hi ?_
  refine go_iinc (v := x12 + (-1)) (lm := [some (.ref (gd g 12)), none, none, none, none, some (.int x5), some (.int x6), none, none, some (.int x14), some (.int x10), some (.int x11), some (.int (x12 + (-1))), some (.int x13), some (.int x14)]) dX12_clerks_434 rfl rfl (by decide) rfl rfl ?_
  refine go_goto (tgt := 319) dX12_clerks_437 (by decide) ?_
  refine go_mask [true, true, true, true, true, true, true, true, true, true, true, true, true, false, false] rfl ?_
  exact h
set_option maxRecDepth 100000 in
set_option maxHeartbeats 4000000 in
theorem B_X12_guest_0 {g : gp} {u : sg} {Q : Option Value → sg → Prop} (x1 : Int32) (x2 : Int32) (x3 : Int32) (x4 : Int32) (h : Go g iX12_isPerson 0 [some (.int x1)] [] (sI u 12 0 (0 : Int32)) (QI (fun r1 u1 => ((r1 = (0 : Int32) → Q (some (.int (-1000001 : Int32))) u1) ∧ (¬ r1 = (0 : Int32) → Go g iX12_in 0 [some (.long (x2.toInt64)), none, some (.long 0), none, some (.long 7), none] [] u1 (QI (fun r2 u2 => ((r2 = (0 : Int32) → Q (some (.int (-1000001 : Int32))) u2) ∧ (¬ r2 = (0 : Int32) → Go g iX12_isDay 0 [some (.int x3)] [] u2 (QI (fun r3 u3 => ((r3 = (0 : Int32) → Q (some (.int (-1000001 : Int32))) u3) ∧ (¬ r3 = (0 : Int32) → Go g iX12_in 0 [some (.long (x4.toInt64)), none, some (.long (x3.toInt64)), none, some (.long 999), none] [] u3 (QI (fun r4 u4 => ((¬ r4 = (0 : Int32) → ((¬ (u4.1 12 48) = (40 : Int32) → (vp_in (u4.1 12 48) 40 ∧ (vp_in (u4.1 12 48) 40 ∧ (vp_in (u4.1 12 48) 40 ∧ (vp_in (u4.1 12 48) 40 ∧ Q (some (.int ((u4.1 12 48) + 1))) (sI (sA (sA (sA (sA u4 79 (u4.1 12 48).toNatClampNeg x1) 80 (u4.1 12 48).toNatClampNeg x2) 81 (u4.1 12 48).toNatClampNeg x3) 82 (u4.1 12 48).toNatClampNeg x4) 12 48 ((u4.1 12 48) + 1))))))) ∧ ((u4.1 12 48) = (40 : Int32) → Q (some (.int (-1000003 : Int32))) u4))) ∧ (r4 = (0 : Int32) → Q (some (.int (-1000001 : Int32))) u4))))))))))))))))) : Go g iX12_guest 0 [some (.ref (gd g 12)), some (.int x1), some (.int x2), some (.int x3), some (.int x4)] [] u Q := by
  refine go_aload_n dX12_guest_0 rfl rfl ?_
  refine go_iconst (v := 0) dX12_guest_1 (by decide) ?_
  refine go_put (k := 0) dX12_guest_2 ob_12 (by decide) qf_X12_1 rfl rfl pf_I ?_
  refine go_iload_n dX12_guest_5 rfl rfl ?_
  refine go_cSi (As := [.int x1]) (st := []) (lc := [some (.int x1)]) dX12_guest_6 me_X12_isPerson qm_X12_338 rfl (Nat.le_of_ble_eq_true rfl) rfl ⟨Nat.le_of_ble_eq_true rfl, Nat.le_of_ble_eq_true rfl⟩ rfl (Nat.le_of_ble_eq_true rfl) h (fun r1 u1 h => ?_)
  refine go_if_eq (tgt := 45) dX12_guest_9 (by decide) (fun hc => ?_) (fun hc => ?_)
  · replace h := h.1 hc
    refine go_ldc dX12_guest_45 qc_X12_142 ?_
    exact go_iret dX12_guest_47 rfl h
  · replace h := h.2 hc
    refine go_iload_n dX12_guest_12 rfl rfl ?_
    refine go_i2l dX12_guest_13 ?_
    refine go_lconst (v := 0) dX12_guest_14 (by decide) ?_
    refine go_ldc2 dX12_guest_15 ql_X12_130 ?_
    refine go_cSi (As := [.long (x2.toInt64), .long 0, .long 7]) (st := []) (lc := [some (.long (x2.toInt64)), none, some (.long 0), none, some (.long 7), none]) dX12_guest_18 me_X12_in qm_X12_132 rfl (Nat.le_of_ble_eq_true rfl) rfl ⟨Nat.le_of_ble_eq_true rfl, Nat.le_of_ble_eq_true rfl⟩ rfl (Nat.le_of_ble_eq_true rfl) h (fun r2 u2 h => ?_)
    refine go_if_eq (tgt := 45) dX12_guest_21 (by decide) (fun hc => ?_) (fun hc => ?_)
    · replace h := h.1 hc
      refine go_ldc dX12_guest_45 qc_X12_142 ?_
      exact go_iret dX12_guest_47 rfl h
    · replace h := h.2 hc
      refine go_iload_n dX12_guest_24 rfl rfl ?_
      refine go_cSi (As := [.int x3]) (st := []) (lc := [some (.int x3)]) dX12_guest_25 me_X12_isDay qm_X12_258 rfl (Nat.le_of_ble_eq_true rfl) rfl ⟨Nat.le_of_ble_eq_true rfl, Nat.le_of_ble_eq_true rfl⟩ rfl (Nat.le_of_ble_eq_true rfl) h (fun r3 u3 h => ?_)
      refine go_if_eq (tgt := 45) dX12_guest_28 (by decide) (fun hc => ?_) (fun hc => ?_)
      · replace h := h.1 hc
        refine go_ldc dX12_guest_45 qc_X12_142 ?_
        exact go_iret dX12_guest_47 rfl h
      · replace h := h.2 hc
        refine go_iload dX12_guest_31 rfl ?_
        refine go_i2l dX12_guest_33 ?_
        refine go_iload_n dX12_guest_34 rfl rfl ?_
        refine go_i2l dX12_guest_35 ?_
        refine go_ldc2 dX12_guest_36 ql_X12_149 ?_
        refine go_cSi (As := [.long (x4.toInt64), .long (x3.toInt64), .long 999]) (st := []) (lc := [some (.long (x4.toInt64)), none, some (.long (x3.toInt64)), none, some (.long 999), none]) dX12_guest_39 me_X12_in qm_X12_132 rfl (Nat.le_of_ble_eq_true rfl) rfl ⟨Nat.le_of_ble_eq_true rfl, Nat.le_of_ble_eq_true rfl⟩ rfl (Nat.le_of_ble_eq_true rfl) h (fun r4 u4 h => ?_)
        refine go_if_ne (tgt := 48) dX12_guest_42 (by decide) (fun hc => ?_) (fun hc => ?_)
        · replace h := h.1 hc
          refine go_aload_n dX12_guest_48 rfl rfl ?_
          refine go_get (k := 48) (v := .int (u4.1 12 48)) dX12_guest_49 ob_12 (by decide) qf_X12_363 rfl ?_
          refine go_bipush (v := 40) dX12_guest_52 (by decide) ?_
          refine go_icmp_ne (tgt := 60) dX12_guest_54 (by decide) (fun hc => ?_) (fun hc => ?_)
          · replace h := h.1 hc
            refine go_aload_n dX12_guest_60 rfl rfl ?_
            refine go_get (k := 49) (v := .ref (gd g 79)) dX12_guest_61 ob_12 (by decide) qf_X12_99 rfl ?_
            refine go_aload_n dX12_guest_64 rfl rfl ?_
            refine go_get (k := 48) (v := .int (u4.1 12 48)) dX12_guest_65 ob_12 (by decide) qf_X12_363 rfl ?_
            refine go_iload_n dX12_guest_68 rfl rfl ?_
            obtain ⟨hi, h⟩ := h
            refine go_ist (a := 79) (n := 40) dX12_guest_69 (by decide) (by decide) rfl hi ?_
            refine go_aload_n dX12_guest_70 rfl rfl ?_
            refine go_get (k := 50) (v := .ref (gd g 80)) dX12_guest_71 ob_12 (by decide) qf_X12_102 rfl ?_
            refine go_aload_n dX12_guest_74 rfl rfl ?_
            refine go_get (k := 48) (v := .int (u4.1 12 48)) dX12_guest_75 ob_12 (by decide) qf_X12_363 rfl ?_
            refine go_iload_n dX12_guest_78 rfl rfl ?_
            obtain ⟨hi, h⟩ := h
            refine go_ist (a := 80) (n := 40) dX12_guest_79 (by decide) (by decide) rfl hi ?_
            refine go_aload_n dX12_guest_80 rfl rfl ?_
            refine go_get (k := 51) (v := .ref (gd g 81)) dX12_guest_81 ob_12 (by decide) qf_X12_105 rfl ?_
            refine go_aload_n dX12_guest_84 rfl rfl ?_
            refine go_get (k := 48) (v := .int (u4.1 12 48)) dX12_guest_85 ob_12 (by decide) qf_X12_363 rfl ?_
            refine go_iload_n dX12_guest_88 rfl rfl ?_
            obtain ⟨hi, h⟩ := h
            refine go_ist (a := 81) (n := 40) dX12_guest_89 (by decide) (by decide) rfl hi ?_
            refine go_aload_n dX12_guest_90 rfl rfl ?_
            refine go_get (k := 52) (v := .ref (gd g 82)) dX12_guest_91 ob_12 (by decide) qf_X12_108 rfl ?_
            refine go_aload_n dX12_guest_94 rfl rfl ?_
            refine go_get (k := 48) (v := .int (u4.1 12 48)) dX12_guest_95 ob_12 (by decide) qf_X12_363 rfl ?_
            refine go_iload dX12_guest_98 rfl ?_
            obtain ⟨hi, h⟩ := h
            refine go_ist (a := 82) (n := 40) dX12_guest_100 (by decide) (by decide) rfl hi ?_
            refine go_aload_n dX12_guest_101 rfl rfl ?_
            refine go_dup dX12_guest_102 rfl ?_
            refine go_get (k := 48) (v := .int (u4.1 12 48)) dX12_guest_103 ob_12 (by decide) qf_X12_363 rfl ?_
            refine go_iconst (v := 1) dX12_guest_106 (by decide) ?_
            refine go_iadd dX12_guest_107 ?_
            refine go_put (k := 48) dX12_guest_108 ob_12 (by decide) qf_X12_363 rfl rfl pf_I ?_
            refine go_aload_n dX12_guest_111 rfl rfl ?_
            refine go_get (k := 48) (v := .int ((u4.1 12 48) + 1)) dX12_guest_112 ob_12 (by decide) qf_X12_363 rfl ?_
            exact go_iret dX12_guest_115 rfl h
          · replace h := h.2 hc
            refine go_ldc dX12_guest_57 qc_X12_170 ?_
            exact go_iret dX12_guest_59 rfl h
        · replace h := h.2 hc
          refine go_ldc dX12_guest_45 qc_X12_142 ?_
          exact go_iret dX12_guest_47 rfl h
