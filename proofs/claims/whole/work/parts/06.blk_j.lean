theorem dX12_fell_0 : decode cX12_fell 0 = .ok (.aload_n 0, 1) := by decide +kernel
theorem dX12_fell_1 : decode cX12_fell 1 = .ok (.iconst 0, 1) := by decide +kernel
theorem dX12_fell_2 : decode cX12_fell 2 = .ok (.putfield 1, 3) := by decide +kernel
theorem dX12_fell_5 : decode cX12_fell 5 = .ok (.iload_n 1, 1) := by decide +kernel
theorem dX12_fell_6 : decode cX12_fell 6 = .ok (.i2l, 1) := by decide +kernel
theorem dX12_fell_7 : decode cX12_fell 7 = .ok (.lconst 0, 1) := by decide +kernel
theorem dX12_fell_8 : decode cX12_fell 8 = .ok (.ldc2_w 130, 3) := by decide +kernel
theorem dX12_fell_11 : decode cX12_fell 11 = .ok (.invokestatic 132, 3) := by decide +kernel
theorem dX12_fell_14 : decode cX12_fell 14 = .ok (.ifCond .eq 10, 3) := by decide +kernel
theorem dX12_fell_17 : decode cX12_fell 17 = .ok (.iload_n 2, 1) := by decide +kernel
theorem dX12_fell_18 : decode cX12_fell 18 = .ok (.invokestatic 258, 3) := by decide +kernel
theorem dX12_fell_21 : decode cX12_fell 21 = .ok (.ifCond .ne 6, 3) := by decide +kernel
theorem dX12_fell_24 : decode cX12_fell 24 = .ok (.ldc 142, 2) := by decide +kernel
theorem dX12_fell_26 : decode cX12_fell 26 = .ok (.ireturn, 1) := by decide +kernel
theorem dX12_fell_27 : decode cX12_fell 27 = .ok (.aload_n 0, 1) := by decide +kernel
theorem dX12_fell_28 : decode cX12_fell 28 = .ok (.getfield 111, 3) := by decide +kernel
theorem dX12_fell_31 : decode cX12_fell 31 = .ok (.iload_n 1, 1) := by decide +kernel
theorem dX12_fell_32 : decode cX12_fell 32 = .ok (.iaload, 1) := by decide +kernel
theorem dX12_fell_33 : decode cX12_fell 33 = .ok (.ldc 129, 2) := by decide +kernel
theorem dX12_fell_35 : decode cX12_fell 35 = .ok (.if_icmp .eq 15, 3) := by decide +kernel
theorem dX12_fell_38 : decode cX12_fell 38 = .ok (.aload_n 0, 1) := by decide +kernel
theorem dX12_fell_39 : decode cX12_fell 39 = .ok (.getfield 111, 3) := by decide +kernel
theorem dX12_fell_42 : decode cX12_fell 42 = .ok (.iload_n 1, 1) := by decide +kernel
theorem dX12_fell_43 : decode cX12_fell 43 = .ok (.iaload, 1) := by decide +kernel
theorem dX12_fell_44 : decode cX12_fell 44 = .ok (.iload_n 2, 1) := by decide +kernel
theorem dX12_fell_45 : decode cX12_fell 45 = .ok (.if_icmp .gt 5, 3) := by decide +kernel
theorem dX12_fell_48 : decode cX12_fell 48 = .ok (.iconst 0, 1) := by decide +kernel
theorem dX12_fell_49 : decode cX12_fell 49 = .ok (.ireturn, 1) := by decide +kernel
theorem dX12_fell_50 : decode cX12_fell 50 = .ok (.aload_n 0, 1) := by decide +kernel
theorem dX12_fell_51 : decode cX12_fell 51 = .ok (.getfield 111, 3) := by decide +kernel
theorem dX12_fell_54 : decode cX12_fell 54 = .ok (.iload_n 1, 1) := by decide +kernel
theorem dX12_fell_55 : decode cX12_fell 55 = .ok (.iload_n 2, 1) := by decide +kernel
theorem dX12_fell_56 : decode cX12_fell 56 = .ok (.iastore, 1) := by decide +kernel
theorem dX12_fell_57 : decode cX12_fell 57 = .ok (.iconst 1, 1) := by decide +kernel
theorem dX12_fell_58 : decode cX12_fell 58 = .ok (.ireturn, 1) := by decide +kernel
theorem dX12_bits_0 : decode cX12_bits 0 = .ok (.iconst 0, 1) := by decide +kernel
theorem dX12_bits_1 : decode cX12_bits 1 = .ok (.istore_n 1, 1) := by decide +kernel
theorem dX12_bits_2 : decode cX12_bits 2 = .ok (.iconst 0, 1) := by decide +kernel
theorem dX12_bits_3 : decode cX12_bits 3 = .ok (.istore_n 2, 1) := by decide +kernel
theorem dX12_bits_4 : decode cX12_bits 4 = .ok (.iload_n 2, 1) := by decide +kernel
theorem dX12_bits_5 : decode cX12_bits 5 = .ok (.bipush 16, 2) := by decide +kernel
theorem dX12_bits_7 : decode cX12_bits 7 = .ok (.if_icmp .ge 17, 3) := by decide +kernel
theorem dX12_bits_10 : decode cX12_bits 10 = .ok (.iload_n 1, 1) := by decide +kernel
theorem dX12_bits_11 : decode cX12_bits 11 = .ok (.iload_n 0, 1) := by decide +kernel
theorem dX12_bits_12 : decode cX12_bits 12 = .ok (.iload_n 2, 1) := by decide +kernel
theorem dX12_bits_13 : decode cX12_bits 13 = .ok (.ishr, 1) := by decide +kernel
theorem dX12_bits_14 : decode cX12_bits 14 = .ok (.iconst 1, 1) := by decide +kernel
theorem dX12_bits_15 : decode cX12_bits 15 = .ok (.iand, 1) := by decide +kernel
theorem dX12_bits_16 : decode cX12_bits 16 = .ok (.iadd, 1) := by decide +kernel
theorem dX12_bits_17 : decode cX12_bits 17 = .ok (.istore_n 1, 1) := by decide +kernel
theorem dX12_bits_18 : decode cX12_bits 18 = .ok (.iinc 2 1, 3) := by decide +kernel
theorem dX12_bits_21 : decode cX12_bits 21 = .ok (.goto (-17), 3) := by decide +kernel
theorem dX12_bits_24 : decode cX12_bits 24 = .ok (.iload_n 1, 1) := by decide +kernel
theorem dX12_bits_25 : decode cX12_bits 25 = .ok (.ireturn, 1) := by decide +kernel
theorem dX12_whoMay_0 : decode cX12_whoMay 0 = .ok (.iconst 0, 1) := by decide +kernel
theorem dX12_whoMay_1 : decode cX12_whoMay 1 = .ok (.istore_n 2, 1) := by decide +kernel
theorem dX12_whoMay_2 : decode cX12_whoMay 2 = .ok (.iconst 0, 1) := by decide +kernel
theorem dX12_whoMay_3 : decode cX12_whoMay 3 = .ok (.istore_n 3, 1) := by decide +kernel
theorem dX12_whoMay_4 : decode cX12_whoMay 4 = .ok (.iload_n 3, 1) := by decide +kernel
theorem dX12_whoMay_5 : decode cX12_whoMay 5 = .ok (.aload_n 0, 1) := by decide +kernel
theorem dX12_whoMay_6 : decode cX12_whoMay 6 = .ok (.getfield 363, 3) := by decide +kernel
theorem dX12_whoMay_9 : decode cX12_whoMay 9 = .ok (.if_icmp .ge 81, 3) := by decide +kernel
theorem dX12_whoMay_12 : decode cX12_whoMay 12 = .ok (.aload_n 0, 1) := by decide +kernel
theorem dX12_whoMay_13 : decode cX12_whoMay 13 = .ok (.getfield 102, 3) := by decide +kernel
theorem dX12_whoMay_16 : decode cX12_whoMay 16 = .ok (.iload_n 3, 1) := by decide +kernel
theorem dX12_whoMay_17 : decode cX12_whoMay 17 = .ok (.iaload, 1) := by decide +kernel
theorem dX12_whoMay_18 : decode cX12_whoMay 18 = .ok (.iload_n 1, 1) := by decide +kernel
theorem dX12_whoMay_19 : decode cX12_whoMay 19 = .ok (.if_icmp .ne 42, 3) := by decide +kernel
theorem dX12_whoMay_22 : decode cX12_whoMay 22 = .ok (.aload_n 0, 1) := by decide +kernel
theorem dX12_whoMay_23 : decode cX12_whoMay 23 = .ok (.getfield 105, 3) := by decide +kernel
theorem dX12_whoMay_26 : decode cX12_whoMay 26 = .ok (.iload_n 3, 1) := by decide +kernel
theorem dX12_whoMay_27 : decode cX12_whoMay 27 = .ok (.iaload, 1) := by decide +kernel
theorem dX12_whoMay_28 : decode cX12_whoMay 28 = .ok (.aload_n 0, 1) := by decide +kernel
theorem dX12_whoMay_29 : decode cX12_whoMay 29 = .ok (.getfield 111, 3) := by decide +kernel
theorem dX12_whoMay_32 : decode cX12_whoMay 32 = .ok (.iload_n 1, 1) := by decide +kernel
theorem dX12_whoMay_33 : decode cX12_whoMay 33 = .ok (.iaload, 1) := by decide +kernel
theorem dX12_whoMay_34 : decode cX12_whoMay 34 = .ok (.iconst 2, 1) := by decide +kernel
theorem dX12_whoMay_35 : decode cX12_whoMay 35 = .ok (.isub, 1) := by decide +kernel
theorem dX12_whoMay_36 : decode cX12_whoMay 36 = .ok (.if_icmp .gt 25, 3) := by decide +kernel
theorem dX12_whoMay_39 : decode cX12_whoMay 39 = .ok (.aload_n 0, 1) := by decide +kernel
theorem dX12_whoMay_40 : decode cX12_whoMay 40 = .ok (.getfield 108, 3) := by decide +kernel
theorem dX12_whoMay_43 : decode cX12_whoMay 43 = .ok (.iload_n 3, 1) := by decide +kernel
theorem dX12_whoMay_44 : decode cX12_whoMay 44 = .ok (.iaload, 1) := by decide +kernel
theorem dX12_whoMay_45 : decode cX12_whoMay 45 = .ok (.aload_n 0, 1) := by decide +kernel
theorem dX12_whoMay_46 : decode cX12_whoMay 46 = .ok (.getfield 111, 3) := by decide +kernel
theorem dX12_whoMay_49 : decode cX12_whoMay 49 = .ok (.iload_n 1, 1) := by decide +kernel
theorem dX12_whoMay_50 : decode cX12_whoMay 50 = .ok (.iaload, 1) := by decide +kernel
theorem dX12_whoMay_51 : decode cX12_whoMay 51 = .ok (.bipush 10, 2) := by decide +kernel
theorem dX12_whoMay_53 : decode cX12_whoMay 53 = .ok (.isub, 1) := by decide +kernel
theorem dX12_whoMay_54 : decode cX12_whoMay 54 = .ok (.if_icmp .lt 7, 3) := by decide +kernel
theorem dX12_whoMay_57 : decode cX12_whoMay 57 = .ok (.iconst 1, 1) := by decide +kernel
theorem dX12_whoMay_58 : decode cX12_whoMay 58 = .ok (.goto 4, 3) := by decide +kernel
theorem dX12_whoMay_61 : decode cX12_whoMay 61 = .ok (.iconst 0, 1) := by decide +kernel
theorem dX12_whoMay_62 : decode cX12_whoMay 62 = .ok (.istore 4, 2) := by decide +kernel
theorem dX12_whoMay_64 : decode cX12_whoMay 64 = .ok (.iload_n 2, 1) := by decide +kernel
theorem dX12_whoMay_65 : decode cX12_whoMay 65 = .ok (.iload 4, 2) := by decide +kernel
theorem dX12_whoMay_67 : decode cX12_whoMay 67 = .ok (.ifCond .eq 14, 3) := by decide +kernel
theorem dX12_whoMay_70 : decode cX12_whoMay 70 = .ok (.iconst 1, 1) := by decide +kernel
theorem dX12_whoMay_71 : decode cX12_whoMay 71 = .ok (.aload_n 0, 1) := by decide +kernel
theorem dX12_whoMay_72 : decode cX12_whoMay 72 = .ok (.getfield 99, 3) := by decide +kernel
theorem dX12_whoMay_75 : decode cX12_whoMay 75 = .ok (.iload_n 3, 1) := by decide +kernel
theorem dX12_whoMay_76 : decode cX12_whoMay 76 = .ok (.iaload, 1) := by decide +kernel
theorem dX12_whoMay_77 : decode cX12_whoMay 77 = .ok (.ishl, 1) := by decide +kernel
theorem dX12_whoMay_78 : decode cX12_whoMay 78 = .ok (.goto 4, 3) := by decide +kernel
theorem dX12_whoMay_81 : decode cX12_whoMay 81 = .ok (.iconst 0, 1) := by decide +kernel
theorem dX12_whoMay_82 : decode cX12_whoMay 82 = .ok (.ior, 1) := by decide +kernel
theorem dX12_whoMay_83 : decode cX12_whoMay 83 = .ok (.istore_n 2, 1) := by decide +kernel
theorem dX12_whoMay_84 : decode cX12_whoMay 84 = .ok (.iinc 3 1, 3) := by decide +kernel
theorem dX12_whoMay_87 : decode cX12_whoMay 87 = .ok (.goto (-83), 3) := by decide +kernel
theorem dX12_whoMay_90 : decode cX12_whoMay 90 = .ok (.iload_n 2, 1) := by decide +kernel
theorem dX12_whoMay_91 : decode cX12_whoMay 91 = .ok (.ireturn, 1) := by decide +kernel
theorem dX12_brought_0 : decode cX12_brought 0 = .ok (.aload_n 0, 1) := by decide +kernel
theorem dX12_brought_1 : decode cX12_brought 1 = .ok (.iconst 0, 1) := by decide +kernel
theorem dX12_brought_2 : decode cX12_brought 2 = .ok (.putfield 1, 3) := by decide +kernel
theorem dX12_brought_5 : decode cX12_brought 5 = .ok (.iload_n 1, 1) := by decide +kernel
theorem dX12_brought_6 : decode cX12_brought 6 = .ok (.i2l, 1) := by decide +kernel
theorem dX12_brought_7 : decode cX12_brought 7 = .ok (.lconst 0, 1) := by decide +kernel
theorem dX12_brought_8 : decode cX12_brought 8 = .ok (.ldc2_w 140, 3) := by decide +kernel
theorem dX12_brought_11 : decode cX12_brought 11 = .ok (.invokestatic 132, 3) := by decide +kernel
theorem dX12_brought_14 : decode cX12_brought 14 = .ok (.ifCond .ne 6, 3) := by decide +kernel
theorem dX12_brought_17 : decode cX12_brought 17 = .ok (.ldc 142, 2) := by decide +kernel
theorem dX12_brought_19 : decode cX12_brought 19 = .ok (.ireturn, 1) := by decide +kernel
theorem dX12_brought_20 : decode cX12_brought 20 = .ok (.iconst 0, 1) := by decide +kernel
theorem dX12_brought_21 : decode cX12_brought 21 = .ok (.istore_n 2, 1) := by decide +kernel
theorem dX12_brought_22 : decode cX12_brought 22 = .ok (.iconst 0, 1) := by decide +kernel
theorem dX12_brought_23 : decode cX12_brought 23 = .ok (.istore_n 3, 1) := by decide +kernel
theorem dX12_brought_24 : decode cX12_brought 24 = .ok (.iload_n 3, 1) := by decide +kernel
theorem dX12_brought_25 : decode cX12_brought 25 = .ok (.bipush 8, 2) := by decide +kernel
theorem dX12_brought_27 : decode cX12_brought 27 = .ok (.if_icmp .ge 32, 3) := by decide +kernel
theorem dX12_brought_30 : decode cX12_brought 30 = .ok (.iload_n 2, 1) := by decide +kernel
theorem dX12_brought_31 : decode cX12_brought 31 = .ok (.aload_n 0, 1) := by decide +kernel
theorem dX12_brought_32 : decode cX12_brought 32 = .ok (.getfield 111, 3) := by decide +kernel
theorem dX12_brought_35 : decode cX12_brought 35 = .ok (.iload_n 3, 1) := by decide +kernel
theorem dX12_brought_36 : decode cX12_brought 36 = .ok (.iaload, 1) := by decide +kernel
theorem dX12_brought_37 : decode cX12_brought 37 = .ok (.ldc 129, 2) := by decide +kernel
theorem dX12_brought_39 : decode cX12_brought 39 = .ok (.if_icmp .ne 7, 3) := by decide +kernel
theorem dX12_brought_42 : decode cX12_brought 42 = .ok (.iconst 0, 1) := by decide +kernel
theorem dX12_brought_43 : decode cX12_brought 43 = .ok (.goto 8, 3) := by decide +kernel
theorem dX12_brought_46 : decode cX12_brought 46 = .ok (.aload_n 0, 1) := by decide +kernel
theorem dX12_brought_47 : decode cX12_brought 47 = .ok (.iload_n 3, 1) := by decide +kernel
theorem dX12_brought_48 : decode cX12_brought 48 = .ok (.invokevirtual 366, 3) := by decide +kernel
theorem dX12_brought_51 : decode cX12_brought 51 = .ok (.ior, 1) := by decide +kernel
theorem dX12_brought_52 : decode cX12_brought 52 = .ok (.istore_n 2, 1) := by decide +kernel
theorem dX12_brought_53 : decode cX12_brought 53 = .ok (.iinc 3 1, 3) := by decide +kernel
theorem dX12_brought_56 : decode cX12_brought 56 = .ok (.goto (-32), 3) := by decide +kernel
theorem dX12_brought_59 : decode cX12_brought 59 = .ok (.iload_n 1, 1) := by decide +kernel
theorem dX12_brought_60 : decode cX12_brought 60 = .ok (.iconst 2, 1) := by decide +kernel
theorem dX12_brought_61 : decode cX12_brought 61 = .ok (.if_icmp .ne 5, 3) := by decide +kernel
theorem dX12_brought_64 : decode cX12_brought 64 = .ok (.iload_n 2, 1) := by decide +kernel
theorem dX12_brought_65 : decode cX12_brought 65 = .ok (.ireturn, 1) := by decide +kernel
theorem dX12_brought_66 : decode cX12_brought 66 = .ok (.ldc 129, 2) := by decide +kernel
theorem dX12_brought_68 : decode cX12_brought 68 = .ok (.istore_n 3, 1) := by decide +kernel
theorem dX12_brought_69 : decode cX12_brought 69 = .ok (.iconst 0, 1) := by decide +kernel
theorem dX12_brought_70 : decode cX12_brought 70 = .ok (.istore 4, 2) := by decide +kernel
theorem dX12_brought_72 : decode cX12_brought 72 = .ok (.iconst 0, 1) := by decide +kernel
theorem dX12_brought_73 : decode cX12_brought 73 = .ok (.istore 5, 2) := by decide +kernel
theorem dX12_brought_75 : decode cX12_brought 75 = .ok (.iload 5, 2) := by decide +kernel
theorem dX12_brought_77 : decode cX12_brought 77 = .ok (.sipush 4096, 3) := by decide +kernel
theorem dX12_brought_80 : decode cX12_brought 80 = .ok (.if_icmp .ge 127, 3) := by decide +kernel
theorem dX12_brought_83 : decode cX12_brought 83 = .ok (.iload_n 3, 1) := by decide +kernel
theorem dX12_brought_84 : decode cX12_brought 84 = .ok (.ldc 129, 2) := by decide +kernel
theorem dX12_brought_86 : decode cX12_brought 86 = .ok (.if_icmp .eq 15, 3) := by decide +kernel
theorem dX12_brought_89 : decode cX12_brought 89 = .ok (.iload 5, 2) := by decide +kernel
theorem dX12_brought_91 : decode cX12_brought 91 = .ok (.invokestatic 369, 3) := by decide +kernel
theorem dX12_brought_94 : decode cX12_brought 94 = .ok (.iload_n 3, 1) := by decide +kernel
theorem dX12_brought_95 : decode cX12_brought 95 = .ok (.invokestatic 369, 3) := by decide +kernel
theorem dX12_brought_98 : decode cX12_brought 98 = .ok (.if_icmp .gt 103, 3) := by decide +kernel
theorem dX12_brought_101 : decode cX12_brought 101 = .ok (.iconst 1, 1) := by decide +kernel
theorem dX12_brought_102 : decode cX12_brought 102 = .ok (.istore 6, 2) := by decide +kernel
theorem dX12_brought_104 : decode cX12_brought 104 = .ok (.iconst 0, 1) := by decide +kernel
theorem dX12_brought_105 : decode cX12_brought 105 = .ok (.istore 7, 2) := by decide +kernel
theorem dX12_brought_107 : decode cX12_brought 107 = .ok (.iload 7, 2) := by decide +kernel
theorem dX12_brought_109 : decode cX12_brought 109 = .ok (.bipush 8, 2) := by decide +kernel
theorem dX12_brought_111 : decode cX12_brought 111 = .ok (.if_icmp .ge 45, 3) := by decide +kernel
theorem dX12_brought_114 : decode cX12_brought 114 = .ok (.iload 6, 2) := by decide +kernel
theorem dX12_brought_116 : decode cX12_brought 116 = .ok (.ifCond .eq 31, 3) := by decide +kernel
theorem dX12_brought_119 : decode cX12_brought 119 = .ok (.aload_n 0, 1) := by decide +kernel
theorem dX12_brought_120 : decode cX12_brought 120 = .ok (.getfield 111, 3) := by decide +kernel
theorem dX12_brought_123 : decode cX12_brought 123 = .ok (.iload 7, 2) := by decide +kernel
theorem dX12_brought_125 : decode cX12_brought 125 = .ok (.iaload, 1) := by decide +kernel
theorem dX12_brought_126 : decode cX12_brought 126 = .ok (.ldc 129, 2) := by decide +kernel
theorem dX12_brought_128 : decode cX12_brought 128 = .ok (.if_icmp .eq 15, 3) := by decide +kernel
theorem dX12_brought_131 : decode cX12_brought 131 = .ok (.aload_n 0, 1) := by decide +kernel
theorem dX12_brought_132 : decode cX12_brought 132 = .ok (.iload 7, 2) := by decide +kernel
theorem dX12_brought_134 : decode cX12_brought 134 = .ok (.invokevirtual 366, 3) := by decide +kernel
theorem dX12_brought_137 : decode cX12_brought 137 = .ok (.iload 5, 2) := by decide +kernel
theorem dX12_brought_139 : decode cX12_brought 139 = .ok (.iand, 1) := by decide +kernel
theorem dX12_brought_140 : decode cX12_brought 140 = .ok (.ifCond .eq 7, 3) := by decide +kernel
theorem dX12_brought_143 : decode cX12_brought 143 = .ok (.iconst 1, 1) := by decide +kernel
theorem dX12_brought_144 : decode cX12_brought 144 = .ok (.goto 4, 3) := by decide +kernel
theorem dX12_brought_147 : decode cX12_brought 147 = .ok (.iconst 0, 1) := by decide +kernel
theorem dX12_brought_148 : decode cX12_brought 148 = .ok (.istore 6, 2) := by decide +kernel
theorem dX12_brought_150 : decode cX12_brought 150 = .ok (.iinc 7 1, 3) := by decide +kernel
theorem dX12_brought_153 : decode cX12_brought 153 = .ok (.goto (-46), 3) := by decide +kernel
theorem dX12_brought_156 : decode cX12_brought 156 = .ok (.iload 6, 2) := by decide +kernel
theorem dX12_brought_158 : decode cX12_brought 158 = .ok (.ifCond .eq 31, 3) := by decide +kernel
theorem dX12_brought_161 : decode cX12_brought 161 = .ok (.iload_n 3, 1) := by decide +kernel
theorem dX12_brought_162 : decode cX12_brought 162 = .ok (.ldc 129, 2) := by decide +kernel
theorem dX12_brought_164 : decode cX12_brought 164 = .ok (.if_icmp .eq 15, 3) := by decide +kernel
theorem dX12_brought_167 : decode cX12_brought 167 = .ok (.iload 5, 2) := by decide +kernel
theorem dX12_brought_169 : decode cX12_brought 169 = .ok (.invokestatic 369, 3) := by decide +kernel
theorem dX12_brought_172 : decode cX12_brought 172 = .ok (.iload_n 3, 1) := by decide +kernel
theorem dX12_brought_173 : decode cX12_brought 173 = .ok (.invokestatic 369, 3) := by decide +kernel
theorem dX12_brought_176 : decode cX12_brought 176 = .ok (.if_icmp .ge 13, 3) := by decide +kernel
theorem dX12_brought_179 : decode cX12_brought 179 = .ok (.iload 5, 2) := by decide +kernel
theorem dX12_brought_181 : decode cX12_brought 181 = .ok (.istore_n 3, 1) := by decide +kernel
theorem dX12_brought_182 : decode cX12_brought 182 = .ok (.iload 5, 2) := by decide +kernel
theorem dX12_brought_184 : decode cX12_brought 184 = .ok (.istore 4, 2) := by decide +kernel
theorem dX12_brought_186 : decode cX12_brought 186 = .ok (.goto 15, 3) := by decide +kernel
theorem dX12_brought_189 : decode cX12_brought 189 = .ok (.iload 6, 2) := by decide +kernel
theorem dX12_brought_191 : decode cX12_brought 191 = .ok (.ifCond .eq 10, 3) := by decide +kernel
theorem dX12_brought_194 : decode cX12_brought 194 = .ok (.iload 4, 2) := by decide +kernel
theorem dX12_brought_196 : decode cX12_brought 196 = .ok (.iload 5, 2) := by decide +kernel
theorem dX12_brought_198 : decode cX12_brought 198 = .ok (.iand, 1) := by decide +kernel
theorem dX12_brought_199 : decode cX12_brought 199 = .ok (.istore 4, 2) := by decide +kernel
theorem dX12_brought_201 : decode cX12_brought 201 = .ok (.iinc 5 1, 3) := by decide +kernel
theorem dX12_brought_204 : decode cX12_brought 204 = .ok (.goto (-129), 3) := by decide +kernel
theorem dX12_brought_207 : decode cX12_brought 207 = .ok (.iload_n 1, 1) := by decide +kernel
theorem dX12_brought_208 : decode cX12_brought 208 = .ok (.ifCond .ne 7, 3) := by decide +kernel
theorem dX12_brought_211 : decode cX12_brought 211 = .ok (.iload_n 3, 1) := by decide +kernel
theorem dX12_brought_212 : decode cX12_brought 212 = .ok (.goto 5, 3) := by decide +kernel
theorem dX12_brought_215 : decode cX12_brought 215 = .ok (.iload 4, 2) := by decide +kernel
theorem dX12_brought_217 : decode cX12_brought 217 = .ok (.ireturn, 1) := by decide +kernel
theorem dX12_isLength_0 : decode cX12_isLength 0 = .ok (.iload_n 0, 1) := by decide +kernel
theorem dX12_isLength_1 : decode cX12_isLength 1 = .ok (.i2l, 1) := by decide +kernel
theorem dX12_isLength_2 : decode cX12_isLength 2 = .ok (.lconst 0, 1) := by decide +kernel
theorem dX12_isLength_3 : decode cX12_isLength 3 = .ok (.ldc2_w 323, 3) := by decide +kernel
theorem dX12_isLength_6 : decode cX12_isLength 6 = .ok (.invokestatic 132, 3) := by decide +kernel
theorem dX12_isLength_9 : decode cX12_isLength 9 = .ok (.ireturn, 1) := by decide +kernel
theorem dX12_high_0 : decode cX12_high 0 = .ok (.aload_n 0, 1) := by decide +kernel
theorem dX12_high_1 : decode cX12_high 1 = .ok (.iconst 0, 1) := by decide +kernel
theorem dX12_high_2 : decode cX12_high 2 = .ok (.putfield 1, 3) := by decide +kernel
theorem dX12_high_5 : decode cX12_high 5 = .ok (.iload_n 1, 1) := by decide +kernel
theorem dX12_high_6 : decode cX12_high 6 = .ok (.invokestatic 372, 3) := by decide +kernel
theorem dX12_high_9 : decode cX12_high 9 = .ok (.ifCond .eq 15, 3) := by decide +kernel
theorem dX12_high_12 : decode cX12_high 12 = .ok (.iload_n 2, 1) := by decide +kernel
theorem dX12_high_13 : decode cX12_high 13 = .ok (.i2l, 1) := by decide +kernel
theorem dX12_high_14 : decode cX12_high 14 = .ok (.lconst 1, 1) := by decide +kernel
theorem dX12_high_15 : decode cX12_high 15 = .ok (.ldc2_w 295, 3) := by decide +kernel
theorem dX12_high_18 : decode cX12_high 18 = .ok (.invokestatic 132, 3) := by decide +kernel
theorem dX12_high_21 : decode cX12_high 21 = .ok (.ifCond .ne 6, 3) := by decide +kernel
theorem dX12_high_24 : decode cX12_high 24 = .ok (.ldc 142, 2) := by decide +kernel
theorem dX12_high_26 : decode cX12_high 26 = .ok (.ireturn, 1) := by decide +kernel
theorem dX12_high_27 : decode cX12_high 27 = .ok (.aload_n 0, 1) := by decide +kernel
theorem dX12_high_28 : decode cX12_high 28 = .ok (.getfield 114, 3) := by decide +kernel
theorem dX12_high_31 : decode cX12_high 31 = .ok (.iload_n 1, 1) := by decide +kernel
theorem dX12_high_32 : decode cX12_high 32 = .ok (.iaload, 1) := by decide +kernel
theorem dX12_high_33 : decode cX12_high 33 = .ok (.istore_n 3, 1) := by decide +kernel
theorem dX12_high_34 : decode cX12_high 34 = .ok (.aload_n 0, 1) := by decide +kernel
theorem dX12_high_35 : decode cX12_high 35 = .ok (.getfield 114, 3) := by decide +kernel
theorem dX12_high_38 : decode cX12_high 38 = .ok (.iload_n 1, 1) := by decide +kernel
theorem dX12_high_39 : decode cX12_high 39 = .ok (.iload_n 2, 1) := by decide +kernel
theorem dX12_high_40 : decode cX12_high 40 = .ok (.iastore, 1) := by decide +kernel
theorem dX12_high_41 : decode cX12_high 41 = .ok (.iload_n 3, 1) := by decide +kernel
theorem dX12_high_42 : decode cX12_high 42 = .ok (.ireturn, 1) := by decide +kernel
theorem dX12_lean_0 : decode cX12_lean 0 = .ok (.aload_n 0, 1) := by decide +kernel
theorem dX12_lean_1 : decode cX12_lean 1 = .ok (.iconst 0, 1) := by decide +kernel
theorem dX12_lean_2 : decode cX12_lean 2 = .ok (.putfield 1, 3) := by decide +kernel
theorem dX12_lean_5 : decode cX12_lean 5 = .ok (.iload_n 1, 1) := by decide +kernel
theorem dX12_lean_6 : decode cX12_lean 6 = .ok (.invokestatic 372, 3) := by decide +kernel
theorem dX12_lean_9 : decode cX12_lean 9 = .ok (.ifCond .eq 27, 3) := by decide +kernel
theorem dX12_lean_12 : decode cX12_lean 12 = .ok (.iload_n 2, 1) := by decide +kernel
theorem dX12_lean_13 : decode cX12_lean 13 = .ok (.i2l, 1) := by decide +kernel
theorem dX12_lean_14 : decode cX12_lean 14 = .ok (.lconst 0, 1) := by decide +kernel
theorem dX12_lean_15 : decode cX12_lean 15 = .ok (.ldc2_w 295, 3) := by decide +kernel
theorem dX12_lean_18 : decode cX12_lean 18 = .ok (.invokestatic 132, 3) := by decide +kernel
theorem dX12_lean_21 : decode cX12_lean 21 = .ok (.ifCond .eq 15, 3) := by decide +kernel
theorem dX12_lean_24 : decode cX12_lean 24 = .ok (.iload_n 3, 1) := by decide +kernel
theorem dX12_lean_25 : decode cX12_lean 25 = .ok (.i2l, 1) := by decide +kernel
theorem dX12_lean_26 : decode cX12_lean 26 = .ok (.lconst 0, 1) := by decide +kernel
theorem dX12_lean_27 : decode cX12_lean 27 = .ok (.ldc2_w 295, 3) := by decide +kernel
theorem dX12_lean_30 : decode cX12_lean 30 = .ok (.invokestatic 132, 3) := by decide +kernel
theorem dX12_lean_33 : decode cX12_lean 33 = .ok (.ifCond .ne 6, 3) := by decide +kernel
theorem dX12_lean_36 : decode cX12_lean 36 = .ok (.ldc 142, 2) := by decide +kernel
theorem dX12_lean_38 : decode cX12_lean 38 = .ok (.ireturn, 1) := by decide +kernel
theorem dX12_lean_39 : decode cX12_lean 39 = .ok (.aload_n 0, 1) := by decide +kernel
theorem dX12_lean_40 : decode cX12_lean 40 = .ok (.getfield 375, 3) := by decide +kernel
theorem dX12_lean_43 : decode cX12_lean 43 = .ok (.bipush 20, 2) := by decide +kernel
theorem dX12_lean_45 : decode cX12_lean 45 = .ok (.if_icmp .ne 6, 3) := by decide +kernel
theorem dX12_lean_48 : decode cX12_lean 48 = .ok (.ldc 170, 2) := by decide +kernel
theorem dX12_lean_50 : decode cX12_lean 50 = .ok (.ireturn, 1) := by decide +kernel
theorem dX12_lean_51 : decode cX12_lean 51 = .ok (.aload_n 0, 1) := by decide +kernel
theorem dX12_lean_52 : decode cX12_lean 52 = .ok (.getfield 117, 3) := by decide +kernel
theorem dX12_lean_55 : decode cX12_lean 55 = .ok (.aload_n 0, 1) := by decide +kernel
theorem dX12_lean_56 : decode cX12_lean 56 = .ok (.getfield 375, 3) := by decide +kernel
theorem dX12_lean_59 : decode cX12_lean 59 = .ok (.iload_n 1, 1) := by decide +kernel
theorem dX12_lean_60 : decode cX12_lean 60 = .ok (.iastore, 1) := by decide +kernel
theorem dX12_lean_61 : decode cX12_lean 61 = .ok (.aload_n 0, 1) := by decide +kernel
theorem dX12_lean_62 : decode cX12_lean 62 = .ok (.getfield 120, 3) := by decide +kernel
theorem dX12_lean_65 : decode cX12_lean 65 = .ok (.aload_n 0, 1) := by decide +kernel
theorem dX12_lean_66 : decode cX12_lean 66 = .ok (.getfield 375, 3) := by decide +kernel
theorem dX12_lean_69 : decode cX12_lean 69 = .ok (.iload_n 2, 1) := by decide +kernel
theorem dX12_lean_70 : decode cX12_lean 70 = .ok (.iastore, 1) := by decide +kernel
theorem dX12_lean_71 : decode cX12_lean 71 = .ok (.aload_n 0, 1) := by decide +kernel
theorem dX12_lean_72 : decode cX12_lean 72 = .ok (.getfield 123, 3) := by decide +kernel
theorem dX12_lean_75 : decode cX12_lean 75 = .ok (.aload_n 0, 1) := by decide +kernel
theorem dX12_lean_76 : decode cX12_lean 76 = .ok (.getfield 375, 3) := by decide +kernel
theorem dX12_lean_79 : decode cX12_lean 79 = .ok (.iload_n 3, 1) := by decide +kernel
theorem dX12_lean_80 : decode cX12_lean 80 = .ok (.iastore, 1) := by decide +kernel
theorem dX12_lean_81 : decode cX12_lean 81 = .ok (.aload_n 0, 1) := by decide +kernel
theorem dX12_lean_82 : decode cX12_lean 82 = .ok (.dup, 1) := by decide +kernel
theorem dX12_lean_83 : decode cX12_lean 83 = .ok (.getfield 375, 3) := by decide +kernel
theorem dX12_lean_86 : decode cX12_lean 86 = .ok (.iconst 1, 1) := by decide +kernel
theorem dX12_lean_87 : decode cX12_lean 87 = .ok (.iadd, 1) := by decide +kernel
theorem dX12_lean_88 : decode cX12_lean 88 = .ok (.putfield 375, 3) := by decide +kernel
theorem dX12_lean_91 : decode cX12_lean 91 = .ok (.aload_n 0, 1) := by decide +kernel
theorem dX12_lean_92 : decode cX12_lean 92 = .ok (.getfield 375, 3) := by decide +kernel
theorem dX12_lean_95 : decode cX12_lean 95 = .ok (.ireturn, 1) := by decide +kernel
theorem dX12_breachesNow_0 : decode cX12_breachesNow 0 = .ok (.iconst 0, 1) := by decide +kernel
theorem dX12_breachesNow_1 : decode cX12_breachesNow 1 = .ok (.istore_n 1, 1) := by decide +kernel
theorem dX12_breachesNow_2 : decode cX12_breachesNow 2 = .ok (.iconst 0, 1) := by decide +kernel
theorem dX12_breachesNow_3 : decode cX12_breachesNow 3 = .ok (.istore_n 2, 1) := by decide +kernel
theorem dX12_breachesNow_4 : decode cX12_breachesNow 4 = .ok (.iload_n 2, 1) := by decide +kernel
theorem dX12_breachesNow_5 : decode cX12_breachesNow 5 = .ok (.bipush 12, 2) := by decide +kernel
theorem dX12_breachesNow_7 : decode cX12_breachesNow 7 = .ok (.if_icmp .ge 138, 3) := by decide +kernel
theorem dX12_breachesNow_10 : decode cX12_breachesNow 10 = .ok (.iconst 0, 1) := by decide +kernel
theorem dX12_breachesNow_11 : decode cX12_breachesNow 11 = .ok (.istore_n 3, 1) := by decide +kernel
theorem dX12_breachesNow_12 : decode cX12_breachesNow 12 = .ok (.iconst 0, 1) := by decide +kernel
theorem dX12_breachesNow_13 : decode cX12_breachesNow 13 = .ok (.istore 4, 2) := by decide +kernel
theorem dX12_breachesNow_15 : decode cX12_breachesNow 15 = .ok (.iconst 0, 1) := by decide +kernel
theorem dX12_breachesNow_16 : decode cX12_breachesNow 16 = .ok (.istore 5, 2) := by decide +kernel
theorem dX12_breachesNow_18 : decode cX12_breachesNow 18 = .ok (.iload 5, 2) := by decide +kernel
theorem dX12_breachesNow_20 : decode cX12_breachesNow 20 = .ok (.aload_n 0, 1) := by decide +kernel
theorem dX12_breachesNow_21 : decode cX12_breachesNow 21 = .ok (.getfield 375, 3) := by decide +kernel
theorem dX12_breachesNow_24 : decode cX12_breachesNow 24 = .ok (.if_icmp .ge 80, 3) := by decide +kernel
theorem dX12_breachesNow_27 : decode cX12_breachesNow 27 = .ok (.aload_n 0, 1) := by decide +kernel
theorem dX12_breachesNow_28 : decode cX12_breachesNow 28 = .ok (.getfield 117, 3) := by decide +kernel
theorem dX12_breachesNow_31 : decode cX12_breachesNow 31 = .ok (.iload 5, 2) := by decide +kernel
theorem dX12_breachesNow_33 : decode cX12_breachesNow 33 = .ok (.iaload, 1) := by decide +kernel
theorem dX12_breachesNow_34 : decode cX12_breachesNow 34 = .ok (.iload_n 2, 1) := by decide +kernel
theorem dX12_breachesNow_35 : decode cX12_breachesNow 35 = .ok (.if_icmp .ne 24, 3) := by decide +kernel
theorem dX12_breachesNow_38 : decode cX12_breachesNow 38 = .ok (.aload_n 0, 1) := by decide +kernel
theorem dX12_breachesNow_39 : decode cX12_breachesNow 39 = .ok (.getfield 120, 3) := by decide +kernel
theorem dX12_breachesNow_42 : decode cX12_breachesNow 42 = .ok (.iload 5, 2) := by decide +kernel
theorem dX12_breachesNow_44 : decode cX12_breachesNow 44 = .ok (.iaload, 1) := by decide +kernel
theorem dX12_breachesNow_45 : decode cX12_breachesNow 45 = .ok (.iload_n 3, 1) := by decide +kernel
theorem dX12_breachesNow_46 : decode cX12_breachesNow 46 = .ok (.if_icmp .le 13, 3) := by decide +kernel
theorem dX12_breachesNow_49 : decode cX12_breachesNow 49 = .ok (.aload_n 0, 1) := by decide +kernel
theorem dX12_breachesNow_50 : decode cX12_breachesNow 50 = .ok (.getfield 120, 3) := by decide +kernel
theorem dX12_breachesNow_53 : decode cX12_breachesNow 53 = .ok (.iload 5, 2) := by decide +kernel
theorem dX12_breachesNow_55 : decode cX12_breachesNow 55 = .ok (.iaload, 1) := by decide +kernel
theorem dX12_breachesNow_56 : decode cX12_breachesNow 56 = .ok (.goto 4, 3) := by decide +kernel
theorem dX12_breachesNow_59 : decode cX12_breachesNow 59 = .ok (.iload_n 3, 1) := by decide +kernel
theorem dX12_breachesNow_60 : decode cX12_breachesNow 60 = .ok (.istore_n 3, 1) := by decide +kernel
theorem dX12_breachesNow_61 : decode cX12_breachesNow 61 = .ok (.aload_n 0, 1) := by decide +kernel
theorem dX12_breachesNow_62 : decode cX12_breachesNow 62 = .ok (.getfield 117, 3) := by decide +kernel
theorem dX12_breachesNow_65 : decode cX12_breachesNow 65 = .ok (.iload 5, 2) := by decide +kernel
theorem dX12_breachesNow_67 : decode cX12_breachesNow 67 = .ok (.iaload, 1) := by decide +kernel
theorem dX12_breachesNow_68 : decode cX12_breachesNow 68 = .ok (.iload_n 2, 1) := by decide +kernel
theorem dX12_breachesNow_69 : decode cX12_breachesNow 69 = .ok (.if_icmp .ne 25, 3) := by decide +kernel
theorem dX12_breachesNow_72 : decode cX12_breachesNow 72 = .ok (.aload_n 0, 1) := by decide +kernel
theorem dX12_breachesNow_73 : decode cX12_breachesNow 73 = .ok (.getfield 123, 3) := by decide +kernel
theorem dX12_breachesNow_76 : decode cX12_breachesNow 76 = .ok (.iload 5, 2) := by decide +kernel
theorem dX12_breachesNow_78 : decode cX12_breachesNow 78 = .ok (.iaload, 1) := by decide +kernel
theorem dX12_breachesNow_79 : decode cX12_breachesNow 79 = .ok (.iload 4, 2) := by decide +kernel
theorem dX12_breachesNow_81 : decode cX12_breachesNow 81 = .ok (.if_icmp .le 13, 3) := by decide +kernel
theorem dX12_breachesNow_84 : decode cX12_breachesNow 84 = .ok (.aload_n 0, 1) := by decide +kernel
theorem dX12_breachesNow_85 : decode cX12_breachesNow 85 = .ok (.getfield 123, 3) := by decide +kernel
theorem dX12_breachesNow_88 : decode cX12_breachesNow 88 = .ok (.iload 5, 2) := by decide +kernel
theorem dX12_breachesNow_90 : decode cX12_breachesNow 90 = .ok (.iaload, 1) := by decide +kernel
theorem dX12_breachesNow_91 : decode cX12_breachesNow 91 = .ok (.goto 5, 3) := by decide +kernel
theorem dX12_breachesNow_94 : decode cX12_breachesNow 94 = .ok (.iload 4, 2) := by decide +kernel
theorem dX12_breachesNow_96 : decode cX12_breachesNow 96 = .ok (.istore 4, 2) := by decide +kernel
theorem dX12_breachesNow_98 : decode cX12_breachesNow 98 = .ok (.iinc 5 1, 3) := by decide +kernel
theorem dX12_breachesNow_101 : decode cX12_breachesNow 101 = .ok (.goto (-83), 3) := by decide +kernel
theorem dX12_breachesNow_104 : decode cX12_breachesNow 104 = .ok (.iload_n 1, 1) := by decide +kernel
theorem dX12_breachesNow_105 : decode cX12_breachesNow 105 = .ok (.iload_n 3, 1) := by decide +kernel
theorem dX12_breachesNow_106 : decode cX12_breachesNow 106 = .ok (.aload_n 0, 1) := by decide +kernel
theorem dX12_breachesNow_107 : decode cX12_breachesNow 107 = .ok (.getfield 114, 3) := by decide +kernel
theorem dX12_breachesNow_110 : decode cX12_breachesNow 110 = .ok (.iload_n 2, 1) := by decide +kernel
theorem dX12_breachesNow_111 : decode cX12_breachesNow 111 = .ok (.iaload, 1) := by decide +kernel
theorem dX12_breachesNow_112 : decode cX12_breachesNow 112 = .ok (.iconst 2, 1) := by decide +kernel
theorem dX12_breachesNow_113 : decode cX12_breachesNow 113 = .ok (.isub, 1) := by decide +kernel
theorem dX12_breachesNow_114 : decode cX12_breachesNow 114 = .ok (.if_icmp .lt 22, 3) := by decide +kernel
theorem dX12_breachesNow_117 : decode cX12_breachesNow 117 = .ok (.iload 4, 2) := by decide +kernel
theorem dX12_breachesNow_119 : decode cX12_breachesNow 119 = .ok (.aload_n 0, 1) := by decide +kernel
theorem dX12_breachesNow_120 : decode cX12_breachesNow 120 = .ok (.getfield 114, 3) := by decide +kernel
theorem dX12_breachesNow_123 : decode cX12_breachesNow 123 = .ok (.iload_n 2, 1) := by decide +kernel
theorem dX12_breachesNow_124 : decode cX12_breachesNow 124 = .ok (.iaload, 1) := by decide +kernel
theorem dX12_breachesNow_125 : decode cX12_breachesNow 125 = .ok (.iconst 4, 1) := by decide +kernel
theorem dX12_breachesNow_126 : decode cX12_breachesNow 126 = .ok (.isub, 1) := by decide +kernel
theorem dX12_breachesNow_127 : decode cX12_breachesNow 127 = .ok (.if_icmp .lt 9, 3) := by decide +kernel
theorem dX12_breachesNow_130 : decode cX12_breachesNow 130 = .ok (.iconst 1, 1) := by decide +kernel
theorem dX12_breachesNow_131 : decode cX12_breachesNow 131 = .ok (.iload_n 2, 1) := by decide +kernel
theorem dX12_breachesNow_132 : decode cX12_breachesNow 132 = .ok (.ishl, 1) := by decide +kernel
theorem dX12_breachesNow_133 : decode cX12_breachesNow 133 = .ok (.goto 4, 3) := by decide +kernel
theorem dX12_breachesNow_136 : decode cX12_breachesNow 136 = .ok (.iconst 0, 1) := by decide +kernel
theorem dX12_breachesNow_137 : decode cX12_breachesNow 137 = .ok (.ior, 1) := by decide +kernel
theorem dX12_breachesNow_138 : decode cX12_breachesNow 138 = .ok (.istore_n 1, 1) := by decide +kernel
theorem dX12_breachesNow_139 : decode cX12_breachesNow 139 = .ok (.iinc 2 1, 3) := by decide +kernel
theorem dX12_breachesNow_142 : decode cX12_breachesNow 142 = .ok (.goto (-138), 3) := by decide +kernel
theorem dX12_breachesNow_145 : decode cX12_breachesNow 145 = .ok (.iload_n 1, 1) := by decide +kernel
theorem dX12_breachesNow_146 : decode cX12_breachesNow 146 = .ok (.ireturn, 1) := by decide +kernel
theorem dX12_breaches_0 : decode cX12_breaches 0 = .ok (.aload_n 0, 1) := by decide +kernel
theorem dX12_breaches_1 : decode cX12_breaches 1 = .ok (.iconst 0, 1) := by decide +kernel
theorem dX12_breaches_2 : decode cX12_breaches 2 = .ok (.putfield 1, 3) := by decide +kernel
theorem dX12_breaches_5 : decode cX12_breaches 5 = .ok (.aload_n 0, 1) := by decide +kernel
theorem dX12_breaches_6 : decode cX12_breaches 6 = .ok (.invokevirtual 378, 3) := by decide +kernel
theorem dX12_breaches_9 : decode cX12_breaches 9 = .ok (.ireturn, 1) := by decide +kernel
theorem dX12_watch_0 : decode cX12_watch 0 = .ok (.aload_n 0, 1) := by decide +kernel
theorem dX12_watch_1 : decode cX12_watch 1 = .ok (.iconst 0, 1) := by decide +kernel
theorem dX12_watch_2 : decode cX12_watch 2 = .ok (.putfield 1, 3) := by decide +kernel
theorem dX12_watch_5 : decode cX12_watch 5 = .ok (.iload_n 1, 1) := by decide +kernel
theorem dX12_watch_6 : decode cX12_watch 6 = .ok (.invokestatic 136, 3) := by decide +kernel
theorem dX12_watch_9 : decode cX12_watch 9 = .ok (.ifCond .eq 15, 3) := by decide +kernel
theorem dX12_watch_12 : decode cX12_watch 12 = .ok (.iload_n 3, 1) := by decide +kernel
theorem dX12_watch_13 : decode cX12_watch 13 = .ok (.i2l, 1) := by decide +kernel
theorem dX12_watch_14 : decode cX12_watch 14 = .ok (.lconst 1, 1) := by decide +kernel
theorem dX12_watch_15 : decode cX12_watch 15 = .ok (.ldc2_w 381, 3) := by decide +kernel
theorem dX12_watch_18 : decode cX12_watch 18 = .ok (.invokestatic 132, 3) := by decide +kernel
theorem dX12_watch_21 : decode cX12_watch 21 = .ok (.ifCond .ne 6, 3) := by decide +kernel
theorem dX12_watch_24 : decode cX12_watch 24 = .ok (.ldc 142, 2) := by decide +kernel
theorem dX12_watch_26 : decode cX12_watch 26 = .ok (.ireturn, 1) := by decide +kernel
theorem dX12_watch_27 : decode cX12_watch 27 = .ok (.aload_n 0, 1) := by decide +kernel
theorem dX12_watch_28 : decode cX12_watch 28 = .ok (.iload_n 1, 1) := by decide +kernel
theorem dX12_watch_29 : decode cX12_watch 29 = .ok (.iload_n 2, 1) := by decide +kernel
theorem dX12_watch_30 : decode cX12_watch 30 = .ok (.iload_n 3, 1) := by decide +kernel
theorem dX12_watch_31 : decode cX12_watch 31 = .ok (.invokevirtual 290, 3) := by decide +kernel
theorem dX12_watch_34 : decode cX12_watch 34 = .ok (.istore 4, 2) := by decide +kernel
theorem dX12_watch_36 : decode cX12_watch 36 = .ok (.iload 4, 2) := by decide +kernel
theorem dX12_watch_38 : decode cX12_watch 38 = .ok (.ifCond .ge 6, 3) := by decide +kernel
theorem dX12_watch_41 : decode cX12_watch 41 = .ok (.iload 4, 2) := by decide +kernel
theorem dX12_watch_43 : decode cX12_watch 43 = .ok (.ireturn, 1) := by decide +kernel
theorem dX12_watch_44 : decode cX12_watch 44 = .ok (.bipush 64, 2) := by decide +kernel
theorem dX12_watch_46 : decode cX12_watch 46 = .ok (.iload_n 1, 1) := by decide +kernel
theorem dX12_watch_47 : decode cX12_watch 47 = .ok (.imul, 1) := by decide +kernel
theorem dX12_watch_48 : decode cX12_watch 48 = .ok (.iload_n 2, 1) := by decide +kernel
theorem dX12_watch_49 : decode cX12_watch 49 = .ok (.iadd, 1) := by decide +kernel
theorem dX12_watch_50 : decode cX12_watch 50 = .ok (.istore 5, 2) := by decide +kernel
theorem dX12_watch_52 : decode cX12_watch 52 = .ok (.iconst 0, 1) := by decide +kernel
theorem dX12_watch_53 : decode cX12_watch 53 = .ok (.istore 6, 2) := by decide +kernel
theorem dX12_watch_55 : decode cX12_watch 55 = .ok (.iload 6, 2) := by decide +kernel
theorem dX12_watch_57 : decode cX12_watch 57 = .ok (.iload_n 3, 1) := by decide +kernel
theorem dX12_watch_58 : decode cX12_watch 58 = .ok (.if_icmp .ge 33, 3) := by decide +kernel
theorem dX12_watch_61 : decode cX12_watch 61 = .ok (.aload_n 0, 1) := by decide +kernel
theorem dX12_watch_62 : decode cX12_watch 62 = .ok (.getfield 24, 3) := by decide +kernel
theorem dX12_watch_65 : decode cX12_watch 65 = .ok (.iload 5, 2) := by decide +kernel
theorem dX12_watch_67 : decode cX12_watch 67 = .ok (.iload 6, 2) := by decide +kernel
theorem dX12_watch_69 : decode cX12_watch 69 = .ok (.iadd, 1) := by decide +kernel
theorem dX12_watch_70 : decode cX12_watch 70 = .ok (.iaload, 1) := by decide +kernel
theorem dX12_watch_71 : decode cX12_watch 71 = .ok (.i2l, 1) := by decide +kernel
theorem dX12_watch_72 : decode cX12_watch 72 = .ok (.lconst 0, 1) := by decide +kernel
theorem dX12_watch_73 : decode cX12_watch 73 = .ok (.ldc2_w 383, 3) := by decide +kernel
theorem dX12_watch_76 : decode cX12_watch 76 = .ok (.invokestatic 132, 3) := by decide +kernel
theorem dX12_watch_79 : decode cX12_watch 79 = .ok (.ifCond .ne 6, 3) := by decide +kernel
theorem dX12_watch_82 : decode cX12_watch 82 = .ok (.ldc 142, 2) := by decide +kernel
theorem dX12_watch_84 : decode cX12_watch 84 = .ok (.ireturn, 1) := by decide +kernel
theorem dX12_watch_85 : decode cX12_watch 85 = .ok (.iinc 6 1, 3) := by decide +kernel
theorem dX12_watch_88 : decode cX12_watch 88 = .ok (.goto (-33), 3) := by decide +kernel
theorem dX12_watch_91 : decode cX12_watch 91 = .ok (.aload_n 0, 1) := by decide +kernel
theorem dX12_watch_92 : decode cX12_watch 92 = .ok (.iconst 0, 1) := by decide +kernel
theorem dX12_watch_93 : decode cX12_watch 93 = .ok (.putfield 7, 3) := by decide +kernel
theorem dX12_watch_96 : decode cX12_watch 96 = .ok (.aload_n 0, 1) := by decide +kernel
theorem dX12_watch_97 : decode cX12_watch 97 = .ok (.invokevirtual 378, 3) := by decide +kernel
theorem dX12_watch_100 : decode cX12_watch 100 = .ok (.istore 6, 2) := by decide +kernel
theorem dX12_watch_102 : decode cX12_watch 102 = .ok (.ldc 129, 2) := by decide +kernel
theorem dX12_watch_104 : decode cX12_watch 104 = .ok (.istore 7, 2) := by decide +kernel
theorem dX12_watch_106 : decode cX12_watch 106 = .ok (.iconst 0, 1) := by decide +kernel
theorem dX12_watch_107 : decode cX12_watch 107 = .ok (.istore 8, 2) := by decide +kernel
theorem dX12_watch_109 : decode cX12_watch 109 = .ok (.iload 8, 2) := by decide +kernel
theorem dX12_watch_111 : decode cX12_watch 111 = .ok (.iconst 1, 1) := by decide +kernel
theorem dX12_watch_112 : decode cX12_watch 112 = .ok (.iload_n 3, 1) := by decide +kernel
theorem dX12_watch_113 : decode cX12_watch 113 = .ok (.ishl, 1) := by decide +kernel
theorem dX12_watch_114 : decode cX12_watch 114 = .ok (.if_icmp .ge 96, 3) := by decide +kernel
theorem dX12_watch_117 : decode cX12_watch 117 = .ok (.iconst 0, 1) := by decide +kernel
theorem dX12_watch_118 : decode cX12_watch 118 = .ok (.istore 9, 2) := by decide +kernel
theorem dX12_watch_120 : decode cX12_watch 120 = .ok (.iconst 0, 1) := by decide +kernel
theorem dX12_watch_121 : decode cX12_watch 121 = .ok (.istore 10, 2) := by decide +kernel
theorem dX12_watch_123 : decode cX12_watch 123 = .ok (.iload 10, 2) := by decide +kernel
theorem dX12_watch_125 : decode cX12_watch 125 = .ok (.iload_n 3, 1) := by decide +kernel
theorem dX12_watch_126 : decode cX12_watch 126 = .ok (.if_icmp .ge 39, 3) := by decide +kernel
theorem dX12_watch_129 : decode cX12_watch 129 = .ok (.iload 9, 2) := by decide +kernel
theorem dX12_watch_131 : decode cX12_watch 131 = .ok (.iload 8, 2) := by decide +kernel
theorem dX12_watch_133 : decode cX12_watch 133 = .ok (.iload 10, 2) := by decide +kernel
theorem dX12_watch_135 : decode cX12_watch 135 = .ok (.ishr, 1) := by decide +kernel
theorem dX12_watch_136 : decode cX12_watch 136 = .ok (.iconst 1, 1) := by decide +kernel
theorem dX12_watch_137 : decode cX12_watch 137 = .ok (.iand, 1) := by decide +kernel
theorem dX12_watch_138 : decode cX12_watch 138 = .ok (.iconst 1, 1) := by decide +kernel
theorem dX12_watch_139 : decode cX12_watch 139 = .ok (.if_icmp .ne 16, 3) := by decide +kernel
theorem dX12_watch_142 : decode cX12_watch 142 = .ok (.aload_n 0, 1) := by decide +kernel
theorem dX12_watch_143 : decode cX12_watch 143 = .ok (.getfield 24, 3) := by decide +kernel
theorem dX12_watch_146 : decode cX12_watch 146 = .ok (.iload 5, 2) := by decide +kernel
theorem dX12_watch_148 : decode cX12_watch 148 = .ok (.iload 10, 2) := by decide +kernel
theorem dX12_watch_150 : decode cX12_watch 150 = .ok (.iadd, 1) := by decide +kernel
theorem dX12_watch_151 : decode cX12_watch 151 = .ok (.iaload, 1) := by decide +kernel
theorem dX12_watch_152 : decode cX12_watch 152 = .ok (.goto 4, 3) := by decide +kernel
theorem dX12_watch_155 : decode cX12_watch 155 = .ok (.iconst 0, 1) := by decide +kernel
theorem dX12_watch_156 : decode cX12_watch 156 = .ok (.ior, 1) := by decide +kernel
theorem dX12_watch_157 : decode cX12_watch 157 = .ok (.istore 9, 2) := by decide +kernel
theorem dX12_watch_159 : decode cX12_watch 159 = .ok (.iinc 10 1, 3) := by decide +kernel
theorem dX12_watch_162 : decode cX12_watch 162 = .ok (.goto (-39), 3) := by decide +kernel
theorem dX12_watch_165 : decode cX12_watch 165 = .ok (.iload 6, 2) := by decide +kernel
theorem dX12_watch_167 : decode cX12_watch 167 = .ok (.iload 9, 2) := by decide +kernel
theorem dX12_watch_169 : decode cX12_watch 169 = .ok (.iconst (-1), 1) := by decide +kernel
theorem dX12_watch_170 : decode cX12_watch 170 = .ok (.ixor, 1) := by decide +kernel
theorem dX12_watch_171 : decode cX12_watch 171 = .ok (.iand, 1) := by decide +kernel
theorem dX12_watch_172 : decode cX12_watch 172 = .ok (.ifCond .ne 28, 3) := by decide +kernel
theorem dX12_watch_175 : decode cX12_watch 175 = .ok (.iload 7, 2) := by decide +kernel
theorem dX12_watch_177 : decode cX12_watch 177 = .ok (.ldc 129, 2) := by decide +kernel
theorem dX12_watch_179 : decode cX12_watch 179 = .ok (.if_icmp .eq 16, 3) := by decide +kernel
theorem dX12_watch_182 : decode cX12_watch 182 = .ok (.iload 8, 2) := by decide +kernel
theorem dX12_watch_184 : decode cX12_watch 184 = .ok (.invokestatic 369, 3) := by decide +kernel
theorem dX12_watch_187 : decode cX12_watch 187 = .ok (.iload 7, 2) := by decide +kernel
theorem dX12_watch_189 : decode cX12_watch 189 = .ok (.invokestatic 369, 3) := by decide +kernel
theorem dX12_watch_192 : decode cX12_watch 192 = .ok (.if_icmp .ge 8, 3) := by decide +kernel
theorem dX12_watch_195 : decode cX12_watch 195 = .ok (.iload 8, 2) := by decide +kernel
theorem dX12_watch_197 : decode cX12_watch 197 = .ok (.goto 5, 3) := by decide +kernel
theorem dX12_watch_200 : decode cX12_watch 200 = .ok (.iload 7, 2) := by decide +kernel
theorem dX12_watch_202 : decode cX12_watch 202 = .ok (.istore 7, 2) := by decide +kernel
theorem dX12_watch_204 : decode cX12_watch 204 = .ok (.iinc 8 1, 3) := by decide +kernel
theorem dX12_watch_207 : decode cX12_watch 207 = .ok (.goto (-98), 3) := by decide +kernel
theorem dX12_watch_210 : decode cX12_watch 210 = .ok (.iload 7, 2) := by decide +kernel
theorem dX12_watch_212 : decode cX12_watch 212 = .ok (.ireturn, 1) := by decide +kernel
theorem dX12_day_0 : decode cX12_day 0 = .ok (.aload_n 0, 1) := by decide +kernel
theorem dX12_day_1 : decode cX12_day 1 = .ok (.iconst 0, 1) := by decide +kernel
theorem dX12_day_2 : decode cX12_day 2 = .ok (.putfield 1, 3) := by decide +kernel
theorem dX12_day_5 : decode cX12_day 5 = .ok (.iload_n 1, 1) := by decide +kernel
theorem dX12_day_6 : decode cX12_day 6 = .ok (.invokestatic 258, 3) := by decide +kernel
theorem dX12_day_9 : decode cX12_day 9 = .ok (.ifCond .ne 6, 3) := by decide +kernel
theorem dX12_day_12 : decode cX12_day 12 = .ok (.ldc 142, 2) := by decide +kernel
theorem dX12_day_14 : decode cX12_day 14 = .ok (.ireturn, 1) := by decide +kernel
theorem dX12_day_15 : decode cX12_day 15 = .ok (.aload_n 0, 1) := by decide +kernel
theorem dX12_day_16 : decode cX12_day 16 = .ok (.getfield 347, 3) := by decide +kernel
theorem dX12_day_19 : decode cX12_day 19 = .ok (.istore_n 2, 1) := by decide +kernel
theorem dX12_day_20 : decode cX12_day 20 = .ok (.aload_n 0, 1) := by decide +kernel
theorem dX12_day_21 : decode cX12_day 21 = .ok (.iload_n 1, 1) := by decide +kernel
theorem dX12_day_22 : decode cX12_day 22 = .ok (.putfield 347, 3) := by decide +kernel
theorem dX12_day_25 : decode cX12_day 25 = .ok (.iload_n 2, 1) := by decide +kernel
theorem dX12_day_26 : decode cX12_day 26 = .ok (.ireturn, 1) := by decide +kernel
theorem dX12_isOf_0 : decode cX12_isOf 0 = .ok (.iload_n 1, 1) := by decide +kernel
theorem dX12_isOf_1 : decode cX12_isOf 1 = .ok (.ifCond .eq 18, 3) := by decide +kernel
theorem dX12_isOf_4 : decode cX12_isOf 4 = .ok (.iload_n 0, 1) := by decide +kernel
theorem dX12_isOf_5 : decode cX12_isOf 5 = .ok (.iload_n 1, 1) := by decide +kernel
theorem dX12_isOf_6 : decode cX12_isOf 6 = .ok (.if_icmp .eq 13, 3) := by decide +kernel
theorem dX12_isOf_9 : decode cX12_isOf 9 = .ok (.iload_n 1, 1) := by decide +kernel
theorem dX12_isOf_10 : decode cX12_isOf 10 = .ok (.iconst 2, 1) := by decide +kernel
theorem dX12_isOf_11 : decode cX12_isOf 11 = .ok (.if_icmp .ne 12, 3) := by decide +kernel
theorem dX12_isOf_14 : decode cX12_isOf 14 = .ok (.iload_n 0, 1) := by decide +kernel
theorem dX12_isOf_15 : decode cX12_isOf 15 = .ok (.iconst 3, 1) := by decide +kernel
theorem dX12_isOf_16 : decode cX12_isOf 16 = .ok (.if_icmp .ne 7, 3) := by decide +kernel
theorem dX12_isOf_19 : decode cX12_isOf 19 = .ok (.iconst 1, 1) := by decide +kernel
theorem dX12_isOf_20 : decode cX12_isOf 20 = .ok (.goto 4, 3) := by decide +kernel
theorem dX12_isOf_23 : decode cX12_isOf 23 = .ok (.iconst 0, 1) := by decide +kernel
theorem dX12_isOf_24 : decode cX12_isOf 24 = .ok (.ireturn, 1) := by decide +kernel
theorem dX12_kind_0 : decode cX12_kind 0 = .ok (.aload_n 0, 1) := by decide +kernel
theorem dX12_kind_1 : decode cX12_kind 1 = .ok (.iconst 0, 1) := by decide +kernel
theorem dX12_kind_2 : decode cX12_kind 2 = .ok (.putfield 1, 3) := by decide +kernel
theorem dX12_kind_5 : decode cX12_kind 5 = .ok (.aload_n 0, 1) := by decide +kernel
theorem dX12_kind_6 : decode cX12_kind 6 = .ok (.iload_n 1, 1) := by decide +kernel
theorem dX12_kind_7 : decode cX12_kind 7 = .ok (.invokevirtual 353, 3) := by decide +kernel
theorem dX12_kind_10 : decode cX12_kind 10 = .ok (.ifCond .eq 11, 3) := by decide +kernel
theorem dX12_kind_13 : decode cX12_kind 13 = .ok (.aload_n 0, 1) := by decide +kernel
theorem dX12_kind_14 : decode cX12_kind 14 = .ok (.iload_n 1, 1) := by decide +kernel
theorem dX12_kind_15 : decode cX12_kind 15 = .ok (.invokevirtual 385, 3) := by decide +kernel
theorem dX12_kind_18 : decode cX12_kind 18 = .ok (.goto 5, 3) := by decide +kernel
theorem dX12_kind_21 : decode cX12_kind 21 = .ok (.ldc 142, 2) := by decide +kernel
theorem dX12_kind_23 : decode cX12_kind 23 = .ok (.ireturn, 1) := by decide +kernel
theorem dX12_as_0 : decode cX12_as 0 = .ok (.aload_n 0, 1) := by decide +kernel
theorem dX12_as_1 : decode cX12_as 1 = .ok (.iconst 0, 1) := by decide +kernel
theorem dX12_as_2 : decode cX12_as 2 = .ok (.putfield 1, 3) := by decide +kernel
theorem dX12_as_5 : decode cX12_as 5 = .ok (.aload_n 0, 1) := by decide +kernel
theorem dX12_as_6 : decode cX12_as 6 = .ok (.iload_n 1, 1) := by decide +kernel
theorem dX12_as_7 : decode cX12_as 7 = .ok (.invokevirtual 353, 3) := by decide +kernel
theorem dX12_as_10 : decode cX12_as 10 = .ok (.ifCond .eq 15, 3) := by decide +kernel
theorem dX12_as_13 : decode cX12_as 13 = .ok (.iload_n 2, 1) := by decide +kernel
theorem dX12_as_14 : decode cX12_as 14 = .ok (.i2l, 1) := by decide +kernel
theorem dX12_as_15 : decode cX12_as 15 = .ok (.lconst 0, 1) := by decide +kernel
theorem dX12_as_16 : decode cX12_as 16 = .ok (.ldc2_w 293, 3) := by decide +kernel
theorem dX12_as_19 : decode cX12_as 19 = .ok (.invokestatic 132, 3) := by decide +kernel
theorem dX12_as_22 : decode cX12_as 22 = .ok (.ifCond .ne 6, 3) := by decide +kernel
theorem dX12_as_25 : decode cX12_as 25 = .ok (.ldc 142, 2) := by decide +kernel
theorem dX12_as_27 : decode cX12_as 27 = .ok (.ireturn, 1) := by decide +kernel
theorem dX12_as_28 : decode cX12_as 28 = .ok (.aload_n 0, 1) := by decide +kernel
theorem dX12_as_29 : decode cX12_as 29 = .ok (.iconst 0, 1) := by decide +kernel
theorem dX12_as_30 : decode cX12_as 30 = .ok (.putfield 7, 3) := by decide +kernel
theorem dX12_as_33 : decode cX12_as 33 = .ok (.aload_n 0, 1) := by decide +kernel
theorem dX12_as_34 : decode cX12_as 34 = .ok (.iload_n 1, 1) := by decide +kernel
theorem dX12_as_35 : decode cX12_as 35 = .ok (.invokevirtual 385, 3) := by decide +kernel
theorem dX12_as_38 : decode cX12_as 38 = .ok (.iload_n 2, 1) := by decide +kernel
theorem dX12_as_39 : decode cX12_as 39 = .ok (.invokestatic 388, 3) := by decide +kernel
theorem dX12_as_42 : decode cX12_as 42 = .ok (.ifCond .eq 12, 3) := by decide +kernel
theorem dX12_as_45 : decode cX12_as 45 = .ok (.aload_n 0, 1) := by decide +kernel
theorem dX12_as_46 : decode cX12_as 46 = .ok (.iload_n 1, 1) := by decide +kernel
theorem dX12_as_47 : decode cX12_as 47 = .ok (.iconst 2, 1) := by decide +kernel
theorem dX12_as_48 : decode cX12_as 48 = .ok (.invokevirtual 343, 3) := by decide +kernel
theorem dX12_as_51 : decode cX12_as 51 = .ok (.goto 8, 3) := by decide +kernel
theorem dX12_as_54 : decode cX12_as 54 = .ok (.aload_n 0, 1) := by decide +kernel
theorem dX12_as_55 : decode cX12_as 55 = .ok (.iconst 3, 1) := by decide +kernel
theorem dX12_as_56 : decode cX12_as 56 = .ok (.invokevirtual 143, 3) := by decide +kernel
theorem dX12_as_59 : decode cX12_as 59 = .ok (.ireturn, 1) := by decide +kernel
theorem dX12_began_0 : decode cX12_began 0 = .ok (.aload_n 0, 1) := by decide +kernel
theorem dX12_began_1 : decode cX12_began 1 = .ok (.getfield 391, 3) := by decide +kernel
theorem dX12_began_4 : decode cX12_began 4 = .ok (.bipush 16, 2) := by decide +kernel
theorem dX12_began_6 : decode cX12_began 6 = .ok (.if_icmp .ge 23, 3) := by decide +kernel
theorem dX12_began_9 : decode cX12_began 9 = .ok (.aload_n 0, 1) := by decide +kernel
theorem dX12_began_10 : decode cX12_began 10 = .ok (.getfield 126, 3) := by decide +kernel
theorem dX12_began_13 : decode cX12_began 13 = .ok (.aload_n 0, 1) := by decide +kernel
theorem dX12_began_14 : decode cX12_began 14 = .ok (.getfield 391, 3) := by decide +kernel
theorem dX12_began_17 : decode cX12_began 17 = .ok (.iload_n 1, 1) := by decide +kernel
theorem dX12_began_18 : decode cX12_began 18 = .ok (.iastore, 1) := by decide +kernel
theorem dX12_began_19 : decode cX12_began 19 = .ok (.aload_n 0, 1) := by decide +kernel
theorem dX12_began_20 : decode cX12_began 20 = .ok (.dup, 1) := by decide +kernel
theorem dX12_began_21 : decode cX12_began 21 = .ok (.getfield 391, 3) := by decide +kernel
theorem dX12_began_24 : decode cX12_began 24 = .ok (.iconst 1, 1) := by decide +kernel
theorem dX12_began_25 : decode cX12_began 25 = .ok (.iadd, 1) := by decide +kernel
theorem dX12_began_26 : decode cX12_began 26 = .ok (.putfield 391, 3) := by decide +kernel
theorem dX12_began_29 : decode cX12_began 29 = .ok (.return_, 1) := by decide +kernel
theorem dX12_nightSize_0 : decode cX12_nightSize 0 = .ok (.aload_n 0, 1) := by decide +kernel
theorem dX12_nightSize_1 : decode cX12_nightSize 1 = .ok (.bipush 14, 2) := by decide +kernel
theorem dX12_nightSize_3 : decode cX12_nightSize 3 = .ok (.invokevirtual 394, 3) := by decide +kernel
theorem dX12_nightSize_6 : decode cX12_nightSize 6 = .ok (.aload_n 0, 1) := by decide +kernel
theorem dX12_nightSize_7 : decode cX12_nightSize 7 = .ok (.bipush 10, 2) := by decide +kernel
theorem dX12_nightSize_9 : decode cX12_nightSize 9 = .ok (.invokevirtual 394, 3) := by decide +kernel
theorem dX12_nightSize_12 : decode cX12_nightSize 12 = .ok (.aload_n 0, 1) := by decide +kernel
theorem dX12_nightSize_13 : decode cX12_nightSize 13 = .ok (.iload_n 1, 1) := by decide +kernel
theorem dX12_nightSize_14 : decode cX12_nightSize 14 = .ok (.bipush 6, 2) := by decide +kernel
theorem dX12_nightSize_16 : decode cX12_nightSize 16 = .ok (.invokevirtual 343, 3) := by decide +kernel
theorem dX12_nightSize_19 : decode cX12_nightSize 19 = .ok (.aload_n 0, 1) := by decide +kernel
theorem dX12_nightSize_20 : decode cX12_nightSize 20 = .ok (.iload_n 1, 1) := by decide +kernel
theorem dX12_nightSize_21 : decode cX12_nightSize 21 = .ok (.iconst 5, 1) := by decide +kernel
theorem dX12_nightSize_22 : decode cX12_nightSize 22 = .ok (.invokevirtual 343, 3) := by decide +kernel
theorem dX12_nightSize_25 : decode cX12_nightSize 25 = .ok (.isub, 1) := by decide +kernel
theorem dX12_nightSize_26 : decode cX12_nightSize 26 = .ok (.aload_n 0, 1) := by decide +kernel
theorem dX12_nightSize_27 : decode cX12_nightSize 27 = .ok (.iload_n 1, 1) := by decide +kernel
theorem dX12_nightSize_28 : decode cX12_nightSize 28 = .ok (.iconst 1, 1) := by decide +kernel
theorem dX12_nightSize_29 : decode cX12_nightSize 29 = .ok (.invokevirtual 343, 3) := by decide +kernel
theorem dX12_nightSize_32 : decode cX12_nightSize 32 = .ok (.iadd, 1) := by decide +kernel
theorem dX12_nightSize_33 : decode cX12_nightSize 33 = .ok (.ireturn, 1) := by decide +kernel
theorem dX12_markOf_0 : decode cX12_markOf 0 = .ok (.iload_n 2, 1) := by decide +kernel
theorem dX12_markOf_1 : decode cX12_markOf 1 = .ok (.iconst 3, 1) := by decide +kernel
theorem dX12_markOf_2 : decode cX12_markOf 2 = .ok (.if_icmp .ne 9, 3) := by decide +kernel
theorem dX12_markOf_5 : decode cX12_markOf 5 = .ok (.aload_n 0, 1) := by decide +kernel
theorem dX12_markOf_6 : decode cX12_markOf 6 = .ok (.bipush 22, 2) := by decide +kernel
theorem dX12_markOf_8 : decode cX12_markOf 8 = .ok (.invokevirtual 394, 3) := by decide +kernel
theorem dX12_markOf_11 : decode cX12_markOf 11 = .ok (.iload_n 2, 1) := by decide +kernel
theorem dX12_markOf_12 : decode cX12_markOf 12 = .ok (.iconst 2, 1) := by decide +kernel
theorem dX12_markOf_13 : decode cX12_markOf 13 = .ok (.invokestatic 388, 3) := by decide +kernel
theorem dX12_markOf_16 : decode cX12_markOf 16 = .ok (.ifCond .eq 9, 3) := by decide +kernel
theorem dX12_markOf_19 : decode cX12_markOf 19 = .ok (.aload_n 0, 1) := by decide +kernel
theorem dX12_markOf_20 : decode cX12_markOf 20 = .ok (.bipush 21, 2) := by decide +kernel
theorem dX12_markOf_22 : decode cX12_markOf 22 = .ok (.invokevirtual 394, 3) := by decide +kernel
theorem dX12_markOf_25 : decode cX12_markOf 25 = .ok (.iload_n 2, 1) := by decide +kernel
theorem dX12_markOf_26 : decode cX12_markOf 26 = .ok (.iconst 4, 1) := by decide +kernel
theorem dX12_markOf_27 : decode cX12_markOf 27 = .ok (.if_icmp .ne 9, 3) := by decide +kernel
theorem dX12_markOf_30 : decode cX12_markOf 30 = .ok (.aload_n 0, 1) := by decide +kernel
theorem dX12_markOf_31 : decode cX12_markOf 31 = .ok (.bipush 23, 2) := by decide +kernel
theorem dX12_markOf_33 : decode cX12_markOf 33 = .ok (.invokevirtual 394, 3) := by decide +kernel
theorem dX12_markOf_36 : decode cX12_markOf 36 = .ok (.aload_n 0, 1) := by decide +kernel
theorem dX12_markOf_37 : decode cX12_markOf 37 = .ok (.bipush 20, 2) := by decide +kernel
theorem dX12_markOf_39 : decode cX12_markOf 39 = .ok (.invokevirtual 394, 3) := by decide +kernel
theorem dX12_markOf_42 : decode cX12_markOf 42 = .ok (.aload_n 0, 1) := by decide +kernel
theorem dX12_markOf_43 : decode cX12_markOf 43 = .ok (.iload_n 1, 1) := by decide +kernel
theorem dX12_markOf_44 : decode cX12_markOf 44 = .ok (.iconst 2, 1) := by decide +kernel
theorem dX12_markOf_45 : decode cX12_markOf 45 = .ok (.invokevirtual 343, 3) := by decide +kernel
theorem dX12_markOf_48 : decode cX12_markOf 48 = .ok (.iload_n 2, 1) := by decide +kernel
theorem dX12_markOf_49 : decode cX12_markOf 49 = .ok (.iconst 2, 1) := by decide +kernel
theorem dX12_markOf_50 : decode cX12_markOf 50 = .ok (.invokestatic 388, 3) := by decide +kernel
theorem dX12_markOf_53 : decode cX12_markOf 53 = .ok (.ifCond .eq 15, 3) := by decide +kernel
theorem dX12_markOf_56 : decode cX12_markOf 56 = .ok (.bipush 100, 2) := by decide +kernel
theorem dX12_markOf_58 : decode cX12_markOf 58 = .ok (.aload_n 0, 1) := by decide +kernel
theorem dX12_markOf_59 : decode cX12_markOf 59 = .ok (.iload_n 1, 1) := by decide +kernel
theorem dX12_markOf_60 : decode cX12_markOf 60 = .ok (.iconst 4, 1) := by decide +kernel
theorem dX12_markOf_61 : decode cX12_markOf 61 = .ok (.invokevirtual 343, 3) := by decide +kernel
theorem dX12_markOf_64 : decode cX12_markOf 64 = .ok (.imul, 1) := by decide +kernel
theorem dX12_markOf_65 : decode cX12_markOf 65 = .ok (.goto 4, 3) := by decide +kernel
theorem dX12_markOf_68 : decode cX12_markOf 68 = .ok (.iconst 0, 1) := by decide +kernel
theorem dX12_markOf_69 : decode cX12_markOf 69 = .ok (.iadd, 1) := by decide +kernel
theorem dX12_markOf_70 : decode cX12_markOf 70 = .ok (.istore_n 3, 1) := by decide +kernel
theorem dX12_markOf_71 : decode cX12_markOf 71 = .ok (.iload_n 2, 1) := by decide +kernel
theorem dX12_markOf_72 : decode cX12_markOf 72 = .ok (.iconst 3, 1) := by decide +kernel
theorem dX12_markOf_73 : decode cX12_markOf 73 = .ok (.if_icmp .ne 14, 3) := by decide +kernel
theorem dX12_markOf_76 : decode cX12_markOf 76 = .ok (.iload_n 3, 1) := by decide +kernel
theorem dX12_markOf_77 : decode cX12_markOf 77 = .ok (.aload_n 0, 1) := by decide +kernel
theorem dX12_markOf_78 : decode cX12_markOf 78 = .ok (.iload_n 1, 1) := by decide +kernel
theorem dX12_markOf_79 : decode cX12_markOf 79 = .ok (.iconst 3, 1) := by decide +kernel
theorem dX12_markOf_80 : decode cX12_markOf 80 = .ok (.invokevirtual 343, 3) := by decide +kernel
theorem dX12_markOf_83 : decode cX12_markOf 83 = .ok (.iadd, 1) := by decide +kernel
theorem dX12_markOf_84 : decode cX12_markOf 84 = .ok (.goto 19, 3) := by decide +kernel
theorem dX12_markOf_87 : decode cX12_markOf 87 = .ok (.iload_n 2, 1) := by decide +kernel
theorem dX12_markOf_88 : decode cX12_markOf 88 = .ok (.iconst 4, 1) := by decide +kernel
theorem dX12_markOf_89 : decode cX12_markOf 89 = .ok (.if_icmp .ne 13, 3) := by decide +kernel
theorem dX12_markOf_92 : decode cX12_markOf 92 = .ok (.iload_n 3, 1) := by decide +kernel
theorem dX12_markOf_93 : decode cX12_markOf 93 = .ok (.aload_n 0, 1) := by decide +kernel
theorem dX12_markOf_94 : decode cX12_markOf 94 = .ok (.iload_n 1, 1) := by decide +kernel
theorem dX12_markOf_95 : decode cX12_markOf 95 = .ok (.invokevirtual 397, 3) := by decide +kernel
theorem dX12_markOf_98 : decode cX12_markOf 98 = .ok (.iadd, 1) := by decide +kernel
theorem dX12_markOf_99 : decode cX12_markOf 99 = .ok (.goto 4, 3) := by decide +kernel
theorem dX12_markOf_102 : decode cX12_markOf 102 = .ok (.iload_n 3, 1) := by decide +kernel
theorem dX12_markOf_103 : decode cX12_markOf 103 = .ok (.ireturn, 1) := by decide +kernel
theorem dX12_sizeOf_0 : decode cX12_sizeOf 0 = .ok (.iload_n 2, 1) := by decide +kernel
theorem dX12_sizeOf_1 : decode cX12_sizeOf 1 = .ok (.iconst 4, 1) := by decide +kernel
theorem dX12_sizeOf_2 : decode cX12_sizeOf 2 = .ok (.if_icmp .ne 9, 3) := by decide +kernel
theorem dX12_sizeOf_5 : decode cX12_sizeOf 5 = .ok (.aload_n 0, 1) := by decide +kernel
theorem dX12_sizeOf_6 : decode cX12_sizeOf 6 = .ok (.iload_n 1, 1) := by decide +kernel
theorem dX12_sizeOf_7 : decode cX12_sizeOf 7 = .ok (.invokevirtual 397, 3) := by decide +kernel
theorem dX12_sizeOf_10 : decode cX12_sizeOf 10 = .ok (.ireturn, 1) := by decide +kernel
theorem dX12_sizeOf_11 : decode cX12_sizeOf 11 = .ok (.iload_n 2, 1) := by decide +kernel
theorem dX12_sizeOf_12 : decode cX12_sizeOf 12 = .ok (.iconst 3, 1) := by decide +kernel
theorem dX12_sizeOf_13 : decode cX12_sizeOf 13 = .ok (.if_icmp .ne 9, 3) := by decide +kernel
theorem dX12_sizeOf_16 : decode cX12_sizeOf 16 = .ok (.aload_n 0, 1) := by decide +kernel
theorem dX12_sizeOf_17 : decode cX12_sizeOf 17 = .ok (.bipush 13, 2) := by decide +kernel
theorem dX12_sizeOf_19 : decode cX12_sizeOf 19 = .ok (.invokevirtual 394, 3) := by decide +kernel
theorem dX12_sizeOf_22 : decode cX12_sizeOf 22 = .ok (.iload_n 2, 1) := by decide +kernel
theorem dX12_sizeOf_23 : decode cX12_sizeOf 23 = .ok (.iconst 2, 1) := by decide +kernel
theorem dX12_sizeOf_24 : decode cX12_sizeOf 24 = .ok (.invokestatic 388, 3) := by decide +kernel
theorem dX12_sizeOf_27 : decode cX12_sizeOf 27 = .ok (.ifCond .eq 9, 3) := by decide +kernel
theorem dX12_sizeOf_30 : decode cX12_sizeOf 30 = .ok (.aload_n 0, 1) := by decide +kernel
theorem dX12_sizeOf_31 : decode cX12_sizeOf 31 = .ok (.bipush 12, 2) := by decide +kernel
theorem dX12_sizeOf_33 : decode cX12_sizeOf 33 = .ok (.invokevirtual 394, 3) := by decide +kernel
theorem dX12_sizeOf_36 : decode cX12_sizeOf 36 = .ok (.iload_n 2, 1) := by decide +kernel
theorem dX12_sizeOf_37 : decode cX12_sizeOf 37 = .ok (.iconst 1, 1) := by decide +kernel
theorem dX12_sizeOf_38 : decode cX12_sizeOf 38 = .ok (.if_icmp .ne 9, 3) := by decide +kernel
theorem dX12_sizeOf_41 : decode cX12_sizeOf 41 = .ok (.aload_n 0, 1) := by decide +kernel
theorem dX12_sizeOf_42 : decode cX12_sizeOf 42 = .ok (.bipush 11, 2) := by decide +kernel
theorem dX12_sizeOf_44 : decode cX12_sizeOf 44 = .ok (.invokevirtual 394, 3) := by decide +kernel
theorem dX12_sizeOf_47 : decode cX12_sizeOf 47 = .ok (.aload_n 0, 1) := by decide +kernel
theorem dX12_sizeOf_48 : decode cX12_sizeOf 48 = .ok (.bipush 10, 2) := by decide +kernel
theorem dX12_sizeOf_50 : decode cX12_sizeOf 50 = .ok (.invokevirtual 394, 3) := by decide +kernel
theorem dX12_sizeOf_53 : decode cX12_sizeOf 53 = .ok (.aload_n 0, 1) := by decide +kernel
theorem dX12_sizeOf_54 : decode cX12_sizeOf 54 = .ok (.iload_n 1, 1) := by decide +kernel
theorem dX12_sizeOf_55 : decode cX12_sizeOf 55 = .ok (.bipush 6, 2) := by decide +kernel
theorem dX12_sizeOf_57 : decode cX12_sizeOf 57 = .ok (.invokevirtual 343, 3) := by decide +kernel
theorem dX12_sizeOf_60 : decode cX12_sizeOf 60 = .ok (.aload_n 0, 1) := by decide +kernel
theorem dX12_sizeOf_61 : decode cX12_sizeOf 61 = .ok (.iload_n 1, 1) := by decide +kernel
theorem dX12_sizeOf_62 : decode cX12_sizeOf 62 = .ok (.iconst 5, 1) := by decide +kernel
theorem dX12_sizeOf_63 : decode cX12_sizeOf 63 = .ok (.invokevirtual 343, 3) := by decide +kernel
theorem dX12_sizeOf_66 : decode cX12_sizeOf 66 = .ok (.isub, 1) := by decide +kernel
theorem dX12_sizeOf_67 : decode cX12_sizeOf 67 = .ok (.istore_n 3, 1) := by decide +kernel
theorem dX12_sizeOf_68 : decode cX12_sizeOf 68 = .ok (.iload_n 2, 1) := by decide +kernel
theorem dX12_sizeOf_69 : decode cX12_sizeOf 69 = .ok (.iconst 1, 1) := by decide +kernel
theorem dX12_sizeOf_70 : decode cX12_sizeOf 70 = .ok (.if_icmp .ne 9, 3) := by decide +kernel
theorem dX12_sizeOf_73 : decode cX12_sizeOf 73 = .ok (.iconst 2, 1) := by decide +kernel
theorem dX12_sizeOf_74 : decode cX12_sizeOf 74 = .ok (.iload_n 3, 1) := by decide +kernel
theorem dX12_sizeOf_75 : decode cX12_sizeOf 75 = .ok (.imul, 1) := by decide +kernel
theorem dX12_sizeOf_76 : decode cX12_sizeOf 76 = .ok (.goto 23, 3) := by decide +kernel
theorem dX12_sizeOf_79 : decode cX12_sizeOf 79 = .ok (.iload_n 2, 1) := by decide +kernel
theorem dX12_sizeOf_80 : decode cX12_sizeOf 80 = .ok (.iconst 2, 1) := by decide +kernel
theorem dX12_sizeOf_81 : decode cX12_sizeOf 81 = .ok (.invokestatic 388, 3) := by decide +kernel
theorem dX12_sizeOf_84 : decode cX12_sizeOf 84 = .ok (.ifCond .eq 14, 3) := by decide +kernel
theorem dX12_sizeOf_87 : decode cX12_sizeOf 87 = .ok (.iload_n 3, 1) := by decide +kernel
theorem dX12_sizeOf_88 : decode cX12_sizeOf 88 = .ok (.aload_n 0, 1) := by decide +kernel
theorem dX12_sizeOf_89 : decode cX12_sizeOf 89 = .ok (.iload_n 1, 1) := by decide +kernel
theorem dX12_sizeOf_90 : decode cX12_sizeOf 90 = .ok (.iload_n 2, 1) := by decide +kernel
theorem dX12_sizeOf_91 : decode cX12_sizeOf 91 = .ok (.invokevirtual 400, 3) := by decide +kernel
theorem dX12_sizeOf_94 : decode cX12_sizeOf 94 = .ok (.iadd, 1) := by decide +kernel
theorem dX12_sizeOf_95 : decode cX12_sizeOf 95 = .ok (.goto 4, 3) := by decide +kernel
theorem dX12_sizeOf_98 : decode cX12_sizeOf 98 = .ok (.iload_n 3, 1) := by decide +kernel
theorem dX12_sizeOf_99 : decode cX12_sizeOf 99 = .ok (.istore_n 3, 1) := by decide +kernel
theorem dX12_sizeOf_100 : decode cX12_sizeOf 100 = .ok (.iload_n 2, 1) := by decide +kernel
theorem dX12_sizeOf_101 : decode cX12_sizeOf 101 = .ok (.iconst 3, 1) := by decide +kernel
theorem dX12_sizeOf_102 : decode cX12_sizeOf 102 = .ok (.if_icmp .ne 8, 3) := by decide +kernel
theorem dX12_sizeOf_105 : decode cX12_sizeOf 105 = .ok (.iload_n 3, 1) := by decide +kernel
theorem dX12_sizeOf_106 : decode cX12_sizeOf 106 = .ok (.ineg, 1) := by decide +kernel
theorem dX12_sizeOf_107 : decode cX12_sizeOf 107 = .ok (.goto 4, 3) := by decide +kernel
theorem dX12_sizeOf_110 : decode cX12_sizeOf 110 = .ok (.iload_n 3, 1) := by decide +kernel
theorem dX12_sizeOf_111 : decode cX12_sizeOf 111 = .ok (.ireturn, 1) := by decide +kernel
theorem dX12_ask_0 : decode cX12_ask 0 = .ok (.aload_n 0, 1) := by decide +kernel
theorem dX12_ask_1 : decode cX12_ask 1 = .ok (.iconst 0, 1) := by decide +kernel
theorem dX12_ask_2 : decode cX12_ask 2 = .ok (.putfield 1, 3) := by decide +kernel
theorem dX12_ask_5 : decode cX12_ask 5 = .ok (.aload_n 0, 1) := by decide +kernel
theorem dX12_ask_6 : decode cX12_ask 6 = .ok (.iload_n 1, 1) := by decide +kernel
theorem dX12_ask_7 : decode cX12_ask 7 = .ok (.invokevirtual 353, 3) := by decide +kernel
theorem dX12_ask_10 : decode cX12_ask 10 = .ok (.ifCond .eq 13, 3) := by decide +kernel
theorem dX12_ask_13 : decode cX12_ask 13 = .ok (.iload_n 2, 1) := by decide +kernel
theorem dX12_ask_14 : decode cX12_ask 14 = .ok (.i2l, 1) := by decide +kernel
theorem dX12_ask_15 : decode cX12_ask 15 = .ok (.lconst 0, 1) := by decide +kernel
theorem dX12_ask_16 : decode cX12_ask 16 = .ok (.lconst 1, 1) := by decide +kernel
theorem dX12_ask_17 : decode cX12_ask 17 = .ok (.invokestatic 132, 3) := by decide +kernel
theorem dX12_ask_20 : decode cX12_ask 20 = .ok (.ifCond .ne 6, 3) := by decide +kernel
theorem dX12_ask_23 : decode cX12_ask 23 = .ok (.ldc 142, 2) := by decide +kernel
theorem dX12_ask_25 : decode cX12_ask 25 = .ok (.ireturn, 1) := by decide +kernel
theorem dX12_ask_26 : decode cX12_ask 26 = .ok (.aload_n 0, 1) := by decide +kernel
theorem dX12_ask_27 : decode cX12_ask 27 = .ok (.iconst 0, 1) := by decide +kernel
theorem dX12_ask_28 : decode cX12_ask 28 = .ok (.putfield 391, 3) := by decide +kernel
theorem dX12_ask_31 : decode cX12_ask 31 = .ok (.aload_n 0, 1) := by decide +kernel
theorem dX12_ask_32 : decode cX12_ask 32 = .ok (.iload_n 1, 1) := by decide +kernel
theorem dX12_ask_33 : decode cX12_ask 33 = .ok (.invokevirtual 385, 3) := by decide +kernel
theorem dX12_ask_36 : decode cX12_ask 36 = .ok (.istore_n 3, 1) := by decide +kernel
theorem dX12_ask_37 : decode cX12_ask 37 = .ok (.iload_n 2, 1) := by decide +kernel
theorem dX12_ask_38 : decode cX12_ask 38 = .ok (.ifCond .ne 12, 3) := by decide +kernel
theorem dX12_ask_41 : decode cX12_ask 41 = .ok (.aload_n 0, 1) := by decide +kernel
theorem dX12_ask_42 : decode cX12_ask 42 = .ok (.iload_n 1, 1) := by decide +kernel
theorem dX12_ask_43 : decode cX12_ask 43 = .ok (.iload_n 3, 1) := by decide +kernel
theorem dX12_ask_44 : decode cX12_ask 44 = .ok (.invokevirtual 403, 3) := by decide +kernel
theorem dX12_ask_47 : decode cX12_ask 47 = .ok (.goto 9, 3) := by decide +kernel
theorem dX12_ask_50 : decode cX12_ask 50 = .ok (.aload_n 0, 1) := by decide +kernel
theorem dX12_ask_51 : decode cX12_ask 51 = .ok (.iload_n 1, 1) := by decide +kernel
theorem dX12_ask_52 : decode cX12_ask 52 = .ok (.iload_n 3, 1) := by decide +kernel
theorem dX12_ask_53 : decode cX12_ask 53 = .ok (.invokevirtual 400, 3) := by decide +kernel
theorem dX12_ask_56 : decode cX12_ask 56 = .ok (.ireturn, 1) := by decide +kernel
theorem dX12_trace_0 : decode cX12_trace 0 = .ok (.aload_n 0, 1) := by decide +kernel
theorem dX12_trace_1 : decode cX12_trace 1 = .ok (.iconst 0, 1) := by decide +kernel
theorem dX12_trace_2 : decode cX12_trace 2 = .ok (.putfield 1, 3) := by decide +kernel
theorem dX12_trace_5 : decode cX12_trace 5 = .ok (.iload_n 1, 1) := by decide +kernel
theorem dX12_trace_6 : decode cX12_trace 6 = .ok (.i2l, 1) := by decide +kernel
theorem dX12_trace_7 : decode cX12_trace 7 = .ok (.lconst 0, 1) := by decide +kernel
theorem dX12_trace_8 : decode cX12_trace 8 = .ok (.aload_n 0, 1) := by decide +kernel
theorem dX12_trace_9 : decode cX12_trace 9 = .ok (.getfield 391, 3) := by decide +kernel
theorem dX12_trace_12 : decode cX12_trace 12 = .ok (.iconst 1, 1) := by decide +kernel
theorem dX12_trace_13 : decode cX12_trace 13 = .ok (.isub, 1) := by decide +kernel
theorem dX12_trace_14 : decode cX12_trace 14 = .ok (.i2l, 1) := by decide +kernel
theorem dX12_trace_15 : decode cX12_trace 15 = .ok (.invokestatic 132, 3) := by decide +kernel
theorem dX12_trace_18 : decode cX12_trace 18 = .ok (.ifCond .eq 12, 3) := by decide +kernel
theorem dX12_trace_21 : decode cX12_trace 21 = .ok (.aload_n 0, 1) := by decide +kernel
theorem dX12_trace_22 : decode cX12_trace 22 = .ok (.getfield 126, 3) := by decide +kernel
theorem dX12_trace_25 : decode cX12_trace 25 = .ok (.iload_n 1, 1) := by decide +kernel
theorem dX12_trace_26 : decode cX12_trace 26 = .ok (.iaload, 1) := by decide +kernel
theorem dX12_trace_27 : decode cX12_trace 27 = .ok (.goto 5, 3) := by decide +kernel
theorem dX12_trace_30 : decode cX12_trace 30 = .ok (.ldc 129, 2) := by decide +kernel
theorem dX12_trace_32 : decode cX12_trace 32 = .ok (.ireturn, 1) := by decide +kernel
theorem dX12_count_0 : decode cX12_count 0 = .ok (.aload_n 0, 1) := by decide +kernel
theorem dX12_count_1 : decode cX12_count 1 = .ok (.iconst 0, 1) := by decide +kernel
theorem dX12_count_2 : decode cX12_count 2 = .ok (.putfield 1, 3) := by decide +kernel
theorem dX12_count_5 : decode cX12_count 5 = .ok (.iconst 0, 1) := by decide +kernel
theorem dX12_count_6 : decode cX12_count 6 = .ok (.istore_n 2, 1) := by decide +kernel
theorem dX12_count_7 : decode cX12_count 7 = .ok (.iload_n 1, 1) := by decide +kernel
theorem dX12_count_8 : decode cX12_count 8 = .ok (.tableswitch 192 0 8 #[52, 85, 90, 95, 100, 105, 105, 152, 187], 52) := by decide +kernel
theorem dX12_count_60 : decode cX12_count 60 = .ok (.iconst 0, 1) := by decide +kernel
theorem dX12_count_61 : decode cX12_count 61 = .ok (.istore_n 3, 1) := by decide +kernel
theorem dX12_count_62 : decode cX12_count 62 = .ok (.iload_n 3, 1) := by decide +kernel
theorem dX12_count_63 : decode cX12_count 63 = .ok (.bipush 8, 2) := by decide +kernel
theorem dX12_count_65 : decode cX12_count 65 = .ok (.if_icmp .ge 26, 3) := by decide +kernel
theorem dX12_count_68 : decode cX12_count 68 = .ok (.iload_n 2, 1) := by decide +kernel
theorem dX12_count_69 : decode cX12_count 69 = .ok (.aload_n 0, 1) := by decide +kernel
theorem dX12_count_70 : decode cX12_count 70 = .ok (.getfield 17, 3) := by decide +kernel
theorem dX12_count_73 : decode cX12_count 73 = .ok (.iload_n 3, 1) := by decide +kernel
theorem dX12_count_74 : decode cX12_count 74 = .ok (.iaload, 1) := by decide +kernel
theorem dX12_count_75 : decode cX12_count 75 = .ok (.ifCond .lt 7, 3) := by decide +kernel
theorem dX12_count_78 : decode cX12_count 78 = .ok (.iconst 1, 1) := by decide +kernel
theorem dX12_count_79 : decode cX12_count 79 = .ok (.goto 4, 3) := by decide +kernel
theorem dX12_count_82 : decode cX12_count 82 = .ok (.iconst 0, 1) := by decide +kernel
theorem dX12_count_83 : decode cX12_count 83 = .ok (.iadd, 1) := by decide +kernel
theorem dX12_count_84 : decode cX12_count 84 = .ok (.istore_n 2, 1) := by decide +kernel
theorem dX12_count_85 : decode cX12_count 85 = .ok (.iinc 3 1, 3) := by decide +kernel
theorem dX12_count_88 : decode cX12_count 88 = .ok (.goto (-26), 3) := by decide +kernel
theorem dX12_count_91 : decode cX12_count 91 = .ok (.iload_n 2, 1) := by decide +kernel
theorem dX12_count_92 : decode cX12_count 92 = .ok (.ireturn, 1) := by decide +kernel
theorem dX12_count_93 : decode cX12_count 93 = .ok (.aload_n 0, 1) := by decide +kernel
theorem dX12_count_94 : decode cX12_count 94 = .ok (.getfield 242, 3) := by decide +kernel
theorem dX12_count_97 : decode cX12_count 97 = .ok (.ireturn, 1) := by decide +kernel
theorem dX12_count_98 : decode cX12_count 98 = .ok (.aload_n 0, 1) := by decide +kernel
theorem dX12_count_99 : decode cX12_count 99 = .ok (.getfield 287, 3) := by decide +kernel
theorem dX12_count_102 : decode cX12_count 102 = .ok (.ireturn, 1) := by decide +kernel
theorem dX12_count_103 : decode cX12_count 103 = .ok (.aload_n 0, 1) := by decide +kernel
theorem dX12_count_104 : decode cX12_count 104 = .ok (.getfield 305, 3) := by decide +kernel
theorem dX12_count_107 : decode cX12_count 107 = .ok (.ireturn, 1) := by decide +kernel
theorem dX12_count_108 : decode cX12_count 108 = .ok (.aload_n 0, 1) := by decide +kernel
theorem dX12_count_109 : decode cX12_count 109 = .ok (.getfield 333, 3) := by decide +kernel
theorem dX12_count_112 : decode cX12_count 112 = .ok (.ireturn, 1) := by decide +kernel
theorem dX12_count_113 : decode cX12_count 113 = .ok (.iconst 0, 1) := by decide +kernel
theorem dX12_count_114 : decode cX12_count 114 = .ok (.istore_n 3, 1) := by decide +kernel
theorem dX12_count_115 : decode cX12_count 115 = .ok (.iload_n 3, 1) := by decide +kernel
theorem dX12_count_116 : decode cX12_count 116 = .ok (.aload_n 0, 1) := by decide +kernel
theorem dX12_count_117 : decode cX12_count 117 = .ok (.getfield 333, 3) := by decide +kernel
theorem dX12_count_120 : decode cX12_count 120 = .ok (.if_icmp .ge 38, 3) := by decide +kernel
theorem dX12_count_123 : decode cX12_count 123 = .ok (.iload_n 2, 1) := by decide +kernel
theorem dX12_count_124 : decode cX12_count 124 = .ok (.aload_n 0, 1) := by decide +kernel
theorem dX12_count_125 : decode cX12_count 125 = .ok (.iload_n 3, 1) := by decide +kernel
theorem dX12_count_126 : decode cX12_count 126 = .ok (.invokevirtual 385, 3) := by decide +kernel
theorem dX12_count_129 : decode cX12_count 129 = .ok (.iload_n 1, 1) := by decide +kernel
theorem dX12_count_130 : decode cX12_count 130 = .ok (.iconst 5, 1) := by decide +kernel
theorem dX12_count_131 : decode cX12_count 131 = .ok (.if_icmp .ne 7, 3) := by decide +kernel
theorem dX12_count_134 : decode cX12_count 134 = .ok (.iconst 2, 1) := by decide +kernel
theorem dX12_count_135 : decode cX12_count 135 = .ok (.goto 4, 3) := by decide +kernel
theorem dX12_count_138 : decode cX12_count 138 = .ok (.iconst 3, 1) := by decide +kernel
theorem dX12_count_139 : decode cX12_count 139 = .ok (.invokestatic 388, 3) := by decide +kernel
theorem dX12_count_142 : decode cX12_count 142 = .ok (.ifCond .eq 7, 3) := by decide +kernel
theorem dX12_count_145 : decode cX12_count 145 = .ok (.iconst 1, 1) := by decide +kernel
theorem dX12_count_146 : decode cX12_count 146 = .ok (.goto 4, 3) := by decide +kernel
theorem dX12_count_149 : decode cX12_count 149 = .ok (.iconst 0, 1) := by decide +kernel
theorem dX12_count_150 : decode cX12_count 150 = .ok (.iadd, 1) := by decide +kernel
theorem dX12_count_151 : decode cX12_count 151 = .ok (.istore_n 2, 1) := by decide +kernel
theorem dX12_count_152 : decode cX12_count 152 = .ok (.iinc 3 1, 3) := by decide +kernel
theorem dX12_count_155 : decode cX12_count 155 = .ok (.goto (-40), 3) := by decide +kernel
theorem dX12_count_158 : decode cX12_count 158 = .ok (.iload_n 2, 1) := by decide +kernel
theorem dX12_count_159 : decode cX12_count 159 = .ok (.ireturn, 1) := by decide +kernel
theorem dX12_count_160 : decode cX12_count 160 = .ok (.iconst 0, 1) := by decide +kernel
theorem dX12_count_161 : decode cX12_count 161 = .ok (.istore_n 3, 1) := by decide +kernel
theorem dX12_count_162 : decode cX12_count 162 = .ok (.iload_n 3, 1) := by decide +kernel
theorem dX12_count_163 : decode cX12_count 163 = .ok (.bipush 8, 2) := by decide +kernel
theorem dX12_count_165 : decode cX12_count 165 = .ok (.if_icmp .ge 28, 3) := by decide +kernel
theorem dX12_count_168 : decode cX12_count 168 = .ok (.iload_n 2, 1) := by decide +kernel
theorem dX12_count_169 : decode cX12_count 169 = .ok (.aload_n 0, 1) := by decide +kernel
theorem dX12_count_170 : decode cX12_count 170 = .ok (.getfield 111, 3) := by decide +kernel
theorem dX12_count_173 : decode cX12_count 173 = .ok (.iload_n 3, 1) := by decide +kernel
theorem dX12_count_174 : decode cX12_count 174 = .ok (.iaload, 1) := by decide +kernel
theorem dX12_count_175 : decode cX12_count 175 = .ok (.ldc 129, 2) := by decide +kernel
theorem dX12_count_177 : decode cX12_count 177 = .ok (.if_icmp .eq 7, 3) := by decide +kernel
theorem dX12_count_180 : decode cX12_count 180 = .ok (.iconst 1, 1) := by decide +kernel
theorem dX12_count_181 : decode cX12_count 181 = .ok (.goto 4, 3) := by decide +kernel
theorem dX12_count_184 : decode cX12_count 184 = .ok (.iconst 0, 1) := by decide +kernel
theorem dX12_count_185 : decode cX12_count 185 = .ok (.iadd, 1) := by decide +kernel
theorem dX12_count_186 : decode cX12_count 186 = .ok (.istore_n 2, 1) := by decide +kernel
theorem dX12_count_187 : decode cX12_count 187 = .ok (.iinc 3 1, 3) := by decide +kernel
theorem dX12_count_190 : decode cX12_count 190 = .ok (.goto (-28), 3) := by decide +kernel
theorem dX12_count_193 : decode cX12_count 193 = .ok (.iload_n 2, 1) := by decide +kernel
theorem dX12_count_194 : decode cX12_count 194 = .ok (.ireturn, 1) := by decide +kernel
theorem dX12_count_195 : decode cX12_count 195 = .ok (.aload_n 0, 1) := by decide +kernel
theorem dX12_count_196 : decode cX12_count 196 = .ok (.getfield 167, 3) := by decide +kernel
theorem dX12_count_199 : decode cX12_count 199 = .ok (.ireturn, 1) := by decide +kernel
theorem dX12_count_200 : decode cX12_count 200 = .ok (.ldc 142, 2) := by decide +kernel
theorem dX12_count_202 : decode cX12_count 202 = .ok (.ireturn, 1) := by decide +kernel
theorem dX12_status_0 : decode cX12_status 0 = .ok (.aload_n 0, 1) := by decide +kernel
theorem dX12_status_1 : decode cX12_status 1 = .ok (.iconst 0, 1) := by decide +kernel
theorem dX12_status_2 : decode cX12_status 2 = .ok (.putfield 1, 3) := by decide +kernel
theorem dX12_status_5 : decode cX12_status 5 = .ok (.aload_n 0, 1) := by decide +kernel
theorem dX12_status_6 : decode cX12_status 6 = .ok (.getfield 7, 3) := by decide +kernel
theorem dX12_status_9 : decode cX12_status 9 = .ok (.ireturn, 1) := by decide +kernel
set_option maxRecDepth 100000 in
set_option maxHeartbeats 4000000 in
theorem B_X12_fell_0 {g : gp} {u : sg} {Q : Option Value → sg → Prop} (x1 : Int32) (x2 : Int32) (h : Go g iX12_in 0 [some (.long (x1.toInt64)), none, some (.long 0), none, some (.long 7), none] [] (sI u 12 0 (0 : Int32)) (QI (fun r1 u1 => ((r1 = (0 : Int32) → Q (some (.int (-1000001 : Int32))) u1) ∧ (¬ r1 = (0 : Int32) → Go g iX12_isDay 0 [some (.int x2)] [] u1 (QI (fun r2 u2 => ((¬ r2 = (0 : Int32) → (vp_in x1 8 ∧ (((u2.2 83 x1.toNatClampNeg) = (-1000000 : Int32) → (vp_in x1 8 ∧ Q (some (.int (1 : Int32))) (sA u2 83 x1.toNatClampNeg x2))) ∧ (¬ (u2.2 83 x1.toNatClampNeg) = (-1000000 : Int32) → (vp_in x1 8 ∧ ((x2 < (u2.2 83 x1.toNatClampNeg) → (vp_in x1 8 ∧ Q (some (.int (1 : Int32))) (sA u2 83 x1.toNatClampNeg x2))) ∧ (¬ x2 < (u2.2 83 x1.toNatClampNeg) → Q (some (.int (0 : Int32))) u2))))))) ∧ (r2 = (0 : Int32) → Q (some (.int (-1000001 : Int32))) u2))))))))) : Go g iX12_fell 0 [some (.ref (gd g 12)), some (.int x1), some (.int x2)] [] u Q := by
  refine go_aload_n dX12_fell_0 rfl rfl ?_
  refine go_iconst (v := 0) dX12_fell_1 (by decide) ?_
  refine go_put (k := 0) dX12_fell_2 ob_12 (by decide) qf_X12_1 rfl rfl pf_I ?_
  refine go_iload_n dX12_fell_5 rfl rfl ?_
  refine go_i2l dX12_fell_6 ?_
  refine go_lconst (v := 0) dX12_fell_7 (by decide) ?_
  refine go_ldc2 dX12_fell_8 ql_X12_130 ?_
  refine go_cSi (As := [.long (x1.toInt64), .long 0, .long 7]) (st := []) (lc := [some (.long (x1.toInt64)), none, some (.long 0), none, some (.long 7), none]) dX12_fell_11 me_X12_in qm_X12_132 rfl (Nat.le_of_ble_eq_true rfl) rfl ⟨Nat.le_of_ble_eq_true rfl, Nat.le_of_ble_eq_true rfl⟩ rfl (Nat.le_of_ble_eq_true rfl) h (fun r1 u1 h => ?_)
  refine go_if_eq (tgt := 24) dX12_fell_14 (by decide) (fun hc => ?_) (fun hc => ?_)
  · replace h := h.1 hc
    refine go_ldc dX12_fell_24 qc_X12_142 ?_
    exact go_iret dX12_fell_26 rfl h
  · replace h := h.2 hc
    refine go_iload_n dX12_fell_17 rfl rfl ?_
    refine go_cSi (As := [.int x2]) (st := []) (lc := [some (.int x2)]) dX12_fell_18 me_X12_isDay qm_X12_258 rfl (Nat.le_of_ble_eq_true rfl) rfl ⟨Nat.le_of_ble_eq_true rfl, Nat.le_of_ble_eq_true rfl⟩ rfl (Nat.le_of_ble_eq_true rfl) h (fun r2 u2 h => ?_)
    refine go_if_ne (tgt := 27) dX12_fell_21 (by decide) (fun hc => ?_) (fun hc => ?_)
    · replace h := h.1 hc
      refine go_aload_n dX12_fell_27 rfl rfl ?_
      refine go_get (k := 53) (v := .ref (gd g 83)) dX12_fell_28 ob_12 (by decide) qf_X12_111 rfl ?_
      refine go_iload_n dX12_fell_31 rfl rfl ?_
      obtain ⟨hi, h⟩ := h
      refine go_ild (a := 83) (n := 8) dX12_fell_32 (by decide) (by decide) rfl hi ?_
      refine go_ldc dX12_fell_33 qc_X12_129 ?_
      refine go_icmp_eq (tgt := 50) dX12_fell_35 (by decide) (fun hc => ?_) (fun hc => ?_)
      · replace h := h.1 hc
        refine go_aload_n dX12_fell_50 rfl rfl ?_
        refine go_get (k := 53) (v := .ref (gd g 83)) dX12_fell_51 ob_12 (by decide) qf_X12_111 rfl ?_
        refine go_iload_n dX12_fell_54 rfl rfl ?_
        refine go_iload_n dX12_fell_55 rfl rfl ?_
        obtain ⟨hi, h⟩ := h
        refine go_ist (a := 83) (n := 8) dX12_fell_56 (by decide) (by decide) rfl hi ?_
        refine go_iconst (v := 1) dX12_fell_57 (by decide) ?_
        exact go_iret dX12_fell_58 rfl h
      · replace h := h.2 hc
        refine go_aload_n dX12_fell_38 rfl rfl ?_
        refine go_get (k := 53) (v := .ref (gd g 83)) dX12_fell_39 ob_12 (by decide) qf_X12_111 rfl ?_
        refine go_iload_n dX12_fell_42 rfl rfl ?_
        obtain ⟨hi, h⟩ := h
        refine go_ild (a := 83) (n := 8) dX12_fell_43 (by decide) (by decide) rfl hi ?_
        refine go_iload_n dX12_fell_44 rfl rfl ?_
        refine go_icmp_gt (tgt := 50) dX12_fell_45 (by decide) (fun hc => ?_) (fun hc => ?_)
        · replace h := h.1 hc
          refine go_aload_n dX12_fell_50 rfl rfl ?_
          refine go_get (k := 53) (v := .ref (gd g 83)) dX12_fell_51 ob_12 (by decide) qf_X12_111 rfl ?_
          refine go_iload_n dX12_fell_54 rfl rfl ?_
          refine go_iload_n dX12_fell_55 rfl rfl ?_
          obtain ⟨hi, h⟩ := h
          refine go_ist (a := 83) (n := 8) dX12_fell_56 (by decide) (by decide) rfl hi ?_
          refine go_iconst (v := 1) dX12_fell_57 (by decide) ?_
          exact go_iret dX12_fell_58 rfl h
        · replace h := h.2 hc
          refine go_iconst (v := 0) dX12_fell_48 (by decide) ?_
          exact go_iret dX12_fell_49 rfl h
    · replace h := h.2 hc
      refine go_ldc dX12_fell_24 qc_X12_142 ?_
      exact go_iret dX12_fell_26 rfl h
set_option maxRecDepth 100000 in
set_option maxHeartbeats 4000000 in
theorem B_X12_bits_0 {g : gp} {u : sg} {Q : Option Value → sg → Prop} (x0 : Int32) (h : Go g iX12_bits 4 [some (.int x0), some (.int 0), some (.int 0)] [] u Q) : Go g iX12_bits 0 [some (.int x0), none, none] [] u Q := by
  refine go_iconst (v := 0) dX12_bits_0 (by decide) ?_
  refine go_istore_n (lm := [some (.int x0), some (.int 0), none]) dX12_bits_1 rfl (by decide) rfl rfl ?_
  refine go_iconst (v := 0) dX12_bits_2 (by decide) ?_
  refine go_istore_n (lm := [some (.int x0), some (.int 0), some (.int 0)]) dX12_bits_3 rfl (by decide) rfl rfl ?_
  exact h
set_option maxRecDepth 100000 in
set_option maxHeartbeats 4000000 in
theorem B_X12_bits_4 {g : gp} {u : sg} {Q : Option Value → sg → Prop} (x0 : Int32) (x1 : Int32) (x2 : Int32) (h : (((16 : Int32) ≤ x2 → Q (some (.int x1)) u) ∧ (¬ (16 : Int32) ≤ x2 → Go g iX12_bits 4 [some (.int x0), some (.int (x1 + ((x0 >>> (x2 &&& 31)) &&& 1))), some (.int (x2 + 1))] [] u Q))) : Go g iX12_bits 4 [some (.int x0), some (.int x1), some (.int x2)] [] u Q := by
  refine go_iload_n dX12_bits_4 rfl rfl ?_
  refine go_bipush (v := 16) dX12_bits_5 (by decide) ?_
  refine go_icmp_ge (tgt := 24) dX12_bits_7 (by decide) (fun hc => ?_) (fun hc => ?_)
  · replace h := h.1 hc
    refine go_iload_n dX12_bits_24 rfl rfl ?_
    exact go_iret dX12_bits_25 rfl h
  · replace h := h.2 hc
    refine go_iload_n dX12_bits_10 rfl rfl ?_
    refine go_iload_n dX12_bits_11 rfl rfl ?_
    refine go_iload_n dX12_bits_12 rfl rfl ?_
    refine go_ishr dX12_bits_13 ?_
    refine go_iconst (v := 1) dX12_bits_14 (by decide) ?_
    refine go_iand dX12_bits_15 ?_
    refine go_iadd dX12_bits_16 ?_
    refine go_istore_n (lm := [some (.int x0), some (.int (x1 + ((x0 >>> (x2 &&& 31)) &&& 1))), some (.int x2)]) dX12_bits_17 rfl (by decide) rfl rfl ?_
    refine go_iinc (v := x2 + 1) (lm := [some (.int x0), some (.int (x1 + ((x0 >>> (x2 &&& 31)) &&& 1))), some (.int (x2 + 1))]) dX12_bits_18 rfl rfl (by decide) rfl rfl ?_
    refine go_goto (tgt := 4) dX12_bits_21 (by decide) ?_
    exact h
set_option maxRecDepth 100000 in
set_option maxHeartbeats 4000000 in
theorem B_X12_whoMay_0 {g : gp} {u : sg} {Q : Option Value → sg → Prop} (x1 : Int32) (h : Go g iX12_whoMay 4 [some (.ref (gd g 12)), some (.int x1), some (.int 0), some (.int 0), none] [] u Q) : Go g iX12_whoMay 0 [some (.ref (gd g 12)), some (.int x1), none, none, none] [] u Q := by
  refine go_iconst (v := 0) dX12_whoMay_0 (by decide) ?_
  refine go_istore_n (lm := [some (.ref (gd g 12)), some (.int x1), some (.int 0), none, none]) dX12_whoMay_1 rfl (by decide) rfl rfl ?_
  refine go_iconst (v := 0) dX12_whoMay_2 (by decide) ?_
  refine go_istore_n (lm := [some (.ref (gd g 12)), some (.int x1), some (.int 0), some (.int 0), none]) dX12_whoMay_3 rfl (by decide) rfl rfl ?_
  exact h
set_option maxRecDepth 100000 in
set_option maxHeartbeats 4000000 in
theorem B_X12_whoMay_4 {g : gp} {u : sg} {Q : Option Value → sg → Prop} (x1 : Int32) (x2 : Int32) (x3 : Int32) (h : (((u.1 12 48) ≤ x3 → Q (some (.int x2)) u) ∧ (¬ (u.1 12 48) ≤ x3 → (vp_in x3 40 ∧ ((¬ (u.2 80 x3.toNatClampNeg) = x1 → Go g iX12_whoMay 62 [some (.ref (gd g 12)), some (.int x1), some (.int x2), some (.int x3), none] [.int 0] u Q) ∧ ((u.2 80 x3.toNatClampNeg) = x1 → (vp_in x3 40 ∧ (vp_in x1 8 ∧ ((((u.2 83 x1.toNatClampNeg) - 2) < (u.2 81 x3.toNatClampNeg) → Go g iX12_whoMay 62 [some (.ref (gd g 12)), some (.int x1), some (.int x2), some (.int x3), none] [.int 0] u Q) ∧ (¬ ((u.2 83 x1.toNatClampNeg) - 2) < (u.2 81 x3.toNatClampNeg) → (vp_in x3 40 ∧ (vp_in x1 8 ∧ (((u.2 82 x3.toNatClampNeg) < ((u.2 83 x1.toNatClampNeg) - 10) → Go g iX12_whoMay 62 [some (.ref (gd g 12)), some (.int x1), some (.int x2), some (.int x3), none] [.int 0] u Q) ∧ (¬ (u.2 82 x3.toNatClampNeg) < ((u.2 83 x1.toNatClampNeg) - 10) → Go g iX12_whoMay 62 [some (.ref (gd g 12)), some (.int x1), some (.int x2), some (.int x3), none] [.int 1] u Q)))))))))))))) : Go g iX12_whoMay 4 [some (.ref (gd g 12)), some (.int x1), some (.int x2), some (.int x3), none] [] u Q := by
  refine go_iload_n dX12_whoMay_4 rfl rfl ?_
  refine go_aload_n dX12_whoMay_5 rfl rfl ?_
  refine go_get (k := 48) (v := .int (u.1 12 48)) dX12_whoMay_6 ob_12 (by decide) qf_X12_363 rfl ?_
  refine go_icmp_ge (tgt := 90) dX12_whoMay_9 (by decide) (fun hc => ?_) (fun hc => ?_)
  · replace h := h.1 hc
    refine go_iload_n dX12_whoMay_90 rfl rfl ?_
    exact go_iret dX12_whoMay_91 rfl h
  · replace h := h.2 hc
    refine go_aload_n dX12_whoMay_12 rfl rfl ?_
    refine go_get (k := 50) (v := .ref (gd g 80)) dX12_whoMay_13 ob_12 (by decide) qf_X12_102 rfl ?_
    refine go_iload_n dX12_whoMay_16 rfl rfl ?_
    obtain ⟨hi, h⟩ := h
    refine go_ild (a := 80) (n := 40) dX12_whoMay_17 (by decide) (by decide) rfl hi ?_
    refine go_iload_n dX12_whoMay_18 rfl rfl ?_
    refine go_icmp_ne (tgt := 61) dX12_whoMay_19 (by decide) (fun hc => ?_) (fun hc => ?_)
    · replace h := h.1 hc
      refine go_iconst (v := 0) dX12_whoMay_61 (by decide) ?_
      exact h
    · replace h := h.2 hc
      refine go_aload_n dX12_whoMay_22 rfl rfl ?_
      refine go_get (k := 51) (v := .ref (gd g 81)) dX12_whoMay_23 ob_12 (by decide) qf_X12_105 rfl ?_
      refine go_iload_n dX12_whoMay_26 rfl rfl ?_
      obtain ⟨hi, h⟩ := h
      refine go_ild (a := 81) (n := 40) dX12_whoMay_27 (by decide) (by decide) rfl hi ?_
      refine go_aload_n dX12_whoMay_28 rfl rfl ?_
      refine go_get (k := 53) (v := .ref (gd g 83)) dX12_whoMay_29 ob_12 (by decide) qf_X12_111 rfl ?_
      refine go_iload_n dX12_whoMay_32 rfl rfl ?_
      obtain ⟨hi, h⟩ := h
      refine go_ild (a := 83) (n := 8) dX12_whoMay_33 (by decide) (by decide) rfl hi ?_
      refine go_iconst (v := 2) dX12_whoMay_34 (by decide) ?_
      refine go_isub dX12_whoMay_35 ?_
      refine go_icmp_gt (tgt := 61) dX12_whoMay_36 (by decide) (fun hc => ?_) (fun hc => ?_)
      · replace h := h.1 hc
        refine go_iconst (v := 0) dX12_whoMay_61 (by decide) ?_
        exact h
      · replace h := h.2 hc
        refine go_aload_n dX12_whoMay_39 rfl rfl ?_
        refine go_get (k := 52) (v := .ref (gd g 82)) dX12_whoMay_40 ob_12 (by decide) qf_X12_108 rfl ?_
        refine go_iload_n dX12_whoMay_43 rfl rfl ?_
        obtain ⟨hi, h⟩ := h
        refine go_ild (a := 82) (n := 40) dX12_whoMay_44 (by decide) (by decide) rfl hi ?_
        refine go_aload_n dX12_whoMay_45 rfl rfl ?_
        refine go_get (k := 53) (v := .ref (gd g 83)) dX12_whoMay_46 ob_12 (by decide) qf_X12_111 rfl ?_
        refine go_iload_n dX12_whoMay_49 rfl rfl ?_
        obtain ⟨hi, h⟩ := h
        refine go_ild (a := 83) (n := 8) dX12_whoMay_50 (by decide) (by decide) rfl hi ?_
        refine go_bipush (v := 10) dX12_whoMay_51 (by decide) ?_
        refine go_isub dX12_whoMay_53 ?_
        refine go_icmp_lt (tgt := 61) dX12_whoMay_54 (by decide) (fun hc => ?_) (fun hc => ?_)
        · replace h := h.1 hc
          refine go_iconst (v := 0) dX12_whoMay_61 (by decide) ?_
          exact h
        · replace h := h.2 hc
          refine go_iconst (v := 1) dX12_whoMay_57 (by decide) ?_
          refine go_goto (tgt := 62) dX12_whoMay_58 (by decide) ?_
          exact h
set_option maxRecDepth 100000 in
set_option maxHeartbeats 4000000 in
theorem B_X12_whoMay_62 {g : gp} {u : sg} {Q : Option Value → sg → Prop} (x1 : Int32) (x2 : Int32) (x3 : Int32) (t0 : Int32) (h : ((t0 = (0 : Int32) → Go g iX12_whoMay 4 [some (.ref (gd g 12)), some (.int x1), some (.int (x2 ||| 0)), some (.int (x3 + 1)), none] [] u Q) ∧ (¬ t0 = (0 : Int32) → (vp_in x3 40 ∧ Go g iX12_whoMay 4 [some (.ref (gd g 12)), some (.int x1), some (.int (x2 ||| (1 <<< ((u.2 79 x3.toNatClampNeg) &&& 31)))), some (.int (x3 + 1)), none] [] u Q)))) : Go g iX12_whoMay 62 [some (.ref (gd g 12)), some (.int x1), some (.int x2), some (.int x3), none] [.int t0] u Q := by
  refine go_istore (lm := [some (.ref (gd g 12)), some (.int x1), some (.int x2), some (.int x3), some (.int t0)]) dX12_whoMay_62 (by decide) rfl rfl ?_
  refine go_iload_n dX12_whoMay_64 rfl rfl ?_
  refine go_iload dX12_whoMay_65 rfl ?_
  refine go_if_eq (tgt := 81) dX12_whoMay_67 (by decide) (fun hc => ?_) (fun hc => ?_)
  · replace h := h.1 hc
    refine go_iconst (v := 0) dX12_whoMay_81 (by decide) ?_
    refine go_ior dX12_whoMay_82 ?_
    refine go_istore_n (lm := [some (.ref (gd g 12)), some (.int x1), some (.int (x2 ||| 0)), some (.int x3), some (.int t0)]) dX12_whoMay_83 rfl (by decide) rfl rfl ?_
    refine go_iinc (v := x3 + 1) (lm := [some (.ref (gd g 12)), some (.int x1), some (.int (x2 ||| 0)), some (.int (x3 + 1)), some (.int t0)]) dX12_whoMay_84 rfl rfl (by decide) rfl rfl ?_
    refine go_goto (tgt := 4) dX12_whoMay_87 (by decide) ?_
    refine go_mask [true, true, true, true, false] rfl ?_
    exact h
  · replace h := h.2 hc
    refine go_iconst (v := 1) dX12_whoMay_70 (by decide) ?_
    refine go_aload_n dX12_whoMay_71 rfl rfl ?_
    refine go_get (k := 49) (v := .ref (gd g 79)) dX12_whoMay_72 ob_12 (by decide) qf_X12_99 rfl ?_
    refine go_iload_n dX12_whoMay_75 rfl rfl ?_
    obtain ⟨hi, h⟩ := h
    refine go_ild (a := 79) (n := 40) dX12_whoMay_76 (by decide) (by decide) rfl hi ?_
    refine go_ishl dX12_whoMay_77 ?_
    refine go_goto (tgt := 82) dX12_whoMay_78 (by decide) ?_
    refine go_ior dX12_whoMay_82 ?_
    refine go_istore_n (lm := [some (.ref (gd g 12)), some (.int x1), some (.int (x2 ||| (1 <<< ((u.2 79 x3.toNatClampNeg) &&& 31)))), some (.int x3), some (.int t0)]) dX12_whoMay_83 rfl (by decide) rfl rfl ?_
    refine go_iinc (v := x3 + 1) (lm := [some (.ref (gd g 12)), some (.int x1), some (.int (x2 ||| (1 <<< ((u.2 79 x3.toNatClampNeg) &&& 31)))), some (.int (x3 + 1)), some (.int t0)]) dX12_whoMay_84 rfl rfl (by decide) rfl rfl ?_
    refine go_goto (tgt := 4) dX12_whoMay_87 (by decide) ?_
    refine go_mask [true, true, true, true, false] rfl ?_
    exact h
set_option maxRecDepth 100000 in
set_option maxHeartbeats 4000000 in
theorem B_X12_brought_0 {g : gp} {u : sg} {Q : Option Value → sg → Prop} (x1 : Int32) (h : Go g iX12_in 0 [some (.long (x1.toInt64)), none, some (.long 0), none, some (.long 2), none] [] (sI u 12 0 (0 : Int32)) (QI (fun r1 u1 => ((¬ r1 = (0 : Int32) → Go g iX12_brought 24 [some (.ref (gd g 12)), some (.int x1), some (.int 0), some (.int 0), none, none, none, none] [] u1 Q) ∧ (r1 = (0 : Int32) → Q (some (.int (-1000001 : Int32))) u1))))) : Go g iX12_brought 0 [some (.ref (gd g 12)), some (.int x1), none, none, none, none, none, none] [] u Q := by
  refine go_aload_n dX12_brought_0 rfl rfl ?_
  refine go_iconst (v := 0) dX12_brought_1 (by decide) ?_
  refine go_put (k := 0) dX12_brought_2 ob_12 (by decide) qf_X12_1 rfl rfl pf_I ?_
  refine go_iload_n dX12_brought_5 rfl rfl ?_
  refine go_i2l dX12_brought_6 ?_
  refine go_lconst (v := 0) dX12_brought_7 (by decide) ?_
  refine go_ldc2 dX12_brought_8 ql_X12_140 ?_
  refine go_cSi (As := [.long (x1.toInt64), .long 0, .long 2]) (st := []) (lc := [some (.long (x1.toInt64)), none, some (.long 0), none, some (.long 2), none]) dX12_brought_11 me_X12_in qm_X12_132 rfl (Nat.le_of_ble_eq_true rfl) rfl ⟨Nat.le_of_ble_eq_true rfl, Nat.le_of_ble_eq_true rfl⟩ rfl (Nat.le_of_ble_eq_true rfl) h (fun r1 u1 h => ?_)
  refine go_if_ne (tgt := 20) dX12_brought_14 (by decide) (fun hc => ?_) (fun hc => ?_)
  · replace h := h.1 hc
    refine go_iconst (v := 0) dX12_brought_20 (by decide) ?_
    refine go_istore_n (lm := [some (.ref (gd g 12)), some (.int x1), some (.int 0), none, none, none, none, none]) dX12_brought_21 rfl (by decide) rfl rfl ?_
    refine go_iconst (v := 0) dX12_brought_22 (by decide) ?_
    refine go_istore_n (lm := [some (.ref (gd g 12)), some (.int x1), some (.int 0), some (.int 0), none, none, none, none]) dX12_brought_23 rfl (by decide) rfl rfl ?_
    exact h
  · replace h := h.2 hc
    refine go_ldc dX12_brought_17 qc_X12_142 ?_
    exact go_iret dX12_brought_19 rfl h
set_option maxRecDepth 100000 in
set_option maxHeartbeats 4000000 in
theorem B_X12_brought_24 {g : gp} {u : sg} {Q : Option Value → sg → Prop} (x1 : Int32) (x2 : Int32) (x3 : Int32) (h : (((8 : Int32) ≤ x3 → ((¬ x1 = (2 : Int32) → Go g iX12_brought 75 [some (.ref (gd g 12)), some (.int x1), none, some (.int ((-1000000))), some (.int 0), some (.int 0), none, none] [] u Q) ∧ (x1 = (2 : Int32) → Q (some (.int x2)) u))) ∧ (¬ (8 : Int32) ≤ x3 → (vp_in x3 8 ∧ ((¬ (u.2 83 x3.toNatClampNeg) = (-1000000 : Int32) → Go g iX12_whoMay 0 [some (.ref (gd g 12)), some (.int x3), none, none, none] [] u (QI (fun r1 u1 => Go g iX12_brought 24 [some (.ref (gd g 12)), some (.int x1), some (.int (x2 ||| r1)), some (.int (x3 + 1)), none, none, none, none] [] u1 Q))) ∧ ((u.2 83 x3.toNatClampNeg) = (-1000000 : Int32) → Go g iX12_brought 24 [some (.ref (gd g 12)), some (.int x1), some (.int (x2 ||| 0)), some (.int (x3 + 1)), none, none, none, none] [] u Q)))))) : Go g iX12_brought 24 [some (.ref (gd g 12)), some (.int x1), some (.int x2), some (.int x3), none, none, none, none] [] u Q := by
  refine go_iload_n dX12_brought_24 rfl rfl ?_
  refine go_bipush (v := 8) dX12_brought_25 (by decide) ?_
  refine go_icmp_ge (tgt := 59) dX12_brought_27 (by decide) (fun hc => ?_) (fun hc => ?_)
  · replace h := h.1 hc
    refine go_iload_n dX12_brought_59 rfl rfl ?_
    refine go_iconst (v := 2) dX12_brought_60 (by decide) ?_
    refine go_icmp_ne (tgt := 66) dX12_brought_61 (by decide) (fun hc => ?_) (fun hc => ?_)
    · replace h := h.1 hc
      refine go_ldc dX12_brought_66 qc_X12_129 ?_
      refine go_istore_n (lm := [some (.ref (gd g 12)), some (.int x1), some (.int x2), some (.int ((-1000000))), none, none, none, none]) dX12_brought_68 rfl (by decide) rfl rfl ?_
      refine go_iconst (v := 0) dX12_brought_69 (by decide) ?_
      refine go_istore (lm := [some (.ref (gd g 12)), some (.int x1), some (.int x2), some (.int ((-1000000))), some (.int 0), none, none, none]) dX12_brought_70 (by decide) rfl rfl ?_
      refine go_iconst (v := 0) dX12_brought_72 (by decide) ?_
      refine go_istore (lm := [some (.ref (gd g 12)), some (.int x1), some (.int x2), some (.int ((-1000000))), some (.int 0), some (.int 0), none, none]) dX12_brought_73 (by decide) rfl rfl ?_
      refine go_mask [true, true, false, true, true, true, true, true] rfl ?_
      exact h
    · replace h := h.2 hc
      refine go_iload_n dX12_brought_64 rfl rfl ?_
      exact go_iret dX12_brought_65 rfl h
  · replace h := h.2 hc
    refine go_iload_n dX12_brought_30 rfl rfl ?_
    refine go_aload_n dX12_brought_31 rfl rfl ?_
    refine go_get (k := 53) (v := .ref (gd g 83)) dX12_brought_32 ob_12 (by decide) qf_X12_111 rfl ?_
    refine go_iload_n dX12_brought_35 rfl rfl ?_
    obtain ⟨hi, h⟩ := h
    refine go_ild (a := 83) (n := 8) dX12_brought_36 (by decide) (by decide) rfl hi ?_
    refine go_ldc dX12_brought_37 qc_X12_129 ?_
    refine go_icmp_ne (tgt := 46) dX12_brought_39 (by decide) (fun hc => ?_) (fun hc => ?_)
    · replace h := h.1 hc
      refine go_aload_n dX12_brought_46 rfl rfl ?_
      refine go_iload_n dX12_brought_47 rfl rfl ?_
      refine go_cVi (o := 12) (As := [.int x3]) (st := [.int x2]) (lc := [some (.ref (gd g 12)), some (.int x3), none, none, none]) dX12_brought_48 me_X12_whoMay rfl ob_12 qm_X12_366 rfl (Nat.le_of_ble_eq_true rfl) rfl ⟨Nat.le_of_ble_eq_true rfl, Nat.le_of_ble_eq_true rfl⟩ rfl (Nat.le_of_ble_eq_true rfl) h (fun r1 u1 h => ?_)
      refine go_ior dX12_brought_51 ?_
      refine go_istore_n (lm := [some (.ref (gd g 12)), some (.int x1), some (.int (x2 ||| r1)), some (.int x3), none, none, none, none]) dX12_brought_52 rfl (by decide) rfl rfl ?_
      refine go_iinc (v := x3 + 1) (lm := [some (.ref (gd g 12)), some (.int x1), some (.int (x2 ||| r1)), some (.int (x3 + 1)), none, none, none, none]) dX12_brought_53 rfl rfl (by decide) rfl rfl ?_
      refine go_goto (tgt := 24) dX12_brought_56 (by decide) ?_
      exact h
    · replace h := h.2 hc
      refine go_iconst (v := 0) dX12_brought_42 (by decide) ?_
      refine go_goto (tgt := 51) dX12_brought_43 (by decide) ?_
      refine go_ior dX12_brought_51 ?_
      refine go_istore_n (lm := [some (.ref (gd g 12)), some (.int x1), some (.int (x2 ||| 0)), some (.int x3), none, none, none, none]) dX12_brought_52 rfl (by decide) rfl rfl ?_
      refine go_iinc (v := x3 + 1) (lm := [some (.ref (gd g 12)), some (.int x1), some (.int (x2 ||| 0)), some (.int (x3 + 1)), none, none, none, none]) dX12_brought_53 rfl rfl (by decide) rfl rfl ?_
      refine go_goto (tgt := 24) dX12_brought_56 (by decide) ?_
      exact h
set_option maxRecDepth 100000 in
set_option maxHeartbeats 4000000 in
theorem B_X12_brought_75 {g : gp} {u : sg} {Q : Option Value → sg → Prop} (x1 : Int32) (x3 : Int32) (x4 : Int32) (x5 : Int32) (h : (((4096 : Int32) ≤ x5 → ((¬ x1 = (0 : Int32) → Q (some (.int x4)) u) ∧ (x1 = (0 : Int32) → Q (some (.int x3)) u))) ∧ (¬ (4096 : Int32) ≤ x5 → ((x3 = (-1000000 : Int32) → Go g iX12_brought 107 [some (.ref (gd g 12)), some (.int x1), none, some (.int x3), some (.int x4), some (.int x5), some (.int 1), some (.int 0)] [] u Q) ∧ (¬ x3 = (-1000000 : Int32) → Go g iX12_bits 0 [some (.int x5), none, none] [] u (QI (fun r1 u1 => Go g iX12_bits 0 [some (.int x3), none, none] [] u1 (QI (fun r2 u2 => ((r2 < r1 → Go g iX12_brought 75 [some (.ref (gd g 12)), some (.int x1), none, some (.int x3), some (.int x4), some (.int (x5 + 1)), none, none] [] u2 Q) ∧ (¬ r2 < r1 → Go g iX12_brought 107 [some (.ref (gd g 12)), some (.int x1), none, some (.int x3), some (.int x4), some (.int x5), some (.int 1), some (.int 0)] [] u2 Q))))))))))) : Go g iX12_brought 75 [some (.ref (gd g 12)), some (.int x1), none, some (.int x3), some (.int x4), some (.int x5), none, none] [] u Q := by
  refine go_iload dX12_brought_75 rfl ?_
  refine go_sipush (v := 4096) dX12_brought_77 (by decide) ?_
  refine go_icmp_ge (tgt := 207) dX12_brought_80 (by decide) (fun hc => ?_) (fun hc => ?_)
  · replace h := h.1 hc
    refine go_iload_n dX12_brought_207 rfl rfl ?_
    refine go_if_ne (tgt := 215) dX12_brought_208 (by decide) (fun hc => ?_) (fun hc => ?_)
    · replace h := h.1 hc
      refine go_iload dX12_brought_215 rfl ?_
      exact go_iret dX12_brought_217 rfl h
    · replace h := h.2 hc
      refine go_iload_n dX12_brought_211 rfl rfl ?_
      refine go_goto (tgt := 217) dX12_brought_212 (by decide) ?_
      exact go_iret dX12_brought_217 rfl h
  · replace h := h.2 hc
    refine go_iload_n dX12_brought_83 rfl rfl ?_
    refine go_ldc dX12_brought_84 qc_X12_129 ?_
    refine go_icmp_eq (tgt := 101) dX12_brought_86 (by decide) (fun hc => ?_) (fun hc => ?_)
    · replace h := h.1 hc
      refine go_iconst (v := 1) dX12_brought_101 (by decide) ?_
      refine go_istore (lm := [some (.ref (gd g 12)), some (.int x1), none, some (.int x3), some (.int x4), some (.int x5), some (.int 1), none]) dX12_brought_102 (by decide) rfl rfl ?_
      refine go_iconst (v := 0) dX12_brought_104 (by decide) ?_
      refine go_istore (lm := [some (.ref (gd g 12)), some (.int x1), none, some (.int x3), some (.int x4), some (.int x5), some (.int 1), some (.int 0)]) dX12_brought_105 (by decide) rfl rfl ?_
      exact h
    · replace h := h.2 hc
      refine go_iload dX12_brought_89 rfl ?_
      refine go_cSi (As := [.int x5]) (st := []) (lc := [some (.int x5), none, none]) dX12_brought_91 me_X12_bits qm_X12_369 rfl (Nat.le_of_ble_eq_true rfl) rfl ⟨Nat.le_of_ble_eq_true rfl, Nat.le_of_ble_eq_true rfl⟩ rfl (Nat.le_of_ble_eq_true rfl) h (fun r1 u1 h => ?_)
      refine go_iload_n dX12_brought_94 rfl rfl ?_
      refine go_cSi (As := [.int x3]) (st := [.int r1]) (lc := [some (.int x3), none, none]) dX12_brought_95 me_X12_bits qm_X12_369 rfl (Nat.le_of_ble_eq_true rfl) rfl ⟨Nat.le_of_ble_eq_true rfl, Nat.le_of_ble_eq_true rfl⟩ rfl (Nat.le_of_ble_eq_true rfl) h (fun r2 u2 h => ?_)
      refine go_icmp_gt (tgt := 201) dX12_brought_98 (by decide) (fun hc => ?_) (fun hc => ?_)
      · replace h := h.1 hc
        refine go_iinc (v := x5 + 1) (lm := [some (.ref (gd g 12)), some (.int x1), none, some (.int x3), some (.int x4), some (.int (x5 + 1)), none, none]) dX12_brought_201 rfl rfl (by decide) rfl rfl ?_
        refine go_goto (tgt := 75) dX12_brought_204 (by decide) ?_
        exact h
      · replace h := h.2 hc
        refine go_iconst (v := 1) dX12_brought_101 (by decide) ?_
        refine go_istore (lm := [some (.ref (gd g 12)), some (.int x1), none, some (.int x3), some (.int x4), some (.int x5), some (.int 1), none]) dX12_brought_102 (by decide) rfl rfl ?_
        refine go_iconst (v := 0) dX12_brought_104 (by decide) ?_
        refine go_istore (lm := [some (.ref (gd g 12)), some (.int x1), none, some (.int x3), some (.int x4), some (.int x5), some (.int 1), some (.int 0)]) dX12_brought_105 (by decide) rfl rfl ?_
        exact h
set_option maxRecDepth 100000 in
set_option maxHeartbeats 4000000 in
theorem B_X12_brought_107 {g : gp} {u : sg} {Q : Option Value → sg → Prop} (x1 : Int32) (x3 : Int32) (x4 : Int32) (x5 : Int32) (x6 : Int32) (x7 : Int32) (h : (((8 : Int32) ≤ x7 → ((x6 = (0 : Int32) → Go g iX12_brought 189 [some (.ref (gd g 12)), some (.int x1), none, some (.int x3), some (.int x4), some (.int x5), some (.int x6), none] [] u Q) ∧ (¬ x6 = (0 : Int32) → ((x3 = (-1000000 : Int32) → Go g iX12_brought 75 [some (.ref (gd g 12)), some (.int x1), none, some (.int x5), some (.int x5), some (.int (x5 + 1)), none, none] [] u Q) ∧ (¬ x3 = (-1000000 : Int32) → Go g iX12_bits 0 [some (.int x5), none, none] [] u (QI (fun r1 u1 => Go g iX12_bits 0 [some (.int x3), none, none] [] u1 (QI (fun r2 u2 => ((r2 ≤ r1 → Go g iX12_brought 189 [some (.ref (gd g 12)), some (.int x1), none, some (.int x3), some (.int x4), some (.int x5), some (.int x6), none] [] u2 Q) ∧ (¬ r2 ≤ r1 → Go g iX12_brought 75 [some (.ref (gd g 12)), some (.int x1), none, some (.int x5), some (.int x5), some (.int (x5 + 1)), none, none] [] u2 Q))))))))))) ∧ (¬ (8 : Int32) ≤ x7 → ((x6 = (0 : Int32) → Go g iX12_brought 107 [some (.ref (gd g 12)), some (.int x1), none, some (.int x3), some (.int x4), some (.int x5), some (.int 0), some (.int (x7 + 1))] [] u Q) ∧ (¬ x6 = (0 : Int32) → (vp_in x7 8 ∧ (((u.2 83 x7.toNatClampNeg) = (-1000000 : Int32) → Go g iX12_brought 107 [some (.ref (gd g 12)), some (.int x1), none, some (.int x3), some (.int x4), some (.int x5), some (.int 1), some (.int (x7 + 1))] [] u Q) ∧ (¬ (u.2 83 x7.toNatClampNeg) = (-1000000 : Int32) → Go g iX12_whoMay 0 [some (.ref (gd g 12)), some (.int x7), none, none, none] [] u (QI (fun r3 u3 => (((r3 &&& x5) = (0 : Int32) → Go g iX12_brought 107 [some (.ref (gd g 12)), some (.int x1), none, some (.int x3), some (.int x4), some (.int x5), some (.int 0), some (.int (x7 + 1))] [] u3 Q) ∧ (¬ (r3 &&& x5) = (0 : Int32) → Go g iX12_brought 107 [some (.ref (gd g 12)), some (.int x1), none, some (.int x3), some (.int x4), some (.int x5), some (.int 1), some (.int (x7 + 1))] [] u3 Q)))))))))))) : Go g iX12_brought 107 [some (.ref (gd g 12)), some (.int x1), none, some (.int x3), some (.int x4), some (.int x5), some (.int x6), some (.int x7)] [] u Q := by
  refine go_iload dX12_brought_107 rfl ?_
  refine go_bipush (v := 8) dX12_brought_109 (by decide) ?_
  refine go_icmp_ge (tgt := 156) dX12_brought_111 (by decide) (fun hc => ?_) (fun hc => ?_)
  · replace h := h.1 hc
    refine go_iload dX12_brought_156 rfl ?_
    refine go_if_eq (tgt := 189) dX12_brought_158 (by decide) (fun hc => ?_) (fun hc => ?_)
    · replace h := h.1 hc
      refine go_mask [true, true, true, true, true, true, true, false] rfl ?_
      exact h
    · replace h := h.2 hc
      refine go_iload_n dX12_brought_161 rfl rfl ?_
      refine go_ldc dX12_brought_162 qc_X12_129 ?_
      refine go_icmp_eq (tgt := 179) dX12_brought_164 (by decide) (fun hc => ?_) (fun hc => ?_)
      · replace h := h.1 hc
        refine go_iload dX12_brought_179 rfl ?_
        refine go_istore_n (lm := [some (.ref (gd g 12)), some (.int x1), none, some (.int x5), some (.int x4), some (.int x5), some (.int x6), some (.int x7)]) dX12_brought_181 rfl (by decide) rfl rfl ?_
        refine go_iload dX12_brought_182 rfl ?_
        refine go_istore (lm := [some (.ref (gd g 12)), some (.int x1), none, some (.int x5), some (.int x5), some (.int x5), some (.int x6), some (.int x7)]) dX12_brought_184 (by decide) rfl rfl ?_
        refine go_goto (tgt := 201) dX12_brought_186 (by decide) ?_
        refine go_iinc (v := x5 + 1) (lm := [some (.ref (gd g 12)), some (.int x1), none, some (.int x5), some (.int x5), some (.int (x5 + 1)), some (.int x6), some (.int x7)]) dX12_brought_201 rfl rfl (by decide) rfl rfl ?_
        refine go_goto (tgt := 75) dX12_brought_204 (by decide) ?_
        refine go_mask [true, true, true, true, true, true, false, false] rfl ?_
        exact h
      · replace h := h.2 hc
        refine go_iload dX12_brought_167 rfl ?_
        refine go_cSi (As := [.int x5]) (st := []) (lc := [some (.int x5), none, none]) dX12_brought_169 me_X12_bits qm_X12_369 rfl (Nat.le_of_ble_eq_true rfl) rfl ⟨Nat.le_of_ble_eq_true rfl, Nat.le_of_ble_eq_true rfl⟩ rfl (Nat.le_of_ble_eq_true rfl) h (fun r1 u1 h => ?_)
        refine go_iload_n dX12_brought_172 rfl rfl ?_
        refine go_cSi (As := [.int x3]) (st := [.int r1]) (lc := [some (.int x3), none, none]) dX12_brought_173 me_X12_bits qm_X12_369 rfl (Nat.le_of_ble_eq_true rfl) rfl ⟨Nat.le_of_ble_eq_true rfl, Nat.le_of_ble_eq_true rfl⟩ rfl (Nat.le_of_ble_eq_true rfl) h (fun r2 u2 h => ?_)
        refine go_icmp_ge (tgt := 189) dX12_brought_176 (by decide) (fun hc => ?_) (fun hc => ?_)
        · replace h := h.1 hc
          refine go_mask [true, true, true, true, true, true, true, false] rfl ?_
          exact h
        · replace h := h.2 hc
          refine go_iload dX12_brought_179 rfl ?_
          refine go_istore_n (lm := [some (.ref (gd g 12)), some (.int x1), none, some (.int x5), some (.int x4), some (.int x5), some (.int x6), some (.int x7)]) dX12_brought_181 rfl (by decide) rfl rfl ?_
          refine go_iload dX12_brought_182 rfl ?_
          refine go_istore (lm := [some (.ref (gd g 12)), some (.int x1), none, some (.int x5), some (.int x5), some (.int x5), some (.int x6), some (.int x7)]) dX12_brought_184 (by decide) rfl rfl ?_
          refine go_goto (tgt := 201) dX12_brought_186 (by decide) ?_
          refine go_iinc (v := x5 + 1) (lm := [some (.ref (gd g 12)), some (.int x1), none, some (.int x5), some (.int x5), some (.int (x5 + 1)), some (.int x6), some (.int x7)]) dX12_brought_201 rfl rfl (by decide) rfl rfl ?_
          refine go_goto (tgt := 75) dX12_brought_204 (by decide) ?_
          refine go_mask [true, true, true, true, true, true, false, false] rfl ?_
          exact h
  · replace h := h.2 hc
    refine go_iload dX12_brought_114 rfl ?_
    refine go_if_eq (tgt := 147) dX12_brought_116 (by decide) (fun hc => ?_) (fun hc => ?_)
    · replace h := h.1 hc
      refine go_iconst (v := 0) dX12_brought_147 (by decide) ?_
      refine go_istore (lm := [some (.ref (gd g 12)), some (.int x1), none, some (.int x3), some (.int x4), some (.int x5), some (.int 0), some (.int x7)]) dX12_brought_148 (by decide) rfl rfl ?_
      refine go_iinc (v := x7 + 1) (lm := [some (.ref (gd g 12)), some (.int x1), none, some (.int x3), some (.int x4), some (.int x5), some (.int 0), some (.int (x7 + 1))]) dX12_brought_150 rfl rfl (by decide) rfl rfl ?_
      refine go_goto (tgt := 107) dX12_brought_153 (by decide) ?_
      exact h
    · replace h := h.2 hc
      refine go_aload_n dX12_brought_119 rfl rfl ?_
      refine go_get (k := 53) (v := .ref (gd g 83)) dX12_brought_120 ob_12 (by decide) qf_X12_111 rfl ?_
      refine go_iload dX12_brought_123 rfl ?_
      obtain ⟨hi, h⟩ := h
      refine go_ild (a := 83) (n := 8) dX12_brought_125 (by decide) (by decide) rfl hi ?_
      refine go_ldc dX12_brought_126 qc_X12_129 ?_
      refine go_icmp_eq (tgt := 143) dX12_brought_128 (by decide) (fun hc => ?_) (fun hc => ?_)
      · replace h := h.1 hc
        refine go_iconst (v := 1) dX12_brought_143 (by decide) ?_
        refine go_goto (tgt := 148) dX12_brought_144 (by decide) ?_
        refine go_istore (lm := [some (.ref (gd g 12)), some (.int x1), none, some (.int x3), some (.int x4), some (.int x5), some (.int 1), some (.int x7)]) dX12_brought_148 (by decide) rfl rfl ?_
        refine go_iinc (v := x7 + 1) (lm := [some (.ref (gd g 12)), some (.int x1), none, some (.int x3), some (.int x4), some (.int x5), some (.int 1), some (.int (x7 + 1))]) dX12_brought_150 rfl rfl (by decide) rfl rfl ?_
        refine go_goto (tgt := 107) dX12_brought_153 (by decide) ?_
        exact h
      · replace h := h.2 hc
        refine go_aload_n dX12_brought_131 rfl rfl ?_
        refine go_iload dX12_brought_132 rfl ?_
        refine go_cVi (o := 12) (As := [.int x7]) (st := []) (lc := [some (.ref (gd g 12)), some (.int x7), none, none, none]) dX12_brought_134 me_X12_whoMay rfl ob_12 qm_X12_366 rfl (Nat.le_of_ble_eq_true rfl) rfl ⟨Nat.le_of_ble_eq_true rfl, Nat.le_of_ble_eq_true rfl⟩ rfl (Nat.le_of_ble_eq_true rfl) h (fun r3 u3 h => ?_)
        refine go_iload dX12_brought_137 rfl ?_
        refine go_iand dX12_brought_139 ?_
        refine go_if_eq (tgt := 147) dX12_brought_140 (by decide) (fun hc => ?_) (fun hc => ?_)
        · replace h := h.1 hc
          refine go_iconst (v := 0) dX12_brought_147 (by decide) ?_
          refine go_istore (lm := [some (.ref (gd g 12)), some (.int x1), none, some (.int x3), some (.int x4), some (.int x5), some (.int 0), some (.int x7)]) dX12_brought_148 (by decide) rfl rfl ?_
          refine go_iinc (v := x7 + 1) (lm := [some (.ref (gd g 12)), some (.int x1), none, some (.int x3), some (.int x4), some (.int x5), some (.int 0), some (.int (x7 + 1))]) dX12_brought_150 rfl rfl (by decide) rfl rfl ?_
          refine go_goto (tgt := 107) dX12_brought_153 (by decide) ?_
          exact h
        · replace h := h.2 hc
          refine go_iconst (v := 1) dX12_brought_143 (by decide) ?_
          refine go_goto (tgt := 148) dX12_brought_144 (by decide) ?_
          refine go_istore (lm := [some (.ref (gd g 12)), some (.int x1), none, some (.int x3), some (.int x4), some (.int x5), some (.int 1), some (.int x7)]) dX12_brought_148 (by decide) rfl rfl ?_
          refine go_iinc (v := x7 + 1) (lm := [some (.ref (gd g 12)), some (.int x1), none, some (.int x3), some (.int x4), some (.int x5), some (.int 1), some (.int (x7 + 1))]) dX12_brought_150 rfl rfl (by decide) rfl rfl ?_
          refine go_goto (tgt := 107) dX12_brought_153 (by decide) ?_
          exact h
set_option maxRecDepth 100000 in
set_option maxHeartbeats 4000000 in
theorem B_X12_brought_189 {g : gp} {u : sg} {Q : Option Value → sg → Prop} (x1 : Int32) (x3 : Int32) (x4 : Int32) (x5 : Int32) (x6 : Int32) (h : ((x6 = (0 : Int32) → Go g iX12_brought 75 [some (.ref (gd g 12)), some (.int x1), none, some (.int x3), some (.int x4), some (.int (x5 + 1)), none, none] [] u Q) ∧ (¬ x6 = (0 : Int32) → Go g iX12_brought 75 [some (.ref (gd g 12)), some (.int x1), none, some (.int x3), some (.int (x4 &&& x5)), some (.int (x5 + 1)), none, none] [] u Q))) : Go g iX12_brought 189 [some (.ref (gd g 12)), some (.int x1), none, some (.int x3), some (.int x4), some (.int x5), some (.int x6), none] [] u Q := by
  refine go_iload dX12_brought_189 rfl ?_
  refine go_if_eq (tgt := 201) dX12_brought_191 (by decide) (fun hc => ?_) (fun hc => ?_)
  · replace h := h.1 hc
    refine go_iinc (v := x5 + 1) (lm := [some (.ref (gd g 12)), some (.int x1), none, some (.int x3), some (.int x4), some (.int (x5 + 1)), some (.int x6), none]) dX12_brought_201 rfl rfl (by decide) rfl rfl ?_
    refine go_goto (tgt := 75) dX12_brought_204 (by decide) ?_
    refine go_mask [true, true, true, true, true, true, false, true] rfl ?_
    exact h
  · replace h := h.2 hc
    refine go_iload dX12_brought_194 rfl ?_
    refine go_iload dX12_brought_196 rfl ?_
    refine go_iand dX12_brought_198 ?_
    refine go_istore (lm := [some (.ref (gd g 12)), some (.int x1), none, some (.int x3), some (.int (x4 &&& x5)), some (.int x5), some (.int x6), none]) dX12_brought_199 (by decide) rfl rfl ?_
    refine go_iinc (v := x5 + 1) (lm := [some (.ref (gd g 12)), some (.int x1), none, some (.int x3), some (.int (x4 &&& x5)), some (.int (x5 + 1)), some (.int x6), none]) dX12_brought_201 rfl rfl (by decide) rfl rfl ?_
    refine go_goto (tgt := 75) dX12_brought_204 (by decide) ?_
    refine go_mask [true, true, true, true, true, true, false, true] rfl ?_
    exact h
set_option maxRecDepth 100000 in
set_option maxHeartbeats 4000000 in
theorem B_X12_isLength_0 {g : gp} {u : sg} {Q : Option Value → sg → Prop} (x0 : Int32) (h : Go g iX12_in 0 [some (.long (x0.toInt64)), none, some (.long 0), none, some (.long 11), none] [] u (QI (fun r1 u1 => (narrow .boolean (.int r1) = .int r1 ∧ Q (some (.int r1)) u1)))) : Go g iX12_isLength 0 [some (.int x0)] [] u Q := by
  refine go_iload_n dX12_isLength_0 rfl rfl ?_
  refine go_i2l dX12_isLength_1 ?_
  refine go_lconst (v := 0) dX12_isLength_2 (by decide) ?_
  refine go_ldc2 dX12_isLength_3 ql_X12_323 ?_
  refine go_cSi (As := [.long (x0.toInt64), .long 0, .long 11]) (st := []) (lc := [some (.long (x0.toInt64)), none, some (.long 0), none, some (.long 11), none]) dX12_isLength_6 me_X12_in qm_X12_132 rfl (Nat.le_of_ble_eq_true rfl) rfl ⟨Nat.le_of_ble_eq_true rfl, Nat.le_of_ble_eq_true rfl⟩ rfl (Nat.le_of_ble_eq_true rfl) h (fun r1 u1 h => ?_)
  exact go_zret dX12_isLength_9 rfl h.1 h.2
set_option maxRecDepth 100000 in
set_option maxHeartbeats 4000000 in
theorem B_X12_high_0 {g : gp} {u : sg} {Q : Option Value → sg → Prop} (x1 : Int32) (x2 : Int32) (h : Go g iX12_isLength 0 [some (.int x1)] [] (sI u 12 0 (0 : Int32)) (QI (fun r1 u1 => ((r1 = (0 : Int32) → Q (some (.int (-1000001 : Int32))) u1) ∧ (¬ r1 = (0 : Int32) → Go g iX12_in 0 [some (.long (x2.toInt64)), none, some (.long 1), none, some (.long 99), none] [] u1 (QI (fun r2 u2 => ((¬ r2 = (0 : Int32) → (vp_in x1 12 ∧ (vp_in x1 12 ∧ Q (some (.int (u2.2 84 x1.toNatClampNeg))) (sA u2 84 x1.toNatClampNeg x2)))) ∧ (r2 = (0 : Int32) → Q (some (.int (-1000001 : Int32))) u2))))))))) : Go g iX12_high 0 [some (.ref (gd g 12)), some (.int x1), some (.int x2), none] [] u Q := by
  refine go_aload_n dX12_high_0 rfl rfl ?_
  refine go_iconst (v := 0) dX12_high_1 (by decide) ?_
  refine go_put (k := 0) dX12_high_2 ob_12 (by decide) qf_X12_1 rfl rfl pf_I ?_
  refine go_iload_n dX12_high_5 rfl rfl ?_
  refine go_cSi (As := [.int x1]) (st := []) (lc := [some (.int x1)]) dX12_high_6 me_X12_isLength qm_X12_372 rfl (Nat.le_of_ble_eq_true rfl) rfl ⟨Nat.le_of_ble_eq_true rfl, Nat.le_of_ble_eq_true rfl⟩ rfl (Nat.le_of_ble_eq_true rfl) h (fun r1 u1 h => ?_)
  refine go_if_eq (tgt := 24) dX12_high_9 (by decide) (fun hc => ?_) (fun hc => ?_)
  · replace h := h.1 hc
    refine go_ldc dX12_high_24 qc_X12_142 ?_
    exact go_iret dX12_high_26 rfl h
  · replace h := h.2 hc
    refine go_iload_n dX12_high_12 rfl rfl ?_
    refine go_i2l dX12_high_13 ?_
    refine go_lconst (v := 1) dX12_high_14 (by decide) ?_
    refine go_ldc2 dX12_high_15 ql_X12_295 ?_
    refine go_cSi (As := [.long (x2.toInt64), .long 1, .long 99]) (st := []) (lc := [some (.long (x2.toInt64)), none, some (.long 1), none, some (.long 99), none]) dX12_high_18 me_X12_in qm_X12_132 rfl (Nat.le_of_ble_eq_true rfl) rfl ⟨Nat.le_of_ble_eq_true rfl, Nat.le_of_ble_eq_true rfl⟩ rfl (Nat.le_of_ble_eq_true rfl) h (fun r2 u2 h => ?_)
    refine go_if_ne (tgt := 27) dX12_high_21 (by decide) (fun hc => ?_) (fun hc => ?_)
    · replace h := h.1 hc
      refine go_aload_n dX12_high_27 rfl rfl ?_
      refine go_get (k := 54) (v := .ref (gd g 84)) dX12_high_28 ob_12 (by decide) qf_X12_114 rfl ?_
      refine go_iload_n dX12_high_31 rfl rfl ?_
      obtain ⟨hi, h⟩ := h
      refine go_ild (a := 84) (n := 12) dX12_high_32 (by decide) (by decide) rfl hi ?_
      refine go_istore_n (lm := [some (.ref (gd g 12)), some (.int x1), some (.int x2), some (.int (u2.2 84 x1.toNatClampNeg))]) dX12_high_33 rfl (by decide) rfl rfl ?_
      refine go_aload_n dX12_high_34 rfl rfl ?_
      refine go_get (k := 54) (v := .ref (gd g 84)) dX12_high_35 ob_12 (by decide) qf_X12_114 rfl ?_
      refine go_iload_n dX12_high_38 rfl rfl ?_
      refine go_iload_n dX12_high_39 rfl rfl ?_
      obtain ⟨hi, h⟩ := h
      refine go_ist (a := 84) (n := 12) dX12_high_40 (by decide) (by decide) rfl hi ?_
      refine go_iload_n dX12_high_41 rfl rfl ?_
      exact go_iret dX12_high_42 rfl h
    · replace h := h.2 hc
      refine go_ldc dX12_high_24 qc_X12_142 ?_
      exact go_iret dX12_high_26 rfl h
set_option maxRecDepth 100000 in
set_option maxHeartbeats 4000000 in
theorem B_X12_lean_0 {g : gp} {u : sg} {Q : Option Value → sg → Prop} (x1 : Int32) (x2 : Int32) (x3 : Int32) (h : Go g iX12_isLength 0 [some (.int x1)] [] (sI u 12 0 (0 : Int32)) (QI (fun r1 u1 => ((r1 = (0 : Int32) → Q (some (.int (-1000001 : Int32))) u1) ∧ (¬ r1 = (0 : Int32) → Go g iX12_in 0 [some (.long (x2.toInt64)), none, some (.long 0), none, some (.long 99), none] [] u1 (QI (fun r2 u2 => ((r2 = (0 : Int32) → Q (some (.int (-1000001 : Int32))) u2) ∧ (¬ r2 = (0 : Int32) → Go g iX12_in 0 [some (.long (x3.toInt64)), none, some (.long 0), none, some (.long 99), none] [] u2 (QI (fun r3 u3 => ((¬ r3 = (0 : Int32) → ((¬ (u3.1 12 55) = (20 : Int32) → (vp_in (u3.1 12 55) 20 ∧ (vp_in (u3.1 12 55) 20 ∧ (vp_in (u3.1 12 55) 20 ∧ Q (some (.int ((u3.1 12 55) + 1))) (sI (sA (sA (sA u3 85 (u3.1 12 55).toNatClampNeg x1) 86 (u3.1 12 55).toNatClampNeg x2) 87 (u3.1 12 55).toNatClampNeg x3) 12 55 ((u3.1 12 55) + 1)))))) ∧ ((u3.1 12 55) = (20 : Int32) → Q (some (.int (-1000003 : Int32))) u3))) ∧ (r3 = (0 : Int32) → Q (some (.int (-1000001 : Int32))) u3))))))))))))) : Go g iX12_lean 0 [some (.ref (gd g 12)), some (.int x1), some (.int x2), some (.int x3)] [] u Q := by
  refine go_aload_n dX12_lean_0 rfl rfl ?_
  refine go_iconst (v := 0) dX12_lean_1 (by decide) ?_
  refine go_put (k := 0) dX12_lean_2 ob_12 (by decide) qf_X12_1 rfl rfl pf_I ?_
  refine go_iload_n dX12_lean_5 rfl rfl ?_
  refine go_cSi (As := [.int x1]) (st := []) (lc := [some (.int x1)]) dX12_lean_6 me_X12_isLength qm_X12_372 rfl (Nat.le_of_ble_eq_true rfl) rfl ⟨Nat.le_of_ble_eq_true rfl, Nat.le_of_ble_eq_true rfl⟩ rfl (Nat.le_of_ble_eq_true rfl) h (fun r1 u1 h => ?_)
  refine go_if_eq (tgt := 36) dX12_lean_9 (by decide) (fun hc => ?_) (fun hc => ?_)
  · replace h := h.1 hc
    refine go_ldc dX12_lean_36 qc_X12_142 ?_
    exact go_iret dX12_lean_38 rfl h
  · replace h := h.2 hc
    refine go_iload_n dX12_lean_12 rfl rfl ?_
    refine go_i2l dX12_lean_13 ?_
    refine go_lconst (v := 0) dX12_lean_14 (by decide) ?_
    refine go_ldc2 dX12_lean_15 ql_X12_295 ?_
    refine go_cSi (As := [.long (x2.toInt64), .long 0, .long 99]) (st := []) (lc := [some (.long (x2.toInt64)), none, some (.long 0), none, some (.long 99), none]) dX12_lean_18 me_X12_in qm_X12_132 rfl (Nat.le_of_ble_eq_true rfl) rfl ⟨Nat.le_of_ble_eq_true rfl, Nat.le_of_ble_eq_true rfl⟩ rfl (Nat.le_of_ble_eq_true rfl) h (fun r2 u2 h => ?_)
    refine go_if_eq (tgt := 36) dX12_lean_21 (by decide) (fun hc => ?_) (fun hc => ?_)
    · replace h := h.1 hc
      refine go_ldc dX12_lean_36 qc_X12_142 ?_
      exact go_iret dX12_lean_38 rfl h
    · replace h := h.2 hc
      refine go_iload_n dX12_lean_24 rfl rfl ?_
      refine go_i2l dX12_lean_25 ?_
      refine go_lconst (v := 0) dX12_lean_26 (by decide) ?_
      refine go_ldc2 dX12_lean_27 ql_X12_295 ?_
      refine go_cSi (As := [.long (x3.toInt64), .long 0, .long 99]) (st := []) (lc := [some (.long (x3.toInt64)), none, some (.long 0), none, some (.long 99), none]) dX12_lean_30 me_X12_in qm_X12_132 rfl (Nat.le_of_ble_eq_true rfl) rfl ⟨Nat.le_of_ble_eq_true rfl, Nat.le_of_ble_eq_true rfl⟩ rfl (Nat.le_of_ble_eq_true rfl) h (fun r3 u3 h => ?_)
      refine go_if_ne (tgt := 39) dX12_lean_33 (by decide) (fun hc => ?_) (fun hc => ?_)
      · replace h := h.1 hc
        refine go_aload_n dX12_lean_39 rfl rfl ?_
        refine go_get (k := 55) (v := .int (u3.1 12 55)) dX12_lean_40 ob_12 (by decide) qf_X12_375 rfl ?_
        refine go_bipush (v := 20) dX12_lean_43 (by decide) ?_
        refine go_icmp_ne (tgt := 51) dX12_lean_45 (by decide) (fun hc => ?_) (fun hc => ?_)
        · replace h := h.1 hc
          refine go_aload_n dX12_lean_51 rfl rfl ?_
          refine go_get (k := 56) (v := .ref (gd g 85)) dX12_lean_52 ob_12 (by decide) qf_X12_117 rfl ?_
          refine go_aload_n dX12_lean_55 rfl rfl ?_
          refine go_get (k := 55) (v := .int (u3.1 12 55)) dX12_lean_56 ob_12 (by decide) qf_X12_375 rfl ?_
          refine go_iload_n dX12_lean_59 rfl rfl ?_
          obtain ⟨hi, h⟩ := h
          refine go_ist (a := 85) (n := 20) dX12_lean_60 (by decide) (by decide) rfl hi ?_
          refine go_aload_n dX12_lean_61 rfl rfl ?_
          refine go_get (k := 57) (v := .ref (gd g 86)) dX12_lean_62 ob_12 (by decide) qf_X12_120 rfl ?_
          refine go_aload_n dX12_lean_65 rfl rfl ?_
          refine go_get (k := 55) (v := .int (u3.1 12 55)) dX12_lean_66 ob_12 (by decide) qf_X12_375 rfl ?_
          refine go_iload_n dX12_lean_69 rfl rfl ?_
          obtain ⟨hi, h⟩ := h
          refine go_ist (a := 86) (n := 20) dX12_lean_70 (by decide) (by decide) rfl hi ?_
          refine go_aload_n dX12_lean_71 rfl rfl ?_
          refine go_get (k := 58) (v := .ref (gd g 87)) dX12_lean_72 ob_12 (by decide) qf_X12_123 rfl ?_
          refine go_aload_n dX12_lean_75 rfl rfl ?_
          refine go_get (k := 55) (v := .int (u3.1 12 55)) dX12_lean_76 ob_12 (by decide) qf_X12_375 rfl ?_
          refine go_iload_n dX12_lean_79 rfl rfl ?_
          obtain ⟨hi, h⟩ := h
          refine go_ist (a := 87) (n := 20) dX12_lean_80 (by decide) (by decide) rfl hi ?_
          refine go_aload_n dX12_lean_81 rfl rfl ?_
          refine go_dup dX12_lean_82 rfl ?_
          refine go_get (k := 55) (v := .int (u3.1 12 55)) dX12_lean_83 ob_12 (by decide) qf_X12_375 rfl ?_
          refine go_iconst (v := 1) dX12_lean_86 (by decide) ?_
          refine go_iadd dX12_lean_87 ?_
          refine go_put (k := 55) dX12_lean_88 ob_12 (by decide) qf_X12_375 rfl rfl pf_I ?_
          refine go_aload_n dX12_lean_91 rfl rfl ?_
          refine go_get (k := 55) (v := .int ((u3.1 12 55) + 1)) dX12_lean_92 ob_12 (by decide) qf_X12_375 rfl ?_
          exact go_iret dX12_lean_95 rfl h
        · replace h := h.2 hc
          refine go_ldc dX12_lean_48 qc_X12_170 ?_
          exact go_iret dX12_lean_50 rfl h
      · replace h := h.2 hc
        refine go_ldc dX12_lean_36 qc_X12_142 ?_
        exact go_iret dX12_lean_38 rfl h
set_option maxRecDepth 100000 in
set_option maxHeartbeats 4000000 in
theorem B_X12_breachesNow_0 {g : gp} {u : sg} {Q : Option Value → sg → Prop}  (h : Go g iX12_breachesNow 4 [some (.ref (gd g 12)), some (.int 0), some (.int 0), none, none, none] [] u Q) : Go g iX12_breachesNow 0 [some (.ref (gd g 12)), none, none, none, none, none] [] u Q := by
  refine go_iconst (v := 0) dX12_breachesNow_0 (by decide) ?_
  refine go_istore_n (lm := [some (.ref (gd g 12)), some (.int 0), none, none, none, none]) dX12_breachesNow_1 rfl (by decide) rfl rfl ?_
  refine go_iconst (v := 0) dX12_breachesNow_2 (by decide) ?_
  refine go_istore_n (lm := [some (.ref (gd g 12)), some (.int 0), some (.int 0), none, none, none]) dX12_breachesNow_3 rfl (by decide) rfl rfl ?_
  exact h
set_option maxRecDepth 100000 in
set_option maxHeartbeats 4000000 in
theorem B_X12_breachesNow_4 {g : gp} {u : sg} {Q : Option Value → sg → Prop} (x1 : Int32) (x2 : Int32) (h : (((12 : Int32) ≤ x2 → Q (some (.int x1)) u) ∧ (¬ (12 : Int32) ≤ x2 → Go g iX12_breachesNow 18 [some (.ref (gd g 12)), some (.int x1), some (.int x2), some (.int 0), some (.int 0), some (.int 0)] [] u Q))) : Go g iX12_breachesNow 4 [some (.ref (gd g 12)), some (.int x1), some (.int x2), none, none, none] [] u Q := by
  refine go_iload_n dX12_breachesNow_4 rfl rfl ?_
  refine go_bipush (v := 12) dX12_breachesNow_5 (by decide) ?_
  refine go_icmp_ge (tgt := 145) dX12_breachesNow_7 (by decide) (fun hc => ?_) (fun hc => ?_)
  · replace h := h.1 hc
    refine go_iload_n dX12_breachesNow_145 rfl rfl ?_
    exact go_iret dX12_breachesNow_146 rfl h
  · replace h := h.2 hc
    refine go_iconst (v := 0) dX12_breachesNow_10 (by decide) ?_
    refine go_istore_n (lm := [some (.ref (gd g 12)), some (.int x1), some (.int x2), some (.int 0), none, none]) dX12_breachesNow_11 rfl (by decide) rfl rfl ?_
    refine go_iconst (v := 0) dX12_breachesNow_12 (by decide) ?_
    refine go_istore (lm := [some (.ref (gd g 12)), some (.int x1), some (.int x2), some (.int 0), some (.int 0), none]) dX12_breachesNow_13 (by decide) rfl rfl ?_
    refine go_iconst (v := 0) dX12_breachesNow_15 (by decide) ?_
    refine go_istore (lm := [some (.ref (gd g 12)), some (.int x1), some (.int x2), some (.int 0), some (.int 0), some (.int 0)]) dX12_breachesNow_16 (by decide) rfl rfl ?_
    exact h
set_option maxRecDepth 100000 in
set_option maxHeartbeats 4000000 in
theorem B_X12_breachesNow_18 {g : gp} {u : sg} {Q : Option Value → sg → Prop} (x1 : Int32) (x2 : Int32) (x3 : Int32) (x4 : Int32) (x5 : Int32) (h : (((u.1 12 55) ≤ x5 → (vp_in x2 12 ∧ ((x3 < ((u.2 84 x2.toNatClampNeg) - 2) → Go g iX12_breachesNow 4 [some (.ref (gd g 12)), some (.int (x1 ||| 0)), some (.int (x2 + 1)), none, none, none] [] u Q) ∧ (¬ x3 < ((u.2 84 x2.toNatClampNeg) - 2) → (vp_in x2 12 ∧ ((x4 < ((u.2 84 x2.toNatClampNeg) - 4) → Go g iX12_breachesNow 4 [some (.ref (gd g 12)), some (.int (x1 ||| 0)), some (.int (x2 + 1)), none, none, none] [] u Q) ∧ (¬ x4 < ((u.2 84 x2.toNatClampNeg) - 4) → Go g iX12_breachesNow 4 [some (.ref (gd g 12)), some (.int (x1 ||| (1 <<< (x2 &&& 31)))), some (.int (x2 + 1)), none, none, none] [] u Q))))))) ∧ (¬ (u.1 12 55) ≤ x5 → (vp_in x5 20 ∧ ((¬ (u.2 85 x5.toNatClampNeg) = x2 → Go g iX12_breachesNow 60 [some (.ref (gd g 12)), some (.int x1), some (.int x2), none, some (.int x4), some (.int x5)] [.int x3] u Q) ∧ ((u.2 85 x5.toNatClampNeg) = x2 → (vp_in x5 20 ∧ (((u.2 86 x5.toNatClampNeg) ≤ x3 → Go g iX12_breachesNow 60 [some (.ref (gd g 12)), some (.int x1), some (.int x2), none, some (.int x4), some (.int x5)] [.int x3] u Q) ∧ (¬ (u.2 86 x5.toNatClampNeg) ≤ x3 → (vp_in x5 20 ∧ Go g iX12_breachesNow 60 [some (.ref (gd g 12)), some (.int x1), some (.int x2), none, some (.int x4), some (.int x5)] [.int (u.2 86 x5.toNatClampNeg)] u Q)))))))))) : Go g iX12_breachesNow 18 [some (.ref (gd g 12)), some (.int x1), some (.int x2), some (.int x3), some (.int x4), some (.int x5)] [] u Q := by
  refine go_iload dX12_breachesNow_18 rfl ?_
  refine go_aload_n dX12_breachesNow_20 rfl rfl ?_
  refine go_get (k := 55) (v := .int (u.1 12 55)) dX12_breachesNow_21 ob_12 (by decide) qf_X12_375 rfl ?_
  refine go_icmp_ge (tgt := 104) dX12_breachesNow_24 (by decide) (fun hc => ?_) (fun hc => ?_)
  · replace h := h.1 hc
    refine go_iload_n dX12_breachesNow_104 rfl rfl ?_
    refine go_iload_n dX12_breachesNow_105 rfl rfl ?_
    refine go_aload_n dX12_breachesNow_106 rfl rfl ?_
    refine go_get (k := 54) (v := .ref (gd g 84)) dX12_breachesNow_107 ob_12 (by decide) qf_X12_114 rfl ?_
    refine go_iload_n dX12_breachesNow_110 rfl rfl ?_
    obtain ⟨hi, h⟩ := h
    refine go_ild (a := 84) (n := 12) dX12_breachesNow_111 (by decide) (by decide) rfl hi ?_
    refine go_iconst (v := 2) dX12_breachesNow_112 (by decide) ?_
    refine go_isub dX12_breachesNow_113 ?_
    refine go_icmp_lt (tgt := 136) dX12_breachesNow_114 (by decide) (fun hc => ?_) (fun hc => ?_)
    · replace h := h.1 hc
      refine go_iconst (v := 0) dX12_breachesNow_136 (by decide) ?_
      refine go_ior dX12_breachesNow_137 ?_
      refine go_istore_n (lm := [some (.ref (gd g 12)), some (.int (x1 ||| 0)), some (.int x2), some (.int x3), some (.int x4), some (.int x5)]) dX12_breachesNow_138 rfl (by decide) rfl rfl ?_
      refine go_iinc (v := x2 + 1) (lm := [some (.ref (gd g 12)), some (.int (x1 ||| 0)), some (.int (x2 + 1)), some (.int x3), some (.int x4), some (.int x5)]) dX12_breachesNow_139 rfl rfl (by decide) rfl rfl ?_
      refine go_goto (tgt := 4) dX12_breachesNow_142 (by decide) ?_
      refine go_mask [true, true, true, false, false, false] rfl ?_
      exact h
    · replace h := h.2 hc
      refine go_iload dX12_breachesNow_117 rfl ?_
      refine go_aload_n dX12_breachesNow_119 rfl rfl ?_
      refine go_get (k := 54) (v := .ref (gd g 84)) dX12_breachesNow_120 ob_12 (by decide) qf_X12_114 rfl ?_
      refine go_iload_n dX12_breachesNow_123 rfl rfl ?_
      obtain ⟨hi, h⟩ := h
      refine go_ild (a := 84) (n := 12) dX12_breachesNow_124 (by decide) (by decide) rfl hi ?_
      refine go_iconst (v := 4) dX12_breachesNow_125 (by decide) ?_
      refine go_isub dX12_breachesNow_126 ?_
      refine go_icmp_lt (tgt := 136) dX12_breachesNow_127 (by decide) (fun hc => ?_) (fun hc => ?_)
      · replace h := h.1 hc
        refine go_iconst (v := 0) dX12_breachesNow_136 (by decide) ?_
        refine go_ior dX12_breachesNow_137 ?_
        refine go_istore_n (lm := [some (.ref (gd g 12)), some (.int (x1 ||| 0)), some (.int x2), some (.int x3), some (.int x4), some (.int x5)]) dX12_breachesNow_138 rfl (by decide) rfl rfl ?_
        refine go_iinc (v := x2 + 1) (lm := [some (.ref (gd g 12)), some (.int (x1 ||| 0)), some (.int (x2 + 1)), some (.int x3), some (.int x4), some (.int x5)]) dX12_breachesNow_139 rfl rfl (by decide) rfl rfl ?_
        refine go_goto (tgt := 4) dX12_breachesNow_142 (by decide) ?_
        refine go_mask [true, true, true, false, false, false] rfl ?_
        exact h
      · replace h := h.2 hc
        refine go_iconst (v := 1) dX12_breachesNow_130 (by decide) ?_
        refine go_iload_n dX12_breachesNow_131 rfl rfl ?_
        refine go_ishl dX12_breachesNow_132 ?_
        refine go_goto (tgt := 137) dX12_breachesNow_133 (by decide) ?_
        refine go_ior dX12_breachesNow_137 ?_
        refine go_istore_n (lm := [some (.ref (gd g 12)), some (.int (x1 ||| (1 <<< (x2 &&& 31)))), some (.int x2), some (.int x3), some (.int x4), some (.int x5)]) dX12_breachesNow_138 rfl (by decide) rfl rfl ?_
        refine go_iinc (v := x2 + 1) (lm := [some (.ref (gd g 12)), some (.int (x1 ||| (1 <<< (x2 &&& 31)))), some (.int (x2 + 1)), some (.int x3), some (.int x4), some (.int x5)]) dX12_breachesNow_139 rfl rfl (by decide) rfl rfl ?_
        refine go_goto (tgt := 4) dX12_breachesNow_142 (by decide) ?_
        refine go_mask [true, true, true, false, false, false] rfl ?_
        exact h
  · replace h := h.2 hc
    refine go_aload_n dX12_breachesNow_27 rfl rfl ?_
    refine go_get (k := 56) (v := .ref (gd g 85)) dX12_breachesNow_28 ob_12 (by decide) qf_X12_117 rfl ?_
    refine go_iload dX12_breachesNow_31 rfl ?_
    obtain ⟨hi, h⟩ := h
    refine go_ild (a := 85) (n := 20) dX12_breachesNow_33 (by decide) (by decide) rfl hi ?_
    refine go_iload_n dX12_breachesNow_34 rfl rfl ?_
    refine go_icmp_ne (tgt := 59) dX12_breachesNow_35 (by decide) (fun hc => ?_) (fun hc => ?_)
    · replace h := h.1 hc
      refine go_iload_n dX12_breachesNow_59 rfl rfl ?_
      refine go_mask [true, true, true, false, true, true] rfl ?_
      exact h
    · replace h := h.2 hc
      refine go_aload_n dX12_breachesNow_38 rfl rfl ?_
      refine go_get (k := 57) (v := .ref (gd g 86)) dX12_breachesNow_39 ob_12 (by decide) qf_X12_120 rfl ?_
      refine go_iload dX12_breachesNow_42 rfl ?_
      obtain ⟨hi, h⟩ := h
      refine go_ild (a := 86) (n := 20) dX12_breachesNow_44 (by decide) (by decide) rfl hi ?_
      refine go_iload_n dX12_breachesNow_45 rfl rfl ?_
      refine go_icmp_le (tgt := 59) dX12_breachesNow_46 (by decide) (fun hc => ?_) (fun hc => ?_)
      · replace h := h.1 hc
        refine go_iload_n dX12_breachesNow_59 rfl rfl ?_
        refine go_mask [true, true, true, false, true, true] rfl ?_
        exact h
      · replace h := h.2 hc
        refine go_aload_n dX12_breachesNow_49 rfl rfl ?_
        refine go_get (k := 57) (v := .ref (gd g 86)) dX12_breachesNow_50 ob_12 (by decide) qf_X12_120 rfl ?_
        refine go_iload dX12_breachesNow_53 rfl ?_
        obtain ⟨hi, h⟩ := h
        refine go_ild (a := 86) (n := 20) dX12_breachesNow_55 (by decide) (by decide) rfl hi ?_
        refine go_goto (tgt := 60) dX12_breachesNow_56 (by decide) ?_
        refine go_mask [true, true, true, false, true, true] rfl ?_
        exact h
set_option maxRecDepth 100000 in
set_option maxHeartbeats 4000000 in
theorem B_X12_breachesNow_60 {g : gp} {u : sg} {Q : Option Value → sg → Prop} (x1 : Int32) (x2 : Int32) (x4 : Int32) (x5 : Int32) (t0 : Int32) (h : (vp_in x5 20 ∧ ((¬ (u.2 85 x5.toNatClampNeg) = x2 → Go g iX12_breachesNow 18 [some (.ref (gd g 12)), some (.int x1), some (.int x2), some (.int t0), some (.int x4), some (.int (x5 + 1))] [] u Q) ∧ ((u.2 85 x5.toNatClampNeg) = x2 → (vp_in x5 20 ∧ (((u.2 87 x5.toNatClampNeg) ≤ x4 → Go g iX12_breachesNow 18 [some (.ref (gd g 12)), some (.int x1), some (.int x2), some (.int t0), some (.int x4), some (.int (x5 + 1))] [] u Q) ∧ (¬ (u.2 87 x5.toNatClampNeg) ≤ x4 → (vp_in x5 20 ∧ Go g iX12_breachesNow 18 [some (.ref (gd g 12)), some (.int x1), some (.int x2), some (.int t0), some (.int (u.2 87 x5.toNatClampNeg)), some (.int (x5 + 1))] [] u Q)))))))) : Go g iX12_breachesNow 60 [some (.ref (gd g 12)), some (.int x1), some (.int x2), none, some (.int x4), some (.int x5)] [.int t0] u Q := by
  refine go_istore_n (lm := [some (.ref (gd g 12)), some (.int x1), some (.int x2), some (.int t0), some (.int x4), some (.int x5)]) dX12_breachesNow_60 rfl (by decide) rfl rfl ?_
  refine go_aload_n dX12_breachesNow_61 rfl rfl ?_
  refine go_get (k := 56) (v := .ref (gd g 85)) dX12_breachesNow_62 ob_12 (by decide) qf_X12_117 rfl ?_
  refine go_iload dX12_breachesNow_65 rfl ?_
  obtain ⟨hi, h⟩ := h
  refine go_ild (a := 85) (n := 20) dX12_breachesNow_67 (by decide) (by decide) rfl hi ?_
  refine go_iload_n dX12_breachesNow_68 rfl rfl ?_
  refine go_icmp_ne (tgt := 94) dX12_breachesNow_69 (by decide) (fun hc => ?_) (fun hc => ?_)
  · replace h := h.1 hc
    refine go_iload dX12_breachesNow_94 rfl ?_
    refine go_istore (lm := [some (.ref (gd g 12)), some (.int x1), some (.int x2), some (.int t0), some (.int x4), some (.int x5)]) dX12_breachesNow_96 (by decide) rfl rfl ?_
    refine go_iinc (v := x5 + 1) (lm := [some (.ref (gd g 12)), some (.int x1), some (.int x2), some (.int t0), some (.int x4), some (.int (x5 + 1))]) dX12_breachesNow_98 rfl rfl (by decide) rfl rfl ?_
    refine go_goto (tgt := 18) dX12_breachesNow_101 (by decide) ?_
    exact h
  · replace h := h.2 hc
    refine go_aload_n dX12_breachesNow_72 rfl rfl ?_
    refine go_get (k := 58) (v := .ref (gd g 87)) dX12_breachesNow_73 ob_12 (by decide) qf_X12_123 rfl ?_
    refine go_iload dX12_breachesNow_76 rfl ?_
    obtain ⟨hi, h⟩ := h
    refine go_ild (a := 87) (n := 20) dX12_breachesNow_78 (by decide) (by decide) rfl hi ?_
    refine go_iload dX12_breachesNow_79 rfl ?_
    refine go_icmp_le (tgt := 94) dX12_breachesNow_81 (by decide) (fun hc => ?_) (fun hc => ?_)
    · replace h := h.1 hc
      refine go_iload dX12_breachesNow_94 rfl ?_
      refine go_istore (lm := [some (.ref (gd g 12)), some (.int x1), some (.int x2), some (.int t0), some (.int x4), some (.int x5)]) dX12_breachesNow_96 (by decide) rfl rfl ?_
      refine go_iinc (v := x5 + 1) (lm := [some (.ref (gd g 12)), some (.int x1), some (.int x2), some (.int t0), some (.int x4), some (.int (x5 + 1))]) dX12_breachesNow_98 rfl rfl (by decide) rfl rfl ?_
      refine go_goto (tgt := 18) dX12_breachesNow_101 (by decide) ?_
      exact h
    · replace h := h.2 hc
      refine go_aload_n dX12_breachesNow_84 rfl rfl ?_
      refine go_get (k := 58) (v := .ref (gd g 87)) dX12_breachesNow_85 ob_12 (by decide) qf_X12_123 rfl ?_
      refine go_iload dX12_breachesNow_88 rfl ?_
      obtain ⟨hi, h⟩ := h
      refine go_ild (a := 87) (n := 20) dX12_breachesNow_90 (by decide) (by decide) rfl hi ?_
      refine go_goto (tgt := 96) dX12_breachesNow_91 (by decide) ?_
      refine go_istore (lm := [some (.ref (gd g 12)), some (.int x1), some (.int x2), some (.int t0), some (.int (u.2 87 x5.toNatClampNeg)), some (.int x5)]) dX12_breachesNow_96 (by decide) rfl rfl ?_
      refine go_iinc (v := x5 + 1) (lm := [some (.ref (gd g 12)), some (.int x1), some (.int x2), some (.int t0), some (.int (u.2 87 x5.toNatClampNeg)), some (.int (x5 + 1))]) dX12_breachesNow_98 rfl rfl (by decide) rfl rfl ?_
      refine go_goto (tgt := 18) dX12_breachesNow_101 (by decide) ?_
      exact h
set_option maxRecDepth 100000 in
set_option maxHeartbeats 4000000 in
theorem B_X12_breaches_0 {g : gp} {u : sg} {Q : Option Value → sg → Prop}  (h : Go g iX12_breachesNow 0 [some (.ref (gd g 12)), none, none, none, none, none] [] (sI u 12 0 (0 : Int32)) (QI (fun r1 u1 => Q (some (.int r1)) u1))) : Go g iX12_breaches 0 [some (.ref (gd g 12))] [] u Q := by
  refine go_aload_n dX12_breaches_0 rfl rfl ?_
  refine go_iconst (v := 0) dX12_breaches_1 (by decide) ?_
  refine go_put (k := 0) dX12_breaches_2 ob_12 (by decide) qf_X12_1 rfl rfl pf_I ?_
  refine go_aload_n dX12_breaches_5 rfl rfl ?_
  refine go_cVi (o := 12) (As := []) (st := []) (lc := [some (.ref (gd g 12)), none, none, none, none, none]) dX12_breaches_6 me_X12_breachesNow rfl ob_12 qm_X12_378 rfl (Nat.le_of_ble_eq_true rfl) rfl ⟨Nat.le_of_ble_eq_true rfl, Nat.le_of_ble_eq_true rfl⟩ rfl (Nat.le_of_ble_eq_true rfl) h (fun r1 u1 h => ?_)
  exact go_iret dX12_breaches_9 rfl h
set_option maxRecDepth 100000 in
set_option maxHeartbeats 4000000 in
theorem B_X12_watch_0 {g : gp} {u : sg} {Q : Option Value → sg → Prop} (x1 : Int32) (x2 : Int32) (x3 : Int32) (h : Go g iX12_isSheet 0 [some (.int x1)] [] (sI u 12 0 (0 : Int32)) (QI (fun r1 u1 => ((r1 = (0 : Int32) → Q (some (.int (-1000001 : Int32))) u1) ∧ (¬ r1 = (0 : Int32) → Go g iX12_in 0 [some (.long (x3.toInt64)), none, some (.long 1), none, some (.long 12), none] [] u1 (QI (fun r2 u2 => ((¬ r2 = (0 : Int32) → Go g iX12_lookItems 0 [some (.ref (gd g 12)), some (.int x1), some (.int x2), some (.int x3)] [] u2 (QI (fun r3 u3 => (((0 : Int32) ≤ r3 → Go g iX12_watch 55 [some (.ref (gd g 12)), none, none, some (.int x3), none, some (.int ((64 * x1) + x2)), some (.int 0), none, none, none, none] [] u3 Q) ∧ (¬ (0 : Int32) ≤ r3 → Q (some (.int r3)) u3))))) ∧ (r2 = (0 : Int32) → Q (some (.int (-1000001 : Int32))) u2))))))))) : Go g iX12_watch 0 [some (.ref (gd g 12)), some (.int x1), some (.int x2), some (.int x3), none, none, none, none, none, none, none] [] u Q := by
  refine go_aload_n dX12_watch_0 rfl rfl ?_
  refine go_iconst (v := 0) dX12_watch_1 (by decide) ?_
  refine go_put (k := 0) dX12_watch_2 ob_12 (by decide) qf_X12_1 rfl rfl pf_I ?_
  refine go_iload_n dX12_watch_5 rfl rfl ?_
  refine go_cSi (As := [.int x1]) (st := []) (lc := [some (.int x1)]) dX12_watch_6 me_X12_isSheet qm_X12_136 rfl (Nat.le_of_ble_eq_true rfl) rfl ⟨Nat.le_of_ble_eq_true rfl, Nat.le_of_ble_eq_true rfl⟩ rfl (Nat.le_of_ble_eq_true rfl) h (fun r1 u1 h => ?_)
  refine go_if_eq (tgt := 24) dX12_watch_9 (by decide) (fun hc => ?_) (fun hc => ?_)
  · replace h := h.1 hc
    refine go_ldc dX12_watch_24 qc_X12_142 ?_
    exact go_iret dX12_watch_26 rfl h
  · replace h := h.2 hc
    refine go_iload_n dX12_watch_12 rfl rfl ?_
    refine go_i2l dX12_watch_13 ?_
    refine go_lconst (v := 1) dX12_watch_14 (by decide) ?_
    refine go_ldc2 dX12_watch_15 ql_X12_381 ?_
    refine go_cSi (As := [.long (x3.toInt64), .long 1, .long 12]) (st := []) (lc := [some (.long (x3.toInt64)), none, some (.long 1), none, some (.long 12), none]) dX12_watch_18 me_X12_in qm_X12_132 rfl (Nat.le_of_ble_eq_true rfl) rfl ⟨Nat.le_of_ble_eq_true rfl, Nat.le_of_ble_eq_true rfl⟩ rfl (Nat.le_of_ble_eq_true rfl) h (fun r2 u2 h => ?_)
    refine go_if_ne (tgt := 27) dX12_watch_21 (by decide) (fun hc => ?_) (fun hc => ?_)
    · replace h := h.1 hc
      refine go_aload_n dX12_watch_27 rfl rfl ?_
      refine go_iload_n dX12_watch_28 rfl rfl ?_
      refine go_iload_n dX12_watch_29 rfl rfl ?_
      refine go_iload_n dX12_watch_30 rfl rfl ?_
      refine go_cVi (o := 12) (As := [.int x1, .int x2, .int x3]) (st := []) (lc := [some (.ref (gd g 12)), some (.int x1), some (.int x2), some (.int x3)]) dX12_watch_31 me_X12_lookItems rfl ob_12 qm_X12_290 rfl (Nat.le_of_ble_eq_true rfl) rfl ⟨Nat.le_of_ble_eq_true rfl, Nat.le_of_ble_eq_true rfl⟩ rfl (Nat.le_of_ble_eq_true rfl) h (fun r3 u3 h => ?_)
      refine go_istore (lm := [some (.ref (gd g 12)), some (.int x1), some (.int x2), some (.int x3), some (.int r3), none, none, none, none, none, none]) dX12_watch_34 (by decide) rfl rfl ?_
      refine go_iload dX12_watch_36 rfl ?_
      refine go_if_ge (tgt := 44) dX12_watch_38 (by decide) (fun hc => ?_) (fun hc => ?_)
      · replace h := h.1 hc
        refine go_bipush (v := 64) dX12_watch_44 (by decide) ?_
        refine go_iload_n dX12_watch_46 rfl rfl ?_
        refine go_imul dX12_watch_47 ?_
        refine go_iload_n dX12_watch_48 rfl rfl ?_
        refine go_iadd dX12_watch_49 ?_
        refine go_istore (lm := [some (.ref (gd g 12)), some (.int x1), some (.int x2), some (.int x3), some (.int r3), some (.int ((64 * x1) + x2)), none, none, none, none, none]) dX12_watch_50 (by decide) rfl rfl ?_
        refine go_iconst (v := 0) dX12_watch_52 (by decide) ?_
        refine go_istore (lm := [some (.ref (gd g 12)), some (.int x1), some (.int x2), some (.int x3), some (.int r3), some (.int ((64 * x1) + x2)), some (.int 0), none, none, none, none]) dX12_watch_53 (by decide) rfl rfl ?_
        refine go_mask [true, false, false, true, false, true, true, true, true, true, true] rfl ?_
        exact h
      · replace h := h.2 hc
        refine go_iload dX12_watch_41 rfl ?_
        exact go_iret dX12_watch_43 rfl h
    · replace h := h.2 hc
      refine go_ldc dX12_watch_24 qc_X12_142 ?_
      exact go_iret dX12_watch_26 rfl h
set_option maxRecDepth 100000 in
set_option maxHeartbeats 4000000 in
theorem B_X12_watch_55 {g : gp} {u : sg} {Q : Option Value → sg → Prop} (x3 : Int32) (x5 : Int32) (x6 : Int32) (h : ((x3 ≤ x6 → Go g iX12_breachesNow 0 [some (.ref (gd g 12)), none, none, none, none, none] [] (sI u 12 1 (0 : Int32)) (QI (fun r1 u1 => Go g iX12_watch 109 [some (.ref (gd g 12)), none, none, some (.int x3), none, some (.int x5), some (.int r1), some (.int ((-1000000))), some (.int 0), none, none] [] u1 Q))) ∧ (¬ x3 ≤ x6 → (vp_in (x5 + x6) 512 ∧ Go g iX12_in 0 [some (.long ((u.2 54 (x5 + x6).toNatClampNeg).toInt64)), none, some (.long 0), none, some (.long 4095), none] [] u (QI (fun r2 u2 => ((¬ r2 = (0 : Int32) → Go g iX12_watch 55 [some (.ref (gd g 12)), none, none, some (.int x3), none, some (.int x5), some (.int (x6 + 1)), none, none, none, none] [] u2 Q) ∧ (r2 = (0 : Int32) → Q (some (.int (-1000001 : Int32))) u2)))))))) : Go g iX12_watch 55 [some (.ref (gd g 12)), none, none, some (.int x3), none, some (.int x5), some (.int x6), none, none, none, none] [] u Q := by
  refine go_iload dX12_watch_55 rfl ?_
  refine go_iload_n dX12_watch_57 rfl rfl ?_
  refine go_icmp_ge (tgt := 91) dX12_watch_58 (by decide) (fun hc => ?_) (fun hc => ?_)
  · replace h := h.1 hc
    refine go_aload_n dX12_watch_91 rfl rfl ?_
    refine go_iconst (v := 0) dX12_watch_92 (by decide) ?_
    refine go_put (k := 1) dX12_watch_93 ob_12 (by decide) qf_X12_7 rfl rfl pf_I ?_
    refine go_aload_n dX12_watch_96 rfl rfl ?_
    refine go_cVi (o := 12) (As := []) (st := []) (lc := [some (.ref (gd g 12)), none, none, none, none, none]) dX12_watch_97 me_X12_breachesNow rfl ob_12 qm_X12_378 rfl (Nat.le_of_ble_eq_true rfl) rfl ⟨Nat.le_of_ble_eq_true rfl, Nat.le_of_ble_eq_true rfl⟩ rfl (Nat.le_of_ble_eq_true rfl) h (fun r1 u1 h => ?_)
    refine go_istore (lm := [some (.ref (gd g 12)), none, none, some (.int x3), none, some (.int x5), some (.int r1), none, none, none, none]) dX12_watch_100 (by decide) rfl rfl ?_
    refine go_ldc dX12_watch_102 qc_X12_129 ?_
    refine go_istore (lm := [some (.ref (gd g 12)), none, none, some (.int x3), none, some (.int x5), some (.int r1), some (.int ((-1000000))), none, none, none]) dX12_watch_104 (by decide) rfl rfl ?_
    refine go_iconst (v := 0) dX12_watch_106 (by decide) ?_
    refine go_istore (lm := [some (.ref (gd g 12)), none, none, some (.int x3), none, some (.int x5), some (.int r1), some (.int ((-1000000))), some (.int 0), none, none]) dX12_watch_107 (by decide) rfl rfl ?_
    exact h
  · replace h := h.2 hc
    refine go_aload_n dX12_watch_61 rfl rfl ?_
    refine go_get (k := 4) (v := .ref (gd g 54)) dX12_watch_62 ob_12 (by decide) qf_X12_24 rfl ?_
    refine go_iload dX12_watch_65 rfl ?_
    refine go_iload dX12_watch_67 rfl ?_
    refine go_iadd dX12_watch_69 ?_
    obtain ⟨hi, h⟩ := h
    refine go_ild (a := 54) (n := 512) dX12_watch_70 (by decide) (by decide) rfl hi ?_
    refine go_i2l dX12_watch_71 ?_
    refine go_lconst (v := 0) dX12_watch_72 (by decide) ?_
    refine go_ldc2 dX12_watch_73 ql_X12_383 ?_
    refine go_cSi (As := [.long ((u.2 54 (x5 + x6).toNatClampNeg).toInt64), .long 0, .long 4095]) (st := []) (lc := [some (.long ((u.2 54 (x5 + x6).toNatClampNeg).toInt64)), none, some (.long 0), none, some (.long 4095), none]) dX12_watch_76 me_X12_in qm_X12_132 rfl (Nat.le_of_ble_eq_true rfl) rfl ⟨Nat.le_of_ble_eq_true rfl, Nat.le_of_ble_eq_true rfl⟩ rfl (Nat.le_of_ble_eq_true rfl) h (fun r2 u2 h => ?_)
    refine go_if_ne (tgt := 85) dX12_watch_79 (by decide) (fun hc => ?_) (fun hc => ?_)
    · replace h := h.1 hc
      refine go_iinc (v := x6 + 1) (lm := [some (.ref (gd g 12)), none, none, some (.int x3), none, some (.int x5), some (.int (x6 + 1)), none, none, none, none]) dX12_watch_85 rfl rfl (by decide) rfl rfl ?_
      refine go_goto (tgt := 55) dX12_watch_88 (by decide) ?_
      exact h
    · replace h := h.2 hc
      refine go_ldc dX12_watch_82 qc_X12_142 ?_
      exact go_iret dX12_watch_84 rfl h
set_option maxRecDepth 100000 in
set_option maxHeartbeats 4000000 in
theorem B_X12_watch_109 {g : gp} {u : sg} {Q : Option Value → sg → Prop} (x3 : Int32) (x5 : Int32) (x6 : Int32) (x7 : Int32) (x8 : Int32) (h : (((1 <<< (x3 &&& 31)) ≤ x8 → Q (some (.int x7)) u) ∧ (¬ (1 <<< (x3 &&& 31)) ≤ x8 → Go g iX12_watch 123 [some (.ref (gd g 12)), none, none, some (.int x3), none, some (.int x5), some (.int x6), some (.int x7), some (.int x8), some (.int 0), some (.int 0)] [] u Q))) : Go g iX12_watch 109 [some (.ref (gd g 12)), none, none, some (.int x3), none, some (.int x5), some (.int x6), some (.int x7), some (.int x8), none, none] [] u Q := by
  refine go_iload dX12_watch_109 rfl ?_
  refine go_iconst (v := 1) dX12_watch_111 (by decide) ?_
  refine go_iload_n dX12_watch_112 rfl rfl ?_
  refine go_ishl dX12_watch_113 ?_
  refine go_icmp_ge (tgt := 210) dX12_watch_114 (by decide) (fun hc => ?_) (fun hc => ?_)
  · replace h := h.1 hc
    refine go_iload dX12_watch_210 rfl ?_
    exact go_iret dX12_watch_212 rfl h
  · replace h := h.2 hc
    refine go_iconst (v := 0) dX12_watch_117 (by decide) ?_
    refine go_istore (lm := [some (.ref (gd g 12)), none, none, some (.int x3), none, some (.int x5), some (.int x6), some (.int x7), some (.int x8), some (.int 0), none]) dX12_watch_118 (by decide) rfl rfl ?_
    refine go_iconst (v := 0) dX12_watch_120 (by decide) ?_
    refine go_istore (lm := [some (.ref (gd g 12)), none, none, some (.int x3), none, some (.int x5), some (.int x6), some (.int x7), some (.int x8), some (.int 0), some (.int 0)]) dX12_watch_121 (by decide) rfl rfl ?_
    exact h
set_option maxRecDepth 100000 in
set_option maxHeartbeats 4000000 in
theorem B_X12_watch_123 {g : gp} {u : sg} {Q : Option Value → sg → Prop} (x3 : Int32) (x5 : Int32) (x6 : Int32) (x7 : Int32) (x8 : Int32) (x9 : Int32) (x10 : Int32) (h : ((x3 ≤ x10 → ((¬ (x6 &&& (x9 ^^^ (-1))) = (0 : Int32) → Go g iX12_watch 109 [some (.ref (gd g 12)), none, none, some (.int x3), none, some (.int x5), some (.int x6), some (.int x7), some (.int (x8 + 1)), none, none] [] u Q) ∧ ((x6 &&& (x9 ^^^ (-1))) = (0 : Int32) → ((x7 = (-1000000 : Int32) → Go g iX12_watch 109 [some (.ref (gd g 12)), none, none, some (.int x3), none, some (.int x5), some (.int x6), some (.int x8), some (.int (x8 + 1)), none, none] [] u Q) ∧ (¬ x7 = (-1000000 : Int32) → Go g iX12_bits 0 [some (.int x8), none, none] [] u (QI (fun r1 u1 => Go g iX12_bits 0 [some (.int x7), none, none] [] u1 (QI (fun r2 u2 => ((r2 ≤ r1 → Go g iX12_watch 109 [some (.ref (gd g 12)), none, none, some (.int x3), none, some (.int x5), some (.int x6), some (.int x7), some (.int (x8 + 1)), none, none] [] u2 Q) ∧ (¬ r2 ≤ r1 → Go g iX12_watch 109 [some (.ref (gd g 12)), none, none, some (.int x3), none, some (.int x5), some (.int x6), some (.int x8), some (.int (x8 + 1)), none, none] [] u2 Q))))))))))) ∧ (¬ x3 ≤ x10 → ((¬ ((x8 >>> (x10 &&& 31)) &&& 1) = (1 : Int32) → Go g iX12_watch 123 [some (.ref (gd g 12)), none, none, some (.int x3), none, some (.int x5), some (.int x6), some (.int x7), some (.int x8), some (.int (x9 ||| 0)), some (.int (x10 + 1))] [] u Q) ∧ (((x8 >>> (x10 &&& 31)) &&& 1) = (1 : Int32) → (vp_in (x5 + x10) 512 ∧ Go g iX12_watch 123 [some (.ref (gd g 12)), none, none, some (.int x3), none, some (.int x5), some (.int x6), some (.int x7), some (.int x8), some (.int (x9 ||| (u.2 54 (x5 + x10).toNatClampNeg))), some (.int (x10 + 1))] [] u Q)))))) : Go g iX12_watch 123 [some (.ref (gd g 12)), none, none, some (.int x3), none, some (.int x5), some (.int x6), some (.int x7), some (.int x8), some (.int x9), some (.int x10)] [] u Q := by
  refine go_iload dX12_watch_123 rfl ?_
  refine go_iload_n dX12_watch_125 rfl rfl ?_
  refine go_icmp_ge (tgt := 165) dX12_watch_126 (by decide) (fun hc => ?_) (fun hc => ?_)
  · replace h := h.1 hc
    refine go_iload dX12_watch_165 rfl ?_
    refine go_iload dX12_watch_167 rfl ?_
    refine go_iconst (v := (-1)) dX12_watch_169 (by decide) ?_
    refine go_ixor dX12_watch_170 ?_
    refine go_iand dX12_watch_171 ?_
    refine go_if_ne (tgt := 200) dX12_watch_172 (by decide) (fun hc => ?_) (fun hc => ?_)
    · replace h := h.1 hc
      refine go_iload dX12_watch_200 rfl ?_
      refine go_istore (lm := [some (.ref (gd g 12)), none, none, some (.int x3), none, some (.int x5), some (.int x6), some (.int x7), some (.int x8), some (.int x9), some (.int x10)]) dX12_watch_202 (by decide) rfl rfl ?_
      refine go_iinc (v := x8 + 1) (lm := [some (.ref (gd g 12)), none, none, some (.int x3), none, some (.int x5), some (.int x6), some (.int x7), some (.int (x8 + 1)), some (.int x9), some (.int x10)]) dX12_watch_204 rfl rfl (by decide) rfl rfl ?_
      refine go_goto (tgt := 109) dX12_watch_207 (by decide) ?_
      refine go_mask [true, true, true, true, true, true, true, true, true, false, false] rfl ?_
      exact h
    · replace h := h.2 hc
      refine go_iload dX12_watch_175 rfl ?_
      refine go_ldc dX12_watch_177 qc_X12_129 ?_
      refine go_icmp_eq (tgt := 195) dX12_watch_179 (by decide) (fun hc => ?_) (fun hc => ?_)
      · replace h := h.1 hc
        refine go_iload dX12_watch_195 rfl ?_
        refine go_goto (tgt := 202) dX12_watch_197 (by decide) ?_
        refine go_istore (lm := [some (.ref (gd g 12)), none, none, some (.int x3), none, some (.int x5), some (.int x6), some (.int x8), some (.int x8), some (.int x9), some (.int x10)]) dX12_watch_202 (by decide) rfl rfl ?_
        refine go_iinc (v := x8 + 1) (lm := [some (.ref (gd g 12)), none, none, some (.int x3), none, some (.int x5), some (.int x6), some (.int x8), some (.int (x8 + 1)), some (.int x9), some (.int x10)]) dX12_watch_204 rfl rfl (by decide) rfl rfl ?_
        refine go_goto (tgt := 109) dX12_watch_207 (by decide) ?_
        refine go_mask [true, true, true, true, true, true, true, true, true, false, false] rfl ?_
        exact h
      · replace h := h.2 hc
        refine go_iload dX12_watch_182 rfl ?_
        refine go_cSi (As := [.int x8]) (st := []) (lc := [some (.int x8), none, none]) dX12_watch_184 me_X12_bits qm_X12_369 rfl (Nat.le_of_ble_eq_true rfl) rfl ⟨Nat.le_of_ble_eq_true rfl, Nat.le_of_ble_eq_true rfl⟩ rfl (Nat.le_of_ble_eq_true rfl) h (fun r1 u1 h => ?_)
        refine go_iload dX12_watch_187 rfl ?_
        refine go_cSi (As := [.int x7]) (st := [.int r1]) (lc := [some (.int x7), none, none]) dX12_watch_189 me_X12_bits qm_X12_369 rfl (Nat.le_of_ble_eq_true rfl) rfl ⟨Nat.le_of_ble_eq_true rfl, Nat.le_of_ble_eq_true rfl⟩ rfl (Nat.le_of_ble_eq_true rfl) h (fun r2 u2 h => ?_)
        refine go_icmp_ge (tgt := 200) dX12_watch_192 (by decide) (fun hc => ?_) (fun hc => ?_)
        · replace h := h.1 hc
          refine go_iload dX12_watch_200 rfl ?_
          refine go_istore (lm := [some (.ref (gd g 12)), none, none, some (.int x3), none, some (.int x5), some (.int x6), some (.int x7), some (.int x8), some (.int x9), some (.int x10)]) dX12_watch_202 (by decide) rfl rfl ?_
          refine go_iinc (v := x8 + 1) (lm := [some (.ref (gd g 12)), none, none, some (.int x3), none, some (.int x5), some (.int x6), some (.int x7), some (.int (x8 + 1)), some (.int x9), some (.int x10)]) dX12_watch_204 rfl rfl (by decide) rfl rfl ?_
          refine go_goto (tgt := 109) dX12_watch_207 (by decide) ?_
          refine go_mask [true, true, true, true, true, true, true, true, true, false, false] rfl ?_
          exact h
        · replace h := h.2 hc
          refine go_iload dX12_watch_195 rfl ?_
          refine go_goto (tgt := 202) dX12_watch_197 (by decide) ?_
          refine go_istore (lm := [some (.ref (gd g 12)), none, none, some (.int x3), none, some (.int x5), some (.int x6), some (.int x8), some (.int x8), some (.int x9), some (.int x10)]) dX12_watch_202 (by decide) rfl rfl ?_
          refine go_iinc (v := x8 + 1) (lm := [some (.ref (gd g 12)), none, none, some (.int x3), none, some (.int x5), some (.int x6), some (.int x8), some (.int (x8 + 1)), some (.int x9), some (.int x10)]) dX12_watch_204 rfl rfl (by decide) rfl rfl ?_
          refine go_goto (tgt := 109) dX12_watch_207 (by decide) ?_
          refine go_mask [true, true, true, true, true, true, true, true, true, false, false] rfl ?_
          exact h
  · replace h := h.2 hc
    refine go_iload dX12_watch_129 rfl ?_
    refine go_iload dX12_watch_131 rfl ?_
    refine go_iload dX12_watch_133 rfl ?_
    refine go_ishr dX12_watch_135 ?_
    refine go_iconst (v := 1) dX12_watch_136 (by decide) ?_
    refine go_iand dX12_watch_137 ?_
    refine go_iconst (v := 1) dX12_watch_138 (by decide) ?_
    refine go_icmp_ne (tgt := 155) dX12_watch_139 (by decide) (fun hc => ?_) (fun hc => ?_)
    · replace h := h.1 hc
      refine go_iconst (v := 0) dX12_watch_155 (by decide) ?_
      refine go_ior dX12_watch_156 ?_
      refine go_istore (lm := [some (.ref (gd g 12)), none, none, some (.int x3), none, some (.int x5), some (.int x6), some (.int x7), some (.int x8), some (.int (x9 ||| 0)), some (.int x10)]) dX12_watch_157 (by decide) rfl rfl ?_
      refine go_iinc (v := x10 + 1) (lm := [some (.ref (gd g 12)), none, none, some (.int x3), none, some (.int x5), some (.int x6), some (.int x7), some (.int x8), some (.int (x9 ||| 0)), some (.int (x10 + 1))]) dX12_watch_159 rfl rfl (by decide) rfl rfl ?_
      refine go_goto (tgt := 123) dX12_watch_162 (by decide) ?_
      exact h
    · replace h := h.2 hc
      refine go_aload_n dX12_watch_142 rfl rfl ?_
      refine go_get (k := 4) (v := .ref (gd g 54)) dX12_watch_143 ob_12 (by decide) qf_X12_24 rfl ?_
      refine go_iload dX12_watch_146 rfl ?_
      refine go_iload dX12_watch_148 rfl ?_
      refine go_iadd dX12_watch_150 ?_
      obtain ⟨hi, h⟩ := h
      refine go_ild (a := 54) (n := 512) dX12_watch_151 (by decide) (by decide) rfl hi ?_
      refine go_goto (tgt := 156) dX12_watch_152 (by decide) ?_
      refine go_ior dX12_watch_156 ?_
      refine go_istore (lm := [some (.ref (gd g 12)), none, none, some (.int x3), none, some (.int x5), some (.int x6), some (.int x7), some (.int x8), some (.int (x9 ||| (u.2 54 (x5 + x10).toNatClampNeg))), some (.int x10)]) dX12_watch_157 (by decide) rfl rfl ?_
      refine go_iinc (v := x10 + 1) (lm := [some (.ref (gd g 12)), none, none, some (.int x3), none, some (.int x5), some (.int x6), some (.int x7), some (.int x8), some (.int (x9 ||| (u.2 54 (x5 + x10).toNatClampNeg))), some (.int (x10 + 1))]) dX12_watch_159 rfl rfl (by decide) rfl rfl ?_
      refine go_goto (tgt := 123) dX12_watch_162 (by decide) ?_
      exact h
set_option maxRecDepth 100000 in
set_option maxHeartbeats 4000000 in
theorem B_X12_day_0 {g : gp} {u : sg} {Q : Option Value → sg → Prop} (x1 : Int32) (h : Go g iX12_isDay 0 [some (.int x1)] [] (sI u 12 0 (0 : Int32)) (QI (fun r1 u1 => ((¬ r1 = (0 : Int32) → Q (some (.int (u1.1 12 44))) (sI u1 12 44 x1)) ∧ (r1 = (0 : Int32) → Q (some (.int (-1000001 : Int32))) u1))))) : Go g iX12_day 0 [some (.ref (gd g 12)), some (.int x1), none] [] u Q := by
  refine go_aload_n dX12_day_0 rfl rfl ?_
  refine go_iconst (v := 0) dX12_day_1 (by decide) ?_
  refine go_put (k := 0) dX12_day_2 ob_12 (by decide) qf_X12_1 rfl rfl pf_I ?_
  refine go_iload_n dX12_day_5 rfl rfl ?_
  refine go_cSi (As := [.int x1]) (st := []) (lc := [some (.int x1)]) dX12_day_6 me_X12_isDay qm_X12_258 rfl (Nat.le_of_ble_eq_true rfl) rfl ⟨Nat.le_of_ble_eq_true rfl, Nat.le_of_ble_eq_true rfl⟩ rfl (Nat.le_of_ble_eq_true rfl) h (fun r1 u1 h => ?_)
  refine go_if_ne (tgt := 15) dX12_day_9 (by decide) (fun hc => ?_) (fun hc => ?_)
  · replace h := h.1 hc
    refine go_aload_n dX12_day_15 rfl rfl ?_
    refine go_get (k := 44) (v := .int (u1.1 12 44)) dX12_day_16 ob_12 (by decide) qf_X12_347 rfl ?_
    refine go_istore_n (lm := [some (.ref (gd g 12)), some (.int x1), some (.int (u1.1 12 44))]) dX12_day_19 rfl (by decide) rfl rfl ?_
    refine go_aload_n dX12_day_20 rfl rfl ?_
    refine go_iload_n dX12_day_21 rfl rfl ?_
    refine go_put (k := 44) dX12_day_22 ob_12 (by decide) qf_X12_347 rfl rfl pf_I ?_
    refine go_iload_n dX12_day_25 rfl rfl ?_
    exact go_iret dX12_day_26 rfl h
  · replace h := h.2 hc
    refine go_ldc dX12_day_12 qc_X12_142 ?_
    exact go_iret dX12_day_14 rfl h
set_option maxRecDepth 100000 in
set_option maxHeartbeats 4000000 in
theorem B_X12_isOf_0 {g : gp} {u : sg} {Q : Option Value → sg → Prop} (x0 : Int32) (x1 : Int32) (h : ((x1 = (0 : Int32) → Q (some (.int (1 : Int32))) u) ∧ (¬ x1 = (0 : Int32) → ((x0 = x1 → Q (some (.int (1 : Int32))) u) ∧ (¬ x0 = x1 → ((¬ x1 = (2 : Int32) → Q (some (.int (0 : Int32))) u) ∧ (x1 = (2 : Int32) → ((¬ x0 = (3 : Int32) → Q (some (.int (0 : Int32))) u) ∧ (x0 = (3 : Int32) → Q (some (.int (1 : Int32))) u))))))))) : Go g iX12_isOf 0 [some (.int x0), some (.int x1)] [] u Q := by
  refine go_iload_n dX12_isOf_0 rfl rfl ?_
  refine go_if_eq (tgt := 19) dX12_isOf_1 (by decide) (fun hc => ?_) (fun hc => ?_)
  · replace h := h.1 hc
    refine go_iconst (v := 1) dX12_isOf_19 (by decide) ?_
    refine go_goto (tgt := 24) dX12_isOf_20 (by decide) ?_
    exact go_zret dX12_isOf_24 rfl (by decide) h
  · replace h := h.2 hc
    refine go_iload_n dX12_isOf_4 rfl rfl ?_
    refine go_iload_n dX12_isOf_5 rfl rfl ?_
    refine go_icmp_eq (tgt := 19) dX12_isOf_6 (by decide) (fun hc => ?_) (fun hc => ?_)
    · replace h := h.1 hc
      refine go_iconst (v := 1) dX12_isOf_19 (by decide) ?_
      refine go_goto (tgt := 24) dX12_isOf_20 (by decide) ?_
      exact go_zret dX12_isOf_24 rfl (by decide) h
    · replace h := h.2 hc
      refine go_iload_n dX12_isOf_9 rfl rfl ?_
      refine go_iconst (v := 2) dX12_isOf_10 (by decide) ?_
      refine go_icmp_ne (tgt := 23) dX12_isOf_11 (by decide) (fun hc => ?_) (fun hc => ?_)
      · replace h := h.1 hc
        refine go_iconst (v := 0) dX12_isOf_23 (by decide) ?_
        exact go_zret dX12_isOf_24 rfl (by decide) h
      · replace h := h.2 hc
        refine go_iload_n dX12_isOf_14 rfl rfl ?_
        refine go_iconst (v := 3) dX12_isOf_15 (by decide) ?_
        refine go_icmp_ne (tgt := 23) dX12_isOf_16 (by decide) (fun hc => ?_) (fun hc => ?_)
        · replace h := h.1 hc
          refine go_iconst (v := 0) dX12_isOf_23 (by decide) ?_
          exact go_zret dX12_isOf_24 rfl (by decide) h
        · replace h := h.2 hc
          refine go_iconst (v := 1) dX12_isOf_19 (by decide) ?_
          refine go_goto (tgt := 24) dX12_isOf_20 (by decide) ?_
          exact go_zret dX12_isOf_24 rfl (by decide) h
set_option maxRecDepth 100000 in
set_option maxHeartbeats 4000000 in
theorem B_X12_kind_0 {g : gp} {u : sg} {Q : Option Value → sg → Prop} (x1 : Int32) (h : Go g iX12_isPass 0 [some (.ref (gd g 12)), some (.int x1)] [] (sI u 12 0 (0 : Int32)) (QI (fun r1 u1 => ((r1 = (0 : Int32) → Q (some (.int (-1000001 : Int32))) u1) ∧ (¬ r1 = (0 : Int32) → Go g iX12_kindOf 0 [some (.ref (gd g 12)), some (.int x1), none] [] u1 (QI (fun r2 u2 => Q (some (.int r2)) u2))))))) : Go g iX12_kind 0 [some (.ref (gd g 12)), some (.int x1)] [] u Q := by
  refine go_aload_n dX12_kind_0 rfl rfl ?_
  refine go_iconst (v := 0) dX12_kind_1 (by decide) ?_
  refine go_put (k := 0) dX12_kind_2 ob_12 (by decide) qf_X12_1 rfl rfl pf_I ?_
  refine go_aload_n dX12_kind_5 rfl rfl ?_
  refine go_iload_n dX12_kind_6 rfl rfl ?_
  refine go_cVi (o := 12) (As := [.int x1]) (st := []) (lc := [some (.ref (gd g 12)), some (.int x1)]) dX12_kind_7 me_X12_isPass rfl ob_12 qm_X12_353 rfl (Nat.le_of_ble_eq_true rfl) rfl ⟨Nat.le_of_ble_eq_true rfl, Nat.le_of_ble_eq_true rfl⟩ rfl (Nat.le_of_ble_eq_true rfl) h (fun r1 u1 h => ?_)
  refine go_if_eq (tgt := 21) dX12_kind_10 (by decide) (fun hc => ?_) (fun hc => ?_)
  · replace h := h.1 hc
    refine go_ldc dX12_kind_21 qc_X12_142 ?_
    exact go_iret dX12_kind_23 rfl h
  · replace h := h.2 hc
    refine go_aload_n dX12_kind_13 rfl rfl ?_
    refine go_iload_n dX12_kind_14 rfl rfl ?_
    refine go_cVi (o := 12) (As := [.int x1]) (st := []) (lc := [some (.ref (gd g 12)), some (.int x1), none]) dX12_kind_15 me_X12_kindOf rfl ob_12 qm_X12_385 rfl (Nat.le_of_ble_eq_true rfl) rfl ⟨Nat.le_of_ble_eq_true rfl, Nat.le_of_ble_eq_true rfl⟩ rfl (Nat.le_of_ble_eq_true rfl) h (fun r2 u2 h => ?_)
    refine go_goto (tgt := 23) dX12_kind_18 (by decide) ?_
    exact go_iret dX12_kind_23 rfl h
set_option maxRecDepth 100000 in
set_option maxHeartbeats 4000000 in
theorem B_X12_as_0 {g : gp} {u : sg} {Q : Option Value → sg → Prop} (x1 : Int32) (x2 : Int32) (h : Go g iX12_isPass 0 [some (.ref (gd g 12)), some (.int x1)] [] (sI u 12 0 (0 : Int32)) (QI (fun r1 u1 => ((r1 = (0 : Int32) → Q (some (.int (-1000001 : Int32))) u1) ∧ (¬ r1 = (0 : Int32) → Go g iX12_in 0 [some (.long (x2.toInt64)), none, some (.long 0), none, some (.long 4), none] [] u1 (QI (fun r2 u2 => ((¬ r2 = (0 : Int32) → Go g iX12_kindOf 0 [some (.ref (gd g 12)), some (.int x1), none] [] (sI u2 12 1 (0 : Int32)) (QI (fun r3 u3 => Go g iX12_isOf 0 [some (.int r3), some (.int x2)] [] u3 (QI (fun r4 u4 => ((r4 = (0 : Int32) → Go g iX12_finding 0 [some (.ref (gd g 12)), some (.int 3)] [] u4 (QI (fun r5 u5 => Q (some (.int r5)) u5))) ∧ (¬ r4 = (0 : Int32) → Go g iX12_on 0 [some (.ref (gd g 12)), some (.int x1), some (.int 2)] [] u4 (QI (fun r6 u6 => Q (some (.int r6)) u6))))))))) ∧ (r2 = (0 : Int32) → Q (some (.int (-1000001 : Int32))) u2))))))))) : Go g iX12_as 0 [some (.ref (gd g 12)), some (.int x1), some (.int x2)] [] u Q := by
  refine go_aload_n dX12_as_0 rfl rfl ?_
  refine go_iconst (v := 0) dX12_as_1 (by decide) ?_
  refine go_put (k := 0) dX12_as_2 ob_12 (by decide) qf_X12_1 rfl rfl pf_I ?_
  refine go_aload_n dX12_as_5 rfl rfl ?_
  refine go_iload_n dX12_as_6 rfl rfl ?_
  refine go_cVi (o := 12) (As := [.int x1]) (st := []) (lc := [some (.ref (gd g 12)), some (.int x1)]) dX12_as_7 me_X12_isPass rfl ob_12 qm_X12_353 rfl (Nat.le_of_ble_eq_true rfl) rfl ⟨Nat.le_of_ble_eq_true rfl, Nat.le_of_ble_eq_true rfl⟩ rfl (Nat.le_of_ble_eq_true rfl) h (fun r1 u1 h => ?_)
  refine go_if_eq (tgt := 25) dX12_as_10 (by decide) (fun hc => ?_) (fun hc => ?_)
  · replace h := h.1 hc
    refine go_ldc dX12_as_25 qc_X12_142 ?_
    exact go_iret dX12_as_27 rfl h
  · replace h := h.2 hc
    refine go_iload_n dX12_as_13 rfl rfl ?_
    refine go_i2l dX12_as_14 ?_
    refine go_lconst (v := 0) dX12_as_15 (by decide) ?_
    refine go_ldc2 dX12_as_16 ql_X12_293 ?_
    refine go_cSi (As := [.long (x2.toInt64), .long 0, .long 4]) (st := []) (lc := [some (.long (x2.toInt64)), none, some (.long 0), none, some (.long 4), none]) dX12_as_19 me_X12_in qm_X12_132 rfl (Nat.le_of_ble_eq_true rfl) rfl ⟨Nat.le_of_ble_eq_true rfl, Nat.le_of_ble_eq_true rfl⟩ rfl (Nat.le_of_ble_eq_true rfl) h (fun r2 u2 h => ?_)
    refine go_if_ne (tgt := 28) dX12_as_22 (by decide) (fun hc => ?_) (fun hc => ?_)
    · replace h := h.1 hc
      refine go_aload_n dX12_as_28 rfl rfl ?_
      refine go_iconst (v := 0) dX12_as_29 (by decide) ?_
      refine go_put (k := 1) dX12_as_30 ob_12 (by decide) qf_X12_7 rfl rfl pf_I ?_
      refine go_aload_n dX12_as_33 rfl rfl ?_
      refine go_iload_n dX12_as_34 rfl rfl ?_
      refine go_cVi (o := 12) (As := [.int x1]) (st := []) (lc := [some (.ref (gd g 12)), some (.int x1), none]) dX12_as_35 me_X12_kindOf rfl ob_12 qm_X12_385 rfl (Nat.le_of_ble_eq_true rfl) rfl ⟨Nat.le_of_ble_eq_true rfl, Nat.le_of_ble_eq_true rfl⟩ rfl (Nat.le_of_ble_eq_true rfl) h (fun r3 u3 h => ?_)
      refine go_iload_n dX12_as_38 rfl rfl ?_
      refine go_cSi (As := [.int r3, .int x2]) (st := []) (lc := [some (.int r3), some (.int x2)]) dX12_as_39 me_X12_isOf qm_X12_388 rfl (Nat.le_of_ble_eq_true rfl) rfl ⟨Nat.le_of_ble_eq_true rfl, Nat.le_of_ble_eq_true rfl⟩ rfl (Nat.le_of_ble_eq_true rfl) h (fun r4 u4 h => ?_)
      refine go_if_eq (tgt := 54) dX12_as_42 (by decide) (fun hc => ?_) (fun hc => ?_)
      · replace h := h.1 hc
        refine go_aload_n dX12_as_54 rfl rfl ?_
        refine go_iconst (v := 3) dX12_as_55 (by decide) ?_
        refine go_cVi (o := 12) (As := [.int 3]) (st := []) (lc := [some (.ref (gd g 12)), some (.int 3)]) dX12_as_56 me_X12_finding rfl ob_12 qm_X12_143 rfl (Nat.le_of_ble_eq_true rfl) rfl ⟨Nat.le_of_ble_eq_true rfl, Nat.le_of_ble_eq_true rfl⟩ rfl (Nat.le_of_ble_eq_true rfl) h (fun r5 u5 h => ?_)
        exact go_iret dX12_as_59 rfl h
      · replace h := h.2 hc
        refine go_aload_n dX12_as_45 rfl rfl ?_
        refine go_iload_n dX12_as_46 rfl rfl ?_
        refine go_iconst (v := 2) dX12_as_47 (by decide) ?_
        refine go_cVi (o := 12) (As := [.int x1, .int 2]) (st := []) (lc := [some (.ref (gd g 12)), some (.int x1), some (.int 2)]) dX12_as_48 me_X12_on rfl ob_12 qm_X12_343 rfl (Nat.le_of_ble_eq_true rfl) rfl ⟨Nat.le_of_ble_eq_true rfl, Nat.le_of_ble_eq_true rfl⟩ rfl (Nat.le_of_ble_eq_true rfl) h (fun r6 u6 h => ?_)
        refine go_goto (tgt := 59) dX12_as_51 (by decide) ?_
        exact go_iret dX12_as_59 rfl h
    · replace h := h.2 hc
      refine go_ldc dX12_as_25 qc_X12_142 ?_
      exact go_iret dX12_as_27 rfl h
set_option maxRecDepth 100000 in
set_option maxHeartbeats 4000000 in
theorem B_X12_began_0 {g : gp} {u : sg} {Q : Option Value → sg → Prop} (x1 : Int32) (h : (((16 : Int32) ≤ (u.1 12 60) → Q none u) ∧ (¬ (16 : Int32) ≤ (u.1 12 60) → (vp_in (u.1 12 60) 16 ∧ Q none (sI (sA u 88 (u.1 12 60).toNatClampNeg x1) 12 60 ((u.1 12 60) + 1)))))) : Go g iX12_began 0 [some (.ref (gd g 12)), some (.int x1)] [] u Q := by
  refine go_aload_n dX12_began_0 rfl rfl ?_
  refine go_get (k := 60) (v := .int (u.1 12 60)) dX12_began_1 ob_12 (by decide) qf_X12_391 rfl ?_
  refine go_bipush (v := 16) dX12_began_4 (by decide) ?_
  refine go_icmp_ge (tgt := 29) dX12_began_6 (by decide) (fun hc => ?_) (fun hc => ?_)
  · replace h := h.1 hc
    exact go_vret dX12_began_29 rfl h
  · replace h := h.2 hc
    refine go_aload_n dX12_began_9 rfl rfl ?_
    refine go_get (k := 59) (v := .ref (gd g 88)) dX12_began_10 ob_12 (by decide) qf_X12_126 rfl ?_
    refine go_aload_n dX12_began_13 rfl rfl ?_
    refine go_get (k := 60) (v := .int (u.1 12 60)) dX12_began_14 ob_12 (by decide) qf_X12_391 rfl ?_
    refine go_iload_n dX12_began_17 rfl rfl ?_
    obtain ⟨hi, h⟩ := h
    refine go_ist (a := 88) (n := 16) dX12_began_18 (by decide) (by decide) rfl hi ?_
    refine go_aload_n dX12_began_19 rfl rfl ?_
    refine go_dup dX12_began_20 rfl ?_
    refine go_get (k := 60) (v := .int (u.1 12 60)) dX12_began_21 ob_12 (by decide) qf_X12_391 rfl ?_
    refine go_iconst (v := 1) dX12_began_24 (by decide) ?_
    refine go_iadd dX12_began_25 ?_
    refine go_put (k := 60) dX12_began_26 ob_12 (by decide) qf_X12_391 rfl rfl pf_I ?_
    exact go_vret dX12_began_29 rfl h
set_option maxRecDepth 100000 in
set_option maxHeartbeats 4000000 in
theorem B_X12_nightSize_0 {g : gp} {u : sg} {Q : Option Value → sg → Prop} (x1 : Int32) (h : Go g iX12_began 0 [some (.ref (gd g 12)), some (.int 14)] [] u (QV (fun u1 => Go g iX12_began 0 [some (.ref (gd g 12)), some (.int 10)] [] u1 (QV (fun u2 => Go g iX12_on 0 [some (.ref (gd g 12)), some (.int x1), some (.int 6)] [] u2 (QI (fun r3 u3 => Go g iX12_on 0 [some (.ref (gd g 12)), some (.int x1), some (.int 5)] [] u3 (QI (fun r4 u4 => Go g iX12_on 0 [some (.ref (gd g 12)), some (.int x1), some (.int 1)] [] u4 (QI (fun r5 u5 => Q (some (.int ((r3 - r4) + r5))) u5))))))))))) : Go g iX12_nightSize 0 [some (.ref (gd g 12)), some (.int x1)] [] u Q := by
  refine go_aload_n dX12_nightSize_0 rfl rfl ?_
  refine go_bipush (v := 14) dX12_nightSize_1 (by decide) ?_
  refine go_cVv (o := 12) (As := [.int 14]) (st := []) (lc := [some (.ref (gd g 12)), some (.int 14)]) dX12_nightSize_3 me_X12_began rfl ob_12 qm_X12_394 rfl (Nat.le_of_ble_eq_true rfl) rfl ⟨Nat.le_of_ble_eq_true rfl, Nat.le_of_ble_eq_true rfl⟩ rfl (Nat.le_of_ble_eq_true rfl) h (fun u1 h => ?_)
  refine go_aload_n dX12_nightSize_6 rfl rfl ?_
  refine go_bipush (v := 10) dX12_nightSize_7 (by decide) ?_
  refine go_cVv (o := 12) (As := [.int 10]) (st := []) (lc := [some (.ref (gd g 12)), some (.int 10)]) dX12_nightSize_9 me_X12_began rfl ob_12 qm_X12_394 rfl (Nat.le_of_ble_eq_true rfl) rfl ⟨Nat.le_of_ble_eq_true rfl, Nat.le_of_ble_eq_true rfl⟩ rfl (Nat.le_of_ble_eq_true rfl) h (fun u2 h => ?_)
  refine go_aload_n dX12_nightSize_12 rfl rfl ?_
  refine go_iload_n dX12_nightSize_13 rfl rfl ?_
  refine go_bipush (v := 6) dX12_nightSize_14 (by decide) ?_
  refine go_cVi (o := 12) (As := [.int x1, .int 6]) (st := []) (lc := [some (.ref (gd g 12)), some (.int x1), some (.int 6)]) dX12_nightSize_16 me_X12_on rfl ob_12 qm_X12_343 rfl (Nat.le_of_ble_eq_true rfl) rfl ⟨Nat.le_of_ble_eq_true rfl, Nat.le_of_ble_eq_true rfl⟩ rfl (Nat.le_of_ble_eq_true rfl) h (fun r3 u3 h => ?_)
  refine go_aload_n dX12_nightSize_19 rfl rfl ?_
  refine go_iload_n dX12_nightSize_20 rfl rfl ?_
  refine go_iconst (v := 5) dX12_nightSize_21 (by decide) ?_
  refine go_cVi (o := 12) (As := [.int x1, .int 5]) (st := [.int r3]) (lc := [some (.ref (gd g 12)), some (.int x1), some (.int 5)]) dX12_nightSize_22 me_X12_on rfl ob_12 qm_X12_343 rfl (Nat.le_of_ble_eq_true rfl) rfl ⟨Nat.le_of_ble_eq_true rfl, Nat.le_of_ble_eq_true rfl⟩ rfl (Nat.le_of_ble_eq_true rfl) h (fun r4 u4 h => ?_)
  refine go_isub dX12_nightSize_25 ?_
  refine go_aload_n dX12_nightSize_26 rfl rfl ?_
  refine go_iload_n dX12_nightSize_27 rfl rfl ?_
  refine go_iconst (v := 1) dX12_nightSize_28 (by decide) ?_
  refine go_cVi (o := 12) (As := [.int x1, .int 1]) (st := [.int (r3 - r4)]) (lc := [some (.ref (gd g 12)), some (.int x1), some (.int 1)]) dX12_nightSize_29 me_X12_on rfl ob_12 qm_X12_343 rfl (Nat.le_of_ble_eq_true rfl) rfl ⟨Nat.le_of_ble_eq_true rfl, Nat.le_of_ble_eq_true rfl⟩ rfl (Nat.le_of_ble_eq_true rfl) h (fun r5 u5 h => ?_)
  refine go_iadd dX12_nightSize_32 ?_
  exact go_iret dX12_nightSize_33 rfl h
set_option maxRecDepth 100000 in
set_option maxHeartbeats 4000000 in
theorem B_X12_markOf_0 {g : gp} {u : sg} {Q : Option Value → sg → Prop} (x1 : Int32) (x2 : Int32) (h : ((¬ x2 = (3 : Int32) → Go g iX12_markOf 11 [some (.ref (gd g 12)), some (.int x1), some (.int x2), none] [] u Q) ∧ (x2 = (3 : Int32) → Go g iX12_began 0 [some (.ref (gd g 12)), some (.int 22)] [] u (QV (fun u1 => Go g iX12_markOf 11 [some (.ref (gd g 12)), some (.int x1), some (.int x2), none] [] u1 Q))))) : Go g iX12_markOf 0 [some (.ref (gd g 12)), some (.int x1), some (.int x2), none] [] u Q := by
  refine go_iload_n dX12_markOf_0 rfl rfl ?_
  refine go_iconst (v := 3) dX12_markOf_1 (by decide) ?_
  refine go_icmp_ne (tgt := 11) dX12_markOf_2 (by decide) (fun hc => ?_) (fun hc => ?_)
  · replace h := h.1 hc
    exact h
  · replace h := h.2 hc
    refine go_aload_n dX12_markOf_5 rfl rfl ?_
    refine go_bipush (v := 22) dX12_markOf_6 (by decide) ?_
    refine go_cVv (o := 12) (As := [.int 22]) (st := []) (lc := [some (.ref (gd g 12)), some (.int 22)]) dX12_markOf_8 me_X12_began rfl ob_12 qm_X12_394 rfl (Nat.le_of_ble_eq_true rfl) rfl ⟨Nat.le_of_ble_eq_true rfl, Nat.le_of_ble_eq_true rfl⟩ rfl (Nat.le_of_ble_eq_true rfl) h (fun u1 h => ?_)
    exact h
set_option maxRecDepth 100000 in
set_option maxHeartbeats 4000000 in
theorem B_X12_markOf_11 {g : gp} {u : sg} {Q : Option Value → sg → Prop} (x1 : Int32) (x2 : Int32) (h : Go g iX12_isOf 0 [some (.int x2), some (.int 2)] [] u (QI (fun r1 u1 => ((r1 = (0 : Int32) → ((¬ x2 = (4 : Int32) → Go g iX12_markOf 36 [some (.ref (gd g 12)), some (.int x1), some (.int x2), none] [] u1 Q) ∧ (x2 = (4 : Int32) → Go g iX12_began 0 [some (.ref (gd g 12)), some (.int 23)] [] u1 (QV (fun u2 => Go g iX12_markOf 36 [some (.ref (gd g 12)), some (.int x1), some (.int x2), none] [] u2 Q))))) ∧ (¬ r1 = (0 : Int32) → Go g iX12_began 0 [some (.ref (gd g 12)), some (.int 21)] [] u1 (QV (fun u3 => ((¬ x2 = (4 : Int32) → Go g iX12_markOf 36 [some (.ref (gd g 12)), some (.int x1), some (.int x2), none] [] u3 Q) ∧ (x2 = (4 : Int32) → Go g iX12_began 0 [some (.ref (gd g 12)), some (.int 23)] [] u3 (QV (fun u4 => Go g iX12_markOf 36 [some (.ref (gd g 12)), some (.int x1), some (.int x2), none] [] u4 Q))))))))))) : Go g iX12_markOf 11 [some (.ref (gd g 12)), some (.int x1), some (.int x2), none] [] u Q := by
  refine go_iload_n dX12_markOf_11 rfl rfl ?_
  refine go_iconst (v := 2) dX12_markOf_12 (by decide) ?_
  refine go_cSi (As := [.int x2, .int 2]) (st := []) (lc := [some (.int x2), some (.int 2)]) dX12_markOf_13 me_X12_isOf qm_X12_388 rfl (Nat.le_of_ble_eq_true rfl) rfl ⟨Nat.le_of_ble_eq_true rfl, Nat.le_of_ble_eq_true rfl⟩ rfl (Nat.le_of_ble_eq_true rfl) h (fun r1 u1 h => ?_)
  refine go_if_eq (tgt := 25) dX12_markOf_16 (by decide) (fun hc => ?_) (fun hc => ?_)
  · replace h := h.1 hc
    refine go_iload_n dX12_markOf_25 rfl rfl ?_
    refine go_iconst (v := 4) dX12_markOf_26 (by decide) ?_
    refine go_icmp_ne (tgt := 36) dX12_markOf_27 (by decide) (fun hc => ?_) (fun hc => ?_)
    · replace h := h.1 hc
      exact h
    · replace h := h.2 hc
      refine go_aload_n dX12_markOf_30 rfl rfl ?_
      refine go_bipush (v := 23) dX12_markOf_31 (by decide) ?_
      refine go_cVv (o := 12) (As := [.int 23]) (st := []) (lc := [some (.ref (gd g 12)), some (.int 23)]) dX12_markOf_33 me_X12_began rfl ob_12 qm_X12_394 rfl (Nat.le_of_ble_eq_true rfl) rfl ⟨Nat.le_of_ble_eq_true rfl, Nat.le_of_ble_eq_true rfl⟩ rfl (Nat.le_of_ble_eq_true rfl) h (fun u2 h => ?_)
      exact h
  · replace h := h.2 hc
    refine go_aload_n dX12_markOf_19 rfl rfl ?_
    refine go_bipush (v := 21) dX12_markOf_20 (by decide) ?_
    refine go_cVv (o := 12) (As := [.int 21]) (st := []) (lc := [some (.ref (gd g 12)), some (.int 21)]) dX12_markOf_22 me_X12_began rfl ob_12 qm_X12_394 rfl (Nat.le_of_ble_eq_true rfl) rfl ⟨Nat.le_of_ble_eq_true rfl, Nat.le_of_ble_eq_true rfl⟩ rfl (Nat.le_of_ble_eq_true rfl) h (fun u3 h => ?_)
    refine go_iload_n dX12_markOf_25 rfl rfl ?_
    refine go_iconst (v := 4) dX12_markOf_26 (by decide) ?_
    refine go_icmp_ne (tgt := 36) dX12_markOf_27 (by decide) (fun hc => ?_) (fun hc => ?_)
    · replace h := h.1 hc
      exact h
    · replace h := h.2 hc
      refine go_aload_n dX12_markOf_30 rfl rfl ?_
      refine go_bipush (v := 23) dX12_markOf_31 (by decide) ?_
      refine go_cVv (o := 12) (As := [.int 23]) (st := []) (lc := [some (.ref (gd g 12)), some (.int 23)]) dX12_markOf_33 me_X12_began rfl ob_12 qm_X12_394 rfl (Nat.le_of_ble_eq_true rfl) rfl ⟨Nat.le_of_ble_eq_true rfl, Nat.le_of_ble_eq_true rfl⟩ rfl (Nat.le_of_ble_eq_true rfl) h (fun u4 h => ?_)
      exact h
set_option maxRecDepth 100000 in
set_option maxHeartbeats 4000000 in
theorem B_X12_markOf_36 {g : gp} {u : sg} {Q : Option Value → sg → Prop} (x1 : Int32) (x2 : Int32) (h : Go g iX12_began 0 [some (.ref (gd g 12)), some (.int 20)] [] u (QV (fun u1 => Go g iX12_on 0 [some (.ref (gd g 12)), some (.int x1), some (.int 2)] [] u1 (QI (fun r2 u2 => Go g iX12_isOf 0 [some (.int x2), some (.int 2)] [] u2 (QI (fun r3 u3 => ((r3 = (0 : Int32) → Go g iX12_markOf 69 [some (.ref (gd g 12)), some (.int x1), some (.int x2), none] [.int 0, .int r2] u3 Q) ∧ (¬ r3 = (0 : Int32) → Go g iX12_on 0 [some (.ref (gd g 12)), some (.int x1), some (.int 4)] [] u3 (QI (fun r4 u4 => Go g iX12_markOf 69 [some (.ref (gd g 12)), some (.int x1), some (.int x2), none] [.int (100 * r4), .int r2] u4 Q))))))))))) : Go g iX12_markOf 36 [some (.ref (gd g 12)), some (.int x1), some (.int x2), none] [] u Q := by
  refine go_aload_n dX12_markOf_36 rfl rfl ?_
  refine go_bipush (v := 20) dX12_markOf_37 (by decide) ?_
  refine go_cVv (o := 12) (As := [.int 20]) (st := []) (lc := [some (.ref (gd g 12)), some (.int 20)]) dX12_markOf_39 me_X12_began rfl ob_12 qm_X12_394 rfl (Nat.le_of_ble_eq_true rfl) rfl ⟨Nat.le_of_ble_eq_true rfl, Nat.le_of_ble_eq_true rfl⟩ rfl (Nat.le_of_ble_eq_true rfl) h (fun u1 h => ?_)
  refine go_aload_n dX12_markOf_42 rfl rfl ?_
  refine go_iload_n dX12_markOf_43 rfl rfl ?_
  refine go_iconst (v := 2) dX12_markOf_44 (by decide) ?_
  refine go_cVi (o := 12) (As := [.int x1, .int 2]) (st := []) (lc := [some (.ref (gd g 12)), some (.int x1), some (.int 2)]) dX12_markOf_45 me_X12_on rfl ob_12 qm_X12_343 rfl (Nat.le_of_ble_eq_true rfl) rfl ⟨Nat.le_of_ble_eq_true rfl, Nat.le_of_ble_eq_true rfl⟩ rfl (Nat.le_of_ble_eq_true rfl) h (fun r2 u2 h => ?_)
  refine go_iload_n dX12_markOf_48 rfl rfl ?_
  refine go_iconst (v := 2) dX12_markOf_49 (by decide) ?_
  refine go_cSi (As := [.int x2, .int 2]) (st := [.int r2]) (lc := [some (.int x2), some (.int 2)]) dX12_markOf_50 me_X12_isOf qm_X12_388 rfl (Nat.le_of_ble_eq_true rfl) rfl ⟨Nat.le_of_ble_eq_true rfl, Nat.le_of_ble_eq_true rfl⟩ rfl (Nat.le_of_ble_eq_true rfl) h (fun r3 u3 h => ?_)
  refine go_if_eq (tgt := 68) dX12_markOf_53 (by decide) (fun hc => ?_) (fun hc => ?_)
  · replace h := h.1 hc
    refine go_iconst (v := 0) dX12_markOf_68 (by decide) ?_
    exact h
  · replace h := h.2 hc
    refine go_bipush (v := 100) dX12_markOf_56 (by decide) ?_
    refine go_aload_n dX12_markOf_58 rfl rfl ?_
    refine go_iload_n dX12_markOf_59 rfl rfl ?_
    refine go_iconst (v := 4) dX12_markOf_60 (by decide) ?_
    refine go_cVi (o := 12) (As := [.int x1, .int 4]) (st := [.int 100, .int r2]) (lc := [some (.ref (gd g 12)), some (.int x1), some (.int 4)]) dX12_markOf_61 me_X12_on rfl ob_12 qm_X12_343 rfl (Nat.le_of_ble_eq_true rfl) rfl ⟨Nat.le_of_ble_eq_true rfl, Nat.le_of_ble_eq_true rfl⟩ rfl (Nat.le_of_ble_eq_true rfl) h (fun r4 u4 h => ?_)
    refine go_imul dX12_markOf_64 ?_
    refine go_goto (tgt := 69) dX12_markOf_65 (by decide) ?_
    exact h
set_option maxRecDepth 100000 in
set_option maxHeartbeats 4000000 in
theorem B_X12_markOf_69 {g : gp} {u : sg} {Q : Option Value → sg → Prop} (x1 : Int32) (x2 : Int32) (t0 : Int32) (t1 : Int32) (h : ((¬ x2 = (3 : Int32) → ((¬ x2 = (4 : Int32) → Q (some (.int (t1 + t0))) u) ∧ (x2 = (4 : Int32) → Go g iX12_nightSize 0 [some (.ref (gd g 12)), some (.int x1)] [] u (QI (fun r1 u1 => Q (some (.int ((t1 + t0) + r1))) u1))))) ∧ (x2 = (3 : Int32) → Go g iX12_on 0 [some (.ref (gd g 12)), some (.int x1), some (.int 3)] [] u (QI (fun r2 u2 => Q (some (.int ((t1 + t0) + r2))) u2))))) : Go g iX12_markOf 69 [some (.ref (gd g 12)), some (.int x1), some (.int x2), none] [.int t0, .int t1] u Q := by
  refine go_iadd dX12_markOf_69 ?_
  refine go_istore_n (lm := [some (.ref (gd g 12)), some (.int x1), some (.int x2), some (.int (t1 + t0))]) dX12_markOf_70 rfl (by decide) rfl rfl ?_
  refine go_iload_n dX12_markOf_71 rfl rfl ?_
  refine go_iconst (v := 3) dX12_markOf_72 (by decide) ?_
  refine go_icmp_ne (tgt := 87) dX12_markOf_73 (by decide) (fun hc => ?_) (fun hc => ?_)
  · replace h := h.1 hc
    refine go_iload_n dX12_markOf_87 rfl rfl ?_
    refine go_iconst (v := 4) dX12_markOf_88 (by decide) ?_
    refine go_icmp_ne (tgt := 102) dX12_markOf_89 (by decide) (fun hc => ?_) (fun hc => ?_)
    · replace h := h.1 hc
      refine go_iload_n dX12_markOf_102 rfl rfl ?_
      exact go_iret dX12_markOf_103 rfl h
    · replace h := h.2 hc
      refine go_iload_n dX12_markOf_92 rfl rfl ?_
      refine go_aload_n dX12_markOf_93 rfl rfl ?_
      refine go_iload_n dX12_markOf_94 rfl rfl ?_
      refine go_cVi (o := 12) (As := [.int x1]) (st := [.int (t1 + t0)]) (lc := [some (.ref (gd g 12)), some (.int x1)]) dX12_markOf_95 me_X12_nightSize rfl ob_12 qm_X12_397 rfl (Nat.le_of_ble_eq_true rfl) rfl ⟨Nat.le_of_ble_eq_true rfl, Nat.le_of_ble_eq_true rfl⟩ rfl (Nat.le_of_ble_eq_true rfl) h (fun r1 u1 h => ?_)
      refine go_iadd dX12_markOf_98 ?_
      refine go_goto (tgt := 103) dX12_markOf_99 (by decide) ?_
      exact go_iret dX12_markOf_103 rfl h
  · replace h := h.2 hc
    refine go_iload_n dX12_markOf_76 rfl rfl ?_
    refine go_aload_n dX12_markOf_77 rfl rfl ?_
    refine go_iload_n dX12_markOf_78 rfl rfl ?_
    refine go_iconst (v := 3) dX12_markOf_79 (by decide) ?_
    refine go_cVi (o := 12) (As := [.int x1, .int 3]) (st := [.int (t1 + t0)]) (lc := [some (.ref (gd g 12)), some (.int x1), some (.int 3)]) dX12_markOf_80 me_X12_on rfl ob_12 qm_X12_343 rfl (Nat.le_of_ble_eq_true rfl) rfl ⟨Nat.le_of_ble_eq_true rfl, Nat.le_of_ble_eq_true rfl⟩ rfl (Nat.le_of_ble_eq_true rfl) h (fun r2 u2 h => ?_)
    refine go_iadd dX12_markOf_83 ?_
    refine go_goto (tgt := 103) dX12_markOf_84 (by decide) ?_
    exact go_iret dX12_markOf_103 rfl h
set_option maxRecDepth 100000 in
set_option maxHeartbeats 4000000 in
theorem B_X12_sizeOf_0 {g : gp} {u : sg} {Q : Option Value → sg → Prop} (x1 : Int32) (x2 : Int32) (h : ((¬ x2 = (4 : Int32) → ((¬ x2 = (3 : Int32) → Go g iX12_sizeOf 22 [some (.ref (gd g 12)), some (.int x1), some (.int x2), none] [] u Q) ∧ (x2 = (3 : Int32) → Go g iX12_began 0 [some (.ref (gd g 12)), some (.int 13)] [] u (QV (fun u1 => Go g iX12_sizeOf 22 [some (.ref (gd g 12)), some (.int x1), some (.int x2), none] [] u1 Q))))) ∧ (x2 = (4 : Int32) → Go g iX12_nightSize 0 [some (.ref (gd g 12)), some (.int x1)] [] u (QI (fun r2 u2 => Q (some (.int r2)) u2))))) : Go g iX12_sizeOf 0 [some (.ref (gd g 12)), some (.int x1), some (.int x2), none] [] u Q := by
  refine go_iload_n dX12_sizeOf_0 rfl rfl ?_
  refine go_iconst (v := 4) dX12_sizeOf_1 (by decide) ?_
  refine go_icmp_ne (tgt := 11) dX12_sizeOf_2 (by decide) (fun hc => ?_) (fun hc => ?_)
  · replace h := h.1 hc
    refine go_iload_n dX12_sizeOf_11 rfl rfl ?_
    refine go_iconst (v := 3) dX12_sizeOf_12 (by decide) ?_
    refine go_icmp_ne (tgt := 22) dX12_sizeOf_13 (by decide) (fun hc => ?_) (fun hc => ?_)
    · replace h := h.1 hc
      exact h
    · replace h := h.2 hc
      refine go_aload_n dX12_sizeOf_16 rfl rfl ?_
      refine go_bipush (v := 13) dX12_sizeOf_17 (by decide) ?_
      refine go_cVv (o := 12) (As := [.int 13]) (st := []) (lc := [some (.ref (gd g 12)), some (.int 13)]) dX12_sizeOf_19 me_X12_began rfl ob_12 qm_X12_394 rfl (Nat.le_of_ble_eq_true rfl) rfl ⟨Nat.le_of_ble_eq_true rfl, Nat.le_of_ble_eq_true rfl⟩ rfl (Nat.le_of_ble_eq_true rfl) h (fun u1 h => ?_)
      exact h
  · replace h := h.2 hc
    refine go_aload_n dX12_sizeOf_5 rfl rfl ?_
    refine go_iload_n dX12_sizeOf_6 rfl rfl ?_
    refine go_cVi (o := 12) (As := [.int x1]) (st := []) (lc := [some (.ref (gd g 12)), some (.int x1)]) dX12_sizeOf_7 me_X12_nightSize rfl ob_12 qm_X12_397 rfl (Nat.le_of_ble_eq_true rfl) rfl ⟨Nat.le_of_ble_eq_true rfl, Nat.le_of_ble_eq_true rfl⟩ rfl (Nat.le_of_ble_eq_true rfl) h (fun r2 u2 h => ?_)
    exact go_iret dX12_sizeOf_10 rfl h
set_option maxRecDepth 100000 in
set_option maxHeartbeats 4000000 in
theorem B_X12_sizeOf_22 {g : gp} {u : sg} {Q : Option Value → sg → Prop} (x1 : Int32) (x2 : Int32) (h : Go g iX12_isOf 0 [some (.int x2), some (.int 2)] [] u (QI (fun r1 u1 => ((r1 = (0 : Int32) → ((¬ x2 = (1 : Int32) → Go g iX12_sizeOf 47 [some (.ref (gd g 12)), some (.int x1), some (.int x2), none] [] u1 Q) ∧ (x2 = (1 : Int32) → Go g iX12_began 0 [some (.ref (gd g 12)), some (.int 11)] [] u1 (QV (fun u2 => Go g iX12_sizeOf 47 [some (.ref (gd g 12)), some (.int x1), some (.int x2), none] [] u2 Q))))) ∧ (¬ r1 = (0 : Int32) → Go g iX12_began 0 [some (.ref (gd g 12)), some (.int 12)] [] u1 (QV (fun u3 => ((¬ x2 = (1 : Int32) → Go g iX12_sizeOf 47 [some (.ref (gd g 12)), some (.int x1), some (.int x2), none] [] u3 Q) ∧ (x2 = (1 : Int32) → Go g iX12_began 0 [some (.ref (gd g 12)), some (.int 11)] [] u3 (QV (fun u4 => Go g iX12_sizeOf 47 [some (.ref (gd g 12)), some (.int x1), some (.int x2), none] [] u4 Q))))))))))) : Go g iX12_sizeOf 22 [some (.ref (gd g 12)), some (.int x1), some (.int x2), none] [] u Q := by
  refine go_iload_n dX12_sizeOf_22 rfl rfl ?_
  refine go_iconst (v := 2) dX12_sizeOf_23 (by decide) ?_
  refine go_cSi (As := [.int x2, .int 2]) (st := []) (lc := [some (.int x2), some (.int 2)]) dX12_sizeOf_24 me_X12_isOf qm_X12_388 rfl (Nat.le_of_ble_eq_true rfl) rfl ⟨Nat.le_of_ble_eq_true rfl, Nat.le_of_ble_eq_true rfl⟩ rfl (Nat.le_of_ble_eq_true rfl) h (fun r1 u1 h => ?_)
  refine go_if_eq (tgt := 36) dX12_sizeOf_27 (by decide) (fun hc => ?_) (fun hc => ?_)
  · replace h := h.1 hc
    refine go_iload_n dX12_sizeOf_36 rfl rfl ?_
    refine go_iconst (v := 1) dX12_sizeOf_37 (by decide) ?_
    refine go_icmp_ne (tgt := 47) dX12_sizeOf_38 (by decide) (fun hc => ?_) (fun hc => ?_)
    · replace h := h.1 hc
      exact h
    · replace h := h.2 hc
      refine go_aload_n dX12_sizeOf_41 rfl rfl ?_
      refine go_bipush (v := 11) dX12_sizeOf_42 (by decide) ?_
      refine go_cVv (o := 12) (As := [.int 11]) (st := []) (lc := [some (.ref (gd g 12)), some (.int 11)]) dX12_sizeOf_44 me_X12_began rfl ob_12 qm_X12_394 rfl (Nat.le_of_ble_eq_true rfl) rfl ⟨Nat.le_of_ble_eq_true rfl, Nat.le_of_ble_eq_true rfl⟩ rfl (Nat.le_of_ble_eq_true rfl) h (fun u2 h => ?_)
      exact h
  · replace h := h.2 hc
    refine go_aload_n dX12_sizeOf_30 rfl rfl ?_
    refine go_bipush (v := 12) dX12_sizeOf_31 (by decide) ?_
    refine go_cVv (o := 12) (As := [.int 12]) (st := []) (lc := [some (.ref (gd g 12)), some (.int 12)]) dX12_sizeOf_33 me_X12_began rfl ob_12 qm_X12_394 rfl (Nat.le_of_ble_eq_true rfl) rfl ⟨Nat.le_of_ble_eq_true rfl, Nat.le_of_ble_eq_true rfl⟩ rfl (Nat.le_of_ble_eq_true rfl) h (fun u3 h => ?_)
    refine go_iload_n dX12_sizeOf_36 rfl rfl ?_
    refine go_iconst (v := 1) dX12_sizeOf_37 (by decide) ?_
    refine go_icmp_ne (tgt := 47) dX12_sizeOf_38 (by decide) (fun hc => ?_) (fun hc => ?_)
    · replace h := h.1 hc
      exact h
    · replace h := h.2 hc
      refine go_aload_n dX12_sizeOf_41 rfl rfl ?_
      refine go_bipush (v := 11) dX12_sizeOf_42 (by decide) ?_
      refine go_cVv (o := 12) (As := [.int 11]) (st := []) (lc := [some (.ref (gd g 12)), some (.int 11)]) dX12_sizeOf_44 me_X12_began rfl ob_12 qm_X12_394 rfl (Nat.le_of_ble_eq_true rfl) rfl ⟨Nat.le_of_ble_eq_true rfl, Nat.le_of_ble_eq_true rfl⟩ rfl (Nat.le_of_ble_eq_true rfl) h (fun u4 h => ?_)
      exact h
set_option maxRecDepth 100000 in
set_option maxHeartbeats 4000000 in
theorem B_X12_sizeOf_47 {g : gp} {u : sg} {Q : Option Value → sg → Prop} (x1 : Int32) (x2 : Int32) (h : Go g iX12_began 0 [some (.ref (gd g 12)), some (.int 10)] [] u (QV (fun u1 => Go g iX12_on 0 [some (.ref (gd g 12)), some (.int x1), some (.int 6)] [] u1 (QI (fun r2 u2 => Go g iX12_on 0 [some (.ref (gd g 12)), some (.int x1), some (.int 5)] [] u2 (QI (fun r3 u3 => ((¬ x2 = (1 : Int32) → Go g iX12_isOf 0 [some (.int x2), some (.int 2)] [] u3 (QI (fun r4 u4 => ((r4 = (0 : Int32) → Go g iX12_sizeOf 99 [none, none, some (.int x2), none] [.int (r2 - r3)] u4 Q) ∧ (¬ r4 = (0 : Int32) → Go g iX12_markOf 0 [some (.ref (gd g 12)), some (.int x1), some (.int x2), none] [] u4 (QI (fun r5 u5 => Go g iX12_sizeOf 99 [none, none, some (.int x2), none] [.int ((r2 - r3) + r5)] u5 Q))))))) ∧ (x2 = (1 : Int32) → Go g iX12_sizeOf 99 [none, none, some (.int x2), none] [.int (2 * (r2 - r3))] u3 Q))))))))) : Go g iX12_sizeOf 47 [some (.ref (gd g 12)), some (.int x1), some (.int x2), none] [] u Q := by
  refine go_aload_n dX12_sizeOf_47 rfl rfl ?_
  refine go_bipush (v := 10) dX12_sizeOf_48 (by decide) ?_
  refine go_cVv (o := 12) (As := [.int 10]) (st := []) (lc := [some (.ref (gd g 12)), some (.int 10)]) dX12_sizeOf_50 me_X12_began rfl ob_12 qm_X12_394 rfl (Nat.le_of_ble_eq_true rfl) rfl ⟨Nat.le_of_ble_eq_true rfl, Nat.le_of_ble_eq_true rfl⟩ rfl (Nat.le_of_ble_eq_true rfl) h (fun u1 h => ?_)
  refine go_aload_n dX12_sizeOf_53 rfl rfl ?_
  refine go_iload_n dX12_sizeOf_54 rfl rfl ?_
  refine go_bipush (v := 6) dX12_sizeOf_55 (by decide) ?_
  refine go_cVi (o := 12) (As := [.int x1, .int 6]) (st := []) (lc := [some (.ref (gd g 12)), some (.int x1), some (.int 6)]) dX12_sizeOf_57 me_X12_on rfl ob_12 qm_X12_343 rfl (Nat.le_of_ble_eq_true rfl) rfl ⟨Nat.le_of_ble_eq_true rfl, Nat.le_of_ble_eq_true rfl⟩ rfl (Nat.le_of_ble_eq_true rfl) h (fun r2 u2 h => ?_)
  refine go_aload_n dX12_sizeOf_60 rfl rfl ?_
  refine go_iload_n dX12_sizeOf_61 rfl rfl ?_
  refine go_iconst (v := 5) dX12_sizeOf_62 (by decide) ?_
  refine go_cVi (o := 12) (As := [.int x1, .int 5]) (st := [.int r2]) (lc := [some (.ref (gd g 12)), some (.int x1), some (.int 5)]) dX12_sizeOf_63 me_X12_on rfl ob_12 qm_X12_343 rfl (Nat.le_of_ble_eq_true rfl) rfl ⟨Nat.le_of_ble_eq_true rfl, Nat.le_of_ble_eq_true rfl⟩ rfl (Nat.le_of_ble_eq_true rfl) h (fun r3 u3 h => ?_)
  refine go_isub dX12_sizeOf_66 ?_
  refine go_istore_n (lm := [some (.ref (gd g 12)), some (.int x1), some (.int x2), some (.int (r2 - r3))]) dX12_sizeOf_67 rfl (by decide) rfl rfl ?_
  refine go_iload_n dX12_sizeOf_68 rfl rfl ?_
  refine go_iconst (v := 1) dX12_sizeOf_69 (by decide) ?_
  refine go_icmp_ne (tgt := 79) dX12_sizeOf_70 (by decide) (fun hc => ?_) (fun hc => ?_)
  · replace h := h.1 hc
    refine go_iload_n dX12_sizeOf_79 rfl rfl ?_
    refine go_iconst (v := 2) dX12_sizeOf_80 (by decide) ?_
    refine go_cSi (As := [.int x2, .int 2]) (st := []) (lc := [some (.int x2), some (.int 2)]) dX12_sizeOf_81 me_X12_isOf qm_X12_388 rfl (Nat.le_of_ble_eq_true rfl) rfl ⟨Nat.le_of_ble_eq_true rfl, Nat.le_of_ble_eq_true rfl⟩ rfl (Nat.le_of_ble_eq_true rfl) h (fun r4 u4 h => ?_)
    refine go_if_eq (tgt := 98) dX12_sizeOf_84 (by decide) (fun hc => ?_) (fun hc => ?_)
    · replace h := h.1 hc
      refine go_iload_n dX12_sizeOf_98 rfl rfl ?_
      refine go_mask [false, false, true, false] rfl ?_
      exact h
    · replace h := h.2 hc
      refine go_iload_n dX12_sizeOf_87 rfl rfl ?_
      refine go_aload_n dX12_sizeOf_88 rfl rfl ?_
      refine go_iload_n dX12_sizeOf_89 rfl rfl ?_
      refine go_iload_n dX12_sizeOf_90 rfl rfl ?_
      refine go_cVi (o := 12) (As := [.int x1, .int x2]) (st := [.int (r2 - r3)]) (lc := [some (.ref (gd g 12)), some (.int x1), some (.int x2), none]) dX12_sizeOf_91 me_X12_markOf rfl ob_12 qm_X12_400 rfl (Nat.le_of_ble_eq_true rfl) rfl ⟨Nat.le_of_ble_eq_true rfl, Nat.le_of_ble_eq_true rfl⟩ rfl (Nat.le_of_ble_eq_true rfl) h (fun r5 u5 h => ?_)
      refine go_iadd dX12_sizeOf_94 ?_
      refine go_goto (tgt := 99) dX12_sizeOf_95 (by decide) ?_
      refine go_mask [false, false, true, false] rfl ?_
      exact h
  · replace h := h.2 hc
    refine go_iconst (v := 2) dX12_sizeOf_73 (by decide) ?_
    refine go_iload_n dX12_sizeOf_74 rfl rfl ?_
    refine go_imul dX12_sizeOf_75 ?_
    refine go_goto (tgt := 99) dX12_sizeOf_76 (by decide) ?_
    refine go_mask [false, false, true, false] rfl ?_
    exact h
set_option maxRecDepth 100000 in
set_option maxHeartbeats 4000000 in
theorem B_X12_sizeOf_99 {g : gp} {u : sg} {Q : Option Value → sg → Prop} (x2 : Int32) (t0 : Int32) (h : ((¬ x2 = (3 : Int32) → Q (some (.int t0)) u) ∧ (x2 = (3 : Int32) → Q (some (.int (-t0))) u))) : Go g iX12_sizeOf 99 [none, none, some (.int x2), none] [.int t0] u Q := by
  refine go_istore_n (lm := [none, none, some (.int x2), some (.int t0)]) dX12_sizeOf_99 rfl (by decide) rfl rfl ?_
  refine go_iload_n dX12_sizeOf_100 rfl rfl ?_
  refine go_iconst (v := 3) dX12_sizeOf_101 (by decide) ?_
  refine go_icmp_ne (tgt := 110) dX12_sizeOf_102 (by decide) (fun hc => ?_) (fun hc => ?_)
  · replace h := h.1 hc
    refine go_iload_n dX12_sizeOf_110 rfl rfl ?_
    exact go_iret dX12_sizeOf_111 rfl h
  · replace h := h.2 hc
    refine go_iload_n dX12_sizeOf_105 rfl rfl ?_
    refine go_ineg dX12_sizeOf_106 ?_
    refine go_goto (tgt := 111) dX12_sizeOf_107 (by decide) ?_
    exact go_iret dX12_sizeOf_111 rfl h
set_option maxRecDepth 100000 in
set_option maxHeartbeats 4000000 in
theorem B_X12_ask_0 {g : gp} {u : sg} {Q : Option Value → sg → Prop} (x1 : Int32) (x2 : Int32) (h : Go g iX12_isPass 0 [some (.ref (gd g 12)), some (.int x1)] [] (sI u 12 0 (0 : Int32)) (QI (fun r1 u1 => ((r1 = (0 : Int32) → Q (some (.int (-1000001 : Int32))) u1) ∧ (¬ r1 = (0 : Int32) → Go g iX12_in 0 [some (.long (x2.toInt64)), none, some (.long 0), none, some (.long 1), none] [] u1 (QI (fun r2 u2 => ((¬ r2 = (0 : Int32) → Go g iX12_kindOf 0 [some (.ref (gd g 12)), some (.int x1), none] [] (sI u2 12 60 (0 : Int32)) (QI (fun r3 u3 => ((¬ x2 = (0 : Int32) → Go g iX12_markOf 0 [some (.ref (gd g 12)), some (.int x1), some (.int r3), none] [] u3 (QI (fun r4 u4 => Q (some (.int r4)) u4))) ∧ (x2 = (0 : Int32) → Go g iX12_sizeOf 0 [some (.ref (gd g 12)), some (.int x1), some (.int r3), none] [] u3 (QI (fun r5 u5 => Q (some (.int r5)) u5))))))) ∧ (r2 = (0 : Int32) → Q (some (.int (-1000001 : Int32))) u2))))))))) : Go g iX12_ask 0 [some (.ref (gd g 12)), some (.int x1), some (.int x2), none] [] u Q := by
  refine go_aload_n dX12_ask_0 rfl rfl ?_
  refine go_iconst (v := 0) dX12_ask_1 (by decide) ?_
  refine go_put (k := 0) dX12_ask_2 ob_12 (by decide) qf_X12_1 rfl rfl pf_I ?_
  refine go_aload_n dX12_ask_5 rfl rfl ?_
  refine go_iload_n dX12_ask_6 rfl rfl ?_
  refine go_cVi (o := 12) (As := [.int x1]) (st := []) (lc := [some (.ref (gd g 12)), some (.int x1)]) dX12_ask_7 me_X12_isPass rfl ob_12 qm_X12_353 rfl (Nat.le_of_ble_eq_true rfl) rfl ⟨Nat.le_of_ble_eq_true rfl, Nat.le_of_ble_eq_true rfl⟩ rfl (Nat.le_of_ble_eq_true rfl) h (fun r1 u1 h => ?_)
  refine go_if_eq (tgt := 23) dX12_ask_10 (by decide) (fun hc => ?_) (fun hc => ?_)
  · replace h := h.1 hc
    refine go_ldc dX12_ask_23 qc_X12_142 ?_
    exact go_iret dX12_ask_25 rfl h
  · replace h := h.2 hc
    refine go_iload_n dX12_ask_13 rfl rfl ?_
    refine go_i2l dX12_ask_14 ?_
    refine go_lconst (v := 0) dX12_ask_15 (by decide) ?_
    refine go_lconst (v := 1) dX12_ask_16 (by decide) ?_
    refine go_cSi (As := [.long (x2.toInt64), .long 0, .long 1]) (st := []) (lc := [some (.long (x2.toInt64)), none, some (.long 0), none, some (.long 1), none]) dX12_ask_17 me_X12_in qm_X12_132 rfl (Nat.le_of_ble_eq_true rfl) rfl ⟨Nat.le_of_ble_eq_true rfl, Nat.le_of_ble_eq_true rfl⟩ rfl (Nat.le_of_ble_eq_true rfl) h (fun r2 u2 h => ?_)
    refine go_if_ne (tgt := 26) dX12_ask_20 (by decide) (fun hc => ?_) (fun hc => ?_)
    · replace h := h.1 hc
      refine go_aload_n dX12_ask_26 rfl rfl ?_
      refine go_iconst (v := 0) dX12_ask_27 (by decide) ?_
      refine go_put (k := 60) dX12_ask_28 ob_12 (by decide) qf_X12_391 rfl rfl pf_I ?_
      refine go_aload_n dX12_ask_31 rfl rfl ?_
      refine go_iload_n dX12_ask_32 rfl rfl ?_
      refine go_cVi (o := 12) (As := [.int x1]) (st := []) (lc := [some (.ref (gd g 12)), some (.int x1), none]) dX12_ask_33 me_X12_kindOf rfl ob_12 qm_X12_385 rfl (Nat.le_of_ble_eq_true rfl) rfl ⟨Nat.le_of_ble_eq_true rfl, Nat.le_of_ble_eq_true rfl⟩ rfl (Nat.le_of_ble_eq_true rfl) h (fun r3 u3 h => ?_)
      refine go_istore_n (lm := [some (.ref (gd g 12)), some (.int x1), some (.int x2), some (.int r3)]) dX12_ask_36 rfl (by decide) rfl rfl ?_
      refine go_iload_n dX12_ask_37 rfl rfl ?_
      refine go_if_ne (tgt := 50) dX12_ask_38 (by decide) (fun hc => ?_) (fun hc => ?_)
      · replace h := h.1 hc
        refine go_aload_n dX12_ask_50 rfl rfl ?_
        refine go_iload_n dX12_ask_51 rfl rfl ?_
        refine go_iload_n dX12_ask_52 rfl rfl ?_
        refine go_cVi (o := 12) (As := [.int x1, .int r3]) (st := []) (lc := [some (.ref (gd g 12)), some (.int x1), some (.int r3), none]) dX12_ask_53 me_X12_markOf rfl ob_12 qm_X12_400 rfl (Nat.le_of_ble_eq_true rfl) rfl ⟨Nat.le_of_ble_eq_true rfl, Nat.le_of_ble_eq_true rfl⟩ rfl (Nat.le_of_ble_eq_true rfl) h (fun r4 u4 h => ?_)
        exact go_iret dX12_ask_56 rfl h
      · replace h := h.2 hc
        refine go_aload_n dX12_ask_41 rfl rfl ?_
        refine go_iload_n dX12_ask_42 rfl rfl ?_
        refine go_iload_n dX12_ask_43 rfl rfl ?_
        refine go_cVi (o := 12) (As := [.int x1, .int r3]) (st := []) (lc := [some (.ref (gd g 12)), some (.int x1), some (.int r3), none]) dX12_ask_44 me_X12_sizeOf rfl ob_12 qm_X12_403 rfl (Nat.le_of_ble_eq_true rfl) rfl ⟨Nat.le_of_ble_eq_true rfl, Nat.le_of_ble_eq_true rfl⟩ rfl (Nat.le_of_ble_eq_true rfl) h (fun r5 u5 h => ?_)
        refine go_goto (tgt := 56) dX12_ask_47 (by decide) ?_
        exact go_iret dX12_ask_56 rfl h
    · replace h := h.2 hc
      refine go_ldc dX12_ask_23 qc_X12_142 ?_
      exact go_iret dX12_ask_25 rfl h
set_option maxRecDepth 100000 in
set_option maxHeartbeats 4000000 in
theorem B_X12_trace_0 {g : gp} {u : sg} {Q : Option Value → sg → Prop} (x1 : Int32) (h : Go g iX12_in 0 [some (.long (x1.toInt64)), none, some (.long 0), none, some (.long (((u.1 12 60) - 1).toInt64)), none] [] (sI u 12 0 (0 : Int32)) (QI (fun r1 u1 => ((r1 = (0 : Int32) → Q (some (.int (-1000000 : Int32))) u1) ∧ (¬ r1 = (0 : Int32) → (vp_in x1 16 ∧ Q (some (.int (u1.2 88 x1.toNatClampNeg))) u1)))))) : Go g iX12_trace 0 [some (.ref (gd g 12)), some (.int x1)] [] u Q := by
  refine go_aload_n dX12_trace_0 rfl rfl ?_
  refine go_iconst (v := 0) dX12_trace_1 (by decide) ?_
  refine go_put (k := 0) dX12_trace_2 ob_12 (by decide) qf_X12_1 rfl rfl pf_I ?_
  refine go_iload_n dX12_trace_5 rfl rfl ?_
  refine go_i2l dX12_trace_6 ?_
  refine go_lconst (v := 0) dX12_trace_7 (by decide) ?_
  refine go_aload_n dX12_trace_8 rfl rfl ?_
  refine go_get (k := 60) (v := .int (u.1 12 60)) dX12_trace_9 ob_12 (by decide) qf_X12_391 rfl ?_
  refine go_iconst (v := 1) dX12_trace_12 (by decide) ?_
  refine go_isub dX12_trace_13 ?_
  refine go_i2l dX12_trace_14 ?_
  refine go_cSi (As := [.long (x1.toInt64), .long 0, .long (((u.1 12 60) - 1).toInt64)]) (st := []) (lc := [some (.long (x1.toInt64)), none, some (.long 0), none, some (.long (((u.1 12 60) - 1).toInt64)), none]) dX12_trace_15 me_X12_in qm_X12_132 rfl (Nat.le_of_ble_eq_true rfl) rfl ⟨Nat.le_of_ble_eq_true rfl, Nat.le_of_ble_eq_true rfl⟩ rfl (Nat.le_of_ble_eq_true rfl) h (fun r1 u1 h => ?_)
  refine go_if_eq (tgt := 30) dX12_trace_18 (by decide) (fun hc => ?_) (fun hc => ?_)
  · replace h := h.1 hc
    refine go_ldc dX12_trace_30 qc_X12_129 ?_
    exact go_iret dX12_trace_32 rfl h
  · replace h := h.2 hc
    refine go_aload_n dX12_trace_21 rfl rfl ?_
    refine go_get (k := 59) (v := .ref (gd g 88)) dX12_trace_22 ob_12 (by decide) qf_X12_126 rfl ?_
    refine go_iload_n dX12_trace_25 rfl rfl ?_
    obtain ⟨hi, h⟩ := h
    refine go_ild (a := 88) (n := 16) dX12_trace_26 (by decide) (by decide) rfl hi ?_
    refine go_goto (tgt := 32) dX12_trace_27 (by decide) ?_
    exact go_iret dX12_trace_32 rfl h
set_option maxRecDepth 100000 in
set_option maxHeartbeats 4000000 in
theorem B_X12_count_0 {g : gp} {u : sg} {Q : Option Value → sg → Prop} (x1 : Int32) (h : ((x1 = 0 → Go g iX12_count 62 [some (.ref (gd g 12)), none, some (.int 0), some (.int 0)] [] (sI u 12 0 (0 : Int32)) Q) ∧ (x1 = 1 → Q (some (.int (u.1 12 10))) (sI u 12 0 (0 : Int32))) ∧ (x1 = 2 → Q (some (.int (u.1 12 26))) (sI u 12 0 (0 : Int32))) ∧ (x1 = 3 → Q (some (.int (u.1 12 28))) (sI u 12 0 (0 : Int32))) ∧ (x1 = 4 → Q (some (.int (u.1 12 42))) (sI u 12 0 (0 : Int32))) ∧ (x1 = 5 → Go g iX12_count 115 [some (.ref (gd g 12)), some (.int x1), some (.int 0), some (.int 0)] [] (sI u 12 0 (0 : Int32)) Q) ∧ (x1 = 6 → Go g iX12_count 115 [some (.ref (gd g 12)), some (.int x1), some (.int 0), some (.int 0)] [] (sI u 12 0 (0 : Int32)) Q) ∧ (x1 = 7 → Go g iX12_count 162 [some (.ref (gd g 12)), none, some (.int 0), some (.int 0)] [] (sI u 12 0 (0 : Int32)) Q) ∧ (x1 = 8 → Q (some (.int (u.1 12 17))) (sI u 12 0 (0 : Int32))) ∧ (¬ x1 = 0 → ¬ x1 = 1 → ¬ x1 = 2 → ¬ x1 = 3 → ¬ x1 = 4 → ¬ x1 = 5 → ¬ x1 = 6 → ¬ x1 = 7 → ¬ x1 = 8 → Q (some (.int (-1000001 : Int32))) (sI u 12 0 (0 : Int32))))) : Go g iX12_count 0 [some (.ref (gd g 12)), some (.int x1), none, none] [] u Q := by
  refine go_aload_n dX12_count_0 rfl rfl ?_
  refine go_iconst (v := 0) dX12_count_1 (by decide) ?_
  refine go_put (k := 0) dX12_count_2 ob_12 (by decide) qf_X12_1 rfl rfl pf_I ?_
  refine go_iconst (v := 0) dX12_count_5 (by decide) ?_
  refine go_istore_n (lm := [some (.ref (gd g 12)), some (.int x1), some (.int 0), none]) dX12_count_6 rfl (by decide) rfl rfl ?_
  refine go_iload_n dX12_count_7 rfl rfl ?_
  by_cases hc0 : x1 = 0
  · replace h := h.1 hc0
    refine go_tabIn (off := 52) (tgt := 60) dX12_count_8 (by rw [hc0]; decide) (by rw [hc0]; decide) (by rw [hc0]; decide) (by decide) ?_
    refine go_iconst (v := 0) dX12_count_60 (by decide) ?_
    refine go_istore_n (lm := [some (.ref (gd g 12)), some (.int x1), some (.int 0), some (.int 0)]) dX12_count_61 rfl (by decide) rfl rfl ?_
    refine go_mask [true, false, true, true] rfl ?_
    exact h
  replace h := h.2
  by_cases hc1 : x1 = 1
  · replace h := h.1 hc1
    refine go_tabIn (off := 85) (tgt := 93) dX12_count_8 (by rw [hc1]; decide) (by rw [hc1]; decide) (by rw [hc1]; decide) (by decide) ?_
    refine go_aload_n dX12_count_93 rfl rfl ?_
    refine go_get (k := 10) (v := .int (u.1 12 10)) dX12_count_94 ob_12 (by decide) qf_X12_242 rfl ?_
    exact go_iret dX12_count_97 rfl h
  replace h := h.2
  by_cases hc2 : x1 = 2
  · replace h := h.1 hc2
    refine go_tabIn (off := 90) (tgt := 98) dX12_count_8 (by rw [hc2]; decide) (by rw [hc2]; decide) (by rw [hc2]; decide) (by decide) ?_
    refine go_aload_n dX12_count_98 rfl rfl ?_
    refine go_get (k := 26) (v := .int (u.1 12 26)) dX12_count_99 ob_12 (by decide) qf_X12_287 rfl ?_
    exact go_iret dX12_count_102 rfl h
  replace h := h.2
  by_cases hc3 : x1 = 3
  · replace h := h.1 hc3
    refine go_tabIn (off := 95) (tgt := 103) dX12_count_8 (by rw [hc3]; decide) (by rw [hc3]; decide) (by rw [hc3]; decide) (by decide) ?_
    refine go_aload_n dX12_count_103 rfl rfl ?_
    refine go_get (k := 28) (v := .int (u.1 12 28)) dX12_count_104 ob_12 (by decide) qf_X12_305 rfl ?_
    exact go_iret dX12_count_107 rfl h
  replace h := h.2
  by_cases hc4 : x1 = 4
  · replace h := h.1 hc4
    refine go_tabIn (off := 100) (tgt := 108) dX12_count_8 (by rw [hc4]; decide) (by rw [hc4]; decide) (by rw [hc4]; decide) (by decide) ?_
    refine go_aload_n dX12_count_108 rfl rfl ?_
    refine go_get (k := 42) (v := .int (u.1 12 42)) dX12_count_109 ob_12 (by decide) qf_X12_333 rfl ?_
    exact go_iret dX12_count_112 rfl h
  replace h := h.2
  by_cases hc5 : x1 = 5
  · replace h := h.1 hc5
    refine go_tabIn (off := 105) (tgt := 113) dX12_count_8 (by rw [hc5]; decide) (by rw [hc5]; decide) (by rw [hc5]; decide) (by decide) ?_
    refine go_iconst (v := 0) dX12_count_113 (by decide) ?_
    refine go_istore_n (lm := [some (.ref (gd g 12)), some (.int x1), some (.int 0), some (.int 0)]) dX12_count_114 rfl (by decide) rfl rfl ?_
    exact h
  replace h := h.2
  by_cases hc6 : x1 = 6
  · replace h := h.1 hc6
    refine go_tabIn (off := 105) (tgt := 113) dX12_count_8 (by rw [hc6]; decide) (by rw [hc6]; decide) (by rw [hc6]; decide) (by decide) ?_
    refine go_iconst (v := 0) dX12_count_113 (by decide) ?_
    refine go_istore_n (lm := [some (.ref (gd g 12)), some (.int x1), some (.int 0), some (.int 0)]) dX12_count_114 rfl (by decide) rfl rfl ?_
    exact h
  replace h := h.2
  by_cases hc7 : x1 = 7
  · replace h := h.1 hc7
    refine go_tabIn (off := 152) (tgt := 160) dX12_count_8 (by rw [hc7]; decide) (by rw [hc7]; decide) (by rw [hc7]; decide) (by decide) ?_
    refine go_iconst (v := 0) dX12_count_160 (by decide) ?_
    refine go_istore_n (lm := [some (.ref (gd g 12)), some (.int x1), some (.int 0), some (.int 0)]) dX12_count_161 rfl (by decide) rfl rfl ?_
    refine go_mask [true, false, true, true] rfl ?_
    exact h
  replace h := h.2
  by_cases hc8 : x1 = 8
  · replace h := h.1 hc8
    refine go_tabIn (off := 187) (tgt := 195) dX12_count_8 (by rw [hc8]; decide) (by rw [hc8]; decide) (by rw [hc8]; decide) (by decide) ?_
    refine go_aload_n dX12_count_195 rfl rfl ?_
    refine go_get (k := 17) (v := .int (u.1 12 17)) dX12_count_196 ob_12 (by decide) qf_X12_167 rfl ?_
    exact go_iret dX12_count_199 rfl h
  replace h := h.2
  replace h := h hc0 hc1 hc2 hc3 hc4 hc5 hc6 hc7 hc8
  refine go_tabOut (tgt := 200) dX12_count_8 (by have e0 : x1.toInt ≠ 0 := tab_ne hc0; have e1 : x1.toInt ≠ 1 := tab_ne hc1; have e2 : x1.toInt ≠ 2 := tab_ne hc2; have e3 : x1.toInt ≠ 3 := tab_ne hc3; have e4 : x1.toInt ≠ 4 := tab_ne hc4; have e5 : x1.toInt ≠ 5 := tab_ne hc5; have e6 : x1.toInt ≠ 6 := tab_ne hc6; have e7 : x1.toInt ≠ 7 := tab_ne hc7; have e8 : x1.toInt ≠ 8 := tab_ne hc8; omega) (by decide) ?_
  refine go_ldc dX12_count_200 qc_X12_142 ?_
  exact go_iret dX12_count_202 rfl h
set_option maxRecDepth 100000 in
set_option maxHeartbeats 4000000 in
theorem B_X12_count_62 {g : gp} {u : sg} {Q : Option Value → sg → Prop} (x2 : Int32) (x3 : Int32) (h : (((8 : Int32) ≤ x3 → Q (some (.int x2)) u) ∧ (¬ (8 : Int32) ≤ x3 → (vp_in x3 8 ∧ (((u.2 52 x3.toNatClampNeg) < (0 : Int32) → Go g iX12_count 62 [some (.ref (gd g 12)), none, some (.int (x2 + 0)), some (.int (x3 + 1))] [] u Q) ∧ (¬ (u.2 52 x3.toNatClampNeg) < (0 : Int32) → Go g iX12_count 62 [some (.ref (gd g 12)), none, some (.int (x2 + 1)), some (.int (x3 + 1))] [] u Q)))))) : Go g iX12_count 62 [some (.ref (gd g 12)), none, some (.int x2), some (.int x3)] [] u Q := by
  refine go_iload_n dX12_count_62 rfl rfl ?_
  refine go_bipush (v := 8) dX12_count_63 (by decide) ?_
  refine go_icmp_ge (tgt := 91) dX12_count_65 (by decide) (fun hc => ?_) (fun hc => ?_)
  · replace h := h.1 hc
    refine go_iload_n dX12_count_91 rfl rfl ?_
    exact go_iret dX12_count_92 rfl h
  · replace h := h.2 hc
    refine go_iload_n dX12_count_68 rfl rfl ?_
    refine go_aload_n dX12_count_69 rfl rfl ?_
    refine go_get (k := 2) (v := .ref (gd g 52)) dX12_count_70 ob_12 (by decide) qf_X12_17 rfl ?_
    refine go_iload_n dX12_count_73 rfl rfl ?_
    obtain ⟨hi, h⟩ := h
    refine go_ild (a := 52) (n := 8) dX12_count_74 (by decide) (by decide) rfl hi ?_
    refine go_if_lt (tgt := 82) dX12_count_75 (by decide) (fun hc => ?_) (fun hc => ?_)
    · replace h := h.1 hc
      refine go_iconst (v := 0) dX12_count_82 (by decide) ?_
      refine go_iadd dX12_count_83 ?_
      refine go_istore_n (lm := [some (.ref (gd g 12)), none, some (.int (x2 + 0)), some (.int x3)]) dX12_count_84 rfl (by decide) rfl rfl ?_
      refine go_iinc (v := x3 + 1) (lm := [some (.ref (gd g 12)), none, some (.int (x2 + 0)), some (.int (x3 + 1))]) dX12_count_85 rfl rfl (by decide) rfl rfl ?_
      refine go_goto (tgt := 62) dX12_count_88 (by decide) ?_
      exact h
    · replace h := h.2 hc
      refine go_iconst (v := 1) dX12_count_78 (by decide) ?_
      refine go_goto (tgt := 83) dX12_count_79 (by decide) ?_
      refine go_iadd dX12_count_83 ?_
      refine go_istore_n (lm := [some (.ref (gd g 12)), none, some (.int (x2 + 1)), some (.int x3)]) dX12_count_84 rfl (by decide) rfl rfl ?_
      refine go_iinc (v := x3 + 1) (lm := [some (.ref (gd g 12)), none, some (.int (x2 + 1)), some (.int (x3 + 1))]) dX12_count_85 rfl rfl (by decide) rfl rfl ?_
      refine go_goto (tgt := 62) dX12_count_88 (by decide) ?_
      exact h
set_option maxRecDepth 100000 in
set_option maxHeartbeats 4000000 in
theorem B_X12_count_115 {g : gp} {u : sg} {Q : Option Value → sg → Prop} (x1 : Int32) (x2 : Int32) (x3 : Int32) (h : (((u.1 12 42) ≤ x3 → Q (some (.int x2)) u) ∧ (¬ (u.1 12 42) ≤ x3 → Go g iX12_kindOf 0 [some (.ref (gd g 12)), some (.int x3), none] [] u (QI (fun r1 u1 => ((¬ x1 = (5 : Int32) → Go g iX12_count 139 [some (.ref (gd g 12)), some (.int x1), none, some (.int x3)] [.int 3, .int r1, .int x2] u1 Q) ∧ (x1 = (5 : Int32) → Go g iX12_count 139 [some (.ref (gd g 12)), some (.int x1), none, some (.int x3)] [.int 2, .int r1, .int x2] u1 Q))))))) : Go g iX12_count 115 [some (.ref (gd g 12)), some (.int x1), some (.int x2), some (.int x3)] [] u Q := by
  refine go_iload_n dX12_count_115 rfl rfl ?_
  refine go_aload_n dX12_count_116 rfl rfl ?_
  refine go_get (k := 42) (v := .int (u.1 12 42)) dX12_count_117 ob_12 (by decide) qf_X12_333 rfl ?_
  refine go_icmp_ge (tgt := 158) dX12_count_120 (by decide) (fun hc => ?_) (fun hc => ?_)
  · replace h := h.1 hc
    refine go_iload_n dX12_count_158 rfl rfl ?_
    exact go_iret dX12_count_159 rfl h
  · replace h := h.2 hc
    refine go_iload_n dX12_count_123 rfl rfl ?_
    refine go_aload_n dX12_count_124 rfl rfl ?_
    refine go_iload_n dX12_count_125 rfl rfl ?_
    refine go_cVi (o := 12) (As := [.int x3]) (st := [.int x2]) (lc := [some (.ref (gd g 12)), some (.int x3), none]) dX12_count_126 me_X12_kindOf rfl ob_12 qm_X12_385 rfl (Nat.le_of_ble_eq_true rfl) rfl ⟨Nat.le_of_ble_eq_true rfl, Nat.le_of_ble_eq_true rfl⟩ rfl (Nat.le_of_ble_eq_true rfl) h (fun r1 u1 h => ?_)
    refine go_iload_n dX12_count_129 rfl rfl ?_
    refine go_iconst (v := 5) dX12_count_130 (by decide) ?_
    refine go_icmp_ne (tgt := 138) dX12_count_131 (by decide) (fun hc => ?_) (fun hc => ?_)
    · replace h := h.1 hc
      refine go_iconst (v := 3) dX12_count_138 (by decide) ?_
      refine go_mask [true, true, false, true] rfl ?_
      exact h
    · replace h := h.2 hc
      refine go_iconst (v := 2) dX12_count_134 (by decide) ?_
      refine go_goto (tgt := 139) dX12_count_135 (by decide) ?_
      refine go_mask [true, true, false, true] rfl ?_
      exact h
set_option maxRecDepth 100000 in
set_option maxHeartbeats 4000000 in
theorem B_X12_count_139 {g : gp} {u : sg} {Q : Option Value → sg → Prop} (x1 : Int32) (x3 : Int32) (t0 : Int32) (t1 : Int32) (t2 : Int32) (h : Go g iX12_isOf 0 [some (.int t1), some (.int t0)] [] u (QI (fun r1 u1 => ((r1 = (0 : Int32) → Go g iX12_count 115 [some (.ref (gd g 12)), some (.int x1), some (.int (t2 + 0)), some (.int (x3 + 1))] [] u1 Q) ∧ (¬ r1 = (0 : Int32) → Go g iX12_count 115 [some (.ref (gd g 12)), some (.int x1), some (.int (t2 + 1)), some (.int (x3 + 1))] [] u1 Q))))) : Go g iX12_count 139 [some (.ref (gd g 12)), some (.int x1), none, some (.int x3)] [.int t0, .int t1, .int t2] u Q := by
  refine go_cSi (As := [.int t1, .int t0]) (st := [.int t2]) (lc := [some (.int t1), some (.int t0)]) dX12_count_139 me_X12_isOf qm_X12_388 rfl (Nat.le_of_ble_eq_true rfl) rfl ⟨Nat.le_of_ble_eq_true rfl, Nat.le_of_ble_eq_true rfl⟩ rfl (Nat.le_of_ble_eq_true rfl) h (fun r1 u1 h => ?_)
  refine go_if_eq (tgt := 149) dX12_count_142 (by decide) (fun hc => ?_) (fun hc => ?_)
  · replace h := h.1 hc
    refine go_iconst (v := 0) dX12_count_149 (by decide) ?_
    refine go_iadd dX12_count_150 ?_
    refine go_istore_n (lm := [some (.ref (gd g 12)), some (.int x1), some (.int (t2 + 0)), some (.int x3)]) dX12_count_151 rfl (by decide) rfl rfl ?_
    refine go_iinc (v := x3 + 1) (lm := [some (.ref (gd g 12)), some (.int x1), some (.int (t2 + 0)), some (.int (x3 + 1))]) dX12_count_152 rfl rfl (by decide) rfl rfl ?_
    refine go_goto (tgt := 115) dX12_count_155 (by decide) ?_
    exact h
  · replace h := h.2 hc
    refine go_iconst (v := 1) dX12_count_145 (by decide) ?_
    refine go_goto (tgt := 150) dX12_count_146 (by decide) ?_
    refine go_iadd dX12_count_150 ?_
    refine go_istore_n (lm := [some (.ref (gd g 12)), some (.int x1), some (.int (t2 + 1)), some (.int x3)]) dX12_count_151 rfl (by decide) rfl rfl ?_
    refine go_iinc (v := x3 + 1) (lm := [some (.ref (gd g 12)), some (.int x1), some (.int (t2 + 1)), some (.int (x3 + 1))]) dX12_count_152 rfl rfl (by decide) rfl rfl ?_
    refine go_goto (tgt := 115) dX12_count_155 (by decide) ?_
    exact h
set_option maxRecDepth 100000 in
set_option maxHeartbeats 4000000 in
theorem B_X12_count_162 {g : gp} {u : sg} {Q : Option Value → sg → Prop} (x2 : Int32) (x3 : Int32) (h : (((8 : Int32) ≤ x3 → Q (some (.int x2)) u) ∧ (¬ (8 : Int32) ≤ x3 → (vp_in x3 8 ∧ (((u.2 83 x3.toNatClampNeg) = (-1000000 : Int32) → Go g iX12_count 162 [some (.ref (gd g 12)), none, some (.int (x2 + 0)), some (.int (x3 + 1))] [] u Q) ∧ (¬ (u.2 83 x3.toNatClampNeg) = (-1000000 : Int32) → Go g iX12_count 162 [some (.ref (gd g 12)), none, some (.int (x2 + 1)), some (.int (x3 + 1))] [] u Q)))))) : Go g iX12_count 162 [some (.ref (gd g 12)), none, some (.int x2), some (.int x3)] [] u Q := by
  refine go_iload_n dX12_count_162 rfl rfl ?_
  refine go_bipush (v := 8) dX12_count_163 (by decide) ?_
  refine go_icmp_ge (tgt := 193) dX12_count_165 (by decide) (fun hc => ?_) (fun hc => ?_)
  · replace h := h.1 hc
    refine go_iload_n dX12_count_193 rfl rfl ?_
    exact go_iret dX12_count_194 rfl h
  · replace h := h.2 hc
    refine go_iload_n dX12_count_168 rfl rfl ?_
    refine go_aload_n dX12_count_169 rfl rfl ?_
    refine go_get (k := 53) (v := .ref (gd g 83)) dX12_count_170 ob_12 (by decide) qf_X12_111 rfl ?_
    refine go_iload_n dX12_count_173 rfl rfl ?_
    obtain ⟨hi, h⟩ := h
    refine go_ild (a := 83) (n := 8) dX12_count_174 (by decide) (by decide) rfl hi ?_
    refine go_ldc dX12_count_175 qc_X12_129 ?_
    refine go_icmp_eq (tgt := 184) dX12_count_177 (by decide) (fun hc => ?_) (fun hc => ?_)
    · replace h := h.1 hc
      refine go_iconst (v := 0) dX12_count_184 (by decide) ?_
      refine go_iadd dX12_count_185 ?_
      refine go_istore_n (lm := [some (.ref (gd g 12)), none, some (.int (x2 + 0)), some (.int x3)]) dX12_count_186 rfl (by decide) rfl rfl ?_
      refine go_iinc (v := x3 + 1) (lm := [some (.ref (gd g 12)), none, some (.int (x2 + 0)), some (.int (x3 + 1))]) dX12_count_187 rfl rfl (by decide) rfl rfl ?_
      refine go_goto (tgt := 162) dX12_count_190 (by decide) ?_
      exact h
    · replace h := h.2 hc
      refine go_iconst (v := 1) dX12_count_180 (by decide) ?_
      refine go_goto (tgt := 185) dX12_count_181 (by decide) ?_
      refine go_iadd dX12_count_185 ?_
      refine go_istore_n (lm := [some (.ref (gd g 12)), none, some (.int (x2 + 1)), some (.int x3)]) dX12_count_186 rfl (by decide) rfl rfl ?_
      refine go_iinc (v := x3 + 1) (lm := [some (.ref (gd g 12)), none, some (.int (x2 + 1)), some (.int (x3 + 1))]) dX12_count_187 rfl rfl (by decide) rfl rfl ?_
      refine go_goto (tgt := 162) dX12_count_190 (by decide) ?_
      exact h
set_option maxRecDepth 100000 in
set_option maxHeartbeats 4000000 in
theorem B_X12_status_0 {g : gp} {u : sg} {Q : Option Value → sg → Prop}  (h : Q (some (.int (u.1 12 1))) (sI u 12 0 (0 : Int32))) : Go g iX12_status 0 [some (.ref (gd g 12))] [] u Q := by
  refine go_aload_n dX12_status_0 rfl rfl ?_
  refine go_iconst (v := 0) dX12_status_1 (by decide) ?_
  refine go_put (k := 0) dX12_status_2 ob_12 (by decide) qf_X12_1 rfl rfl pf_I ?_
  refine go_aload_n dX12_status_5 rfl rfl ?_
  refine go_get (k := 1) (v := .int (u.1 12 1)) dX12_status_6 ob_12 (by decide) qf_X12_7 rfl ?_
  exact go_iret dX12_status_9 rfl h
