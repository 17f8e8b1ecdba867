theorem dX12_fault_0 : decode cX12_fault 0 = .ok (.aload_n 0, 1) := by decide +kernel
theorem dX12_fault_1 : decode cX12_fault 1 = .ok (.iconst 0, 1) := by decide +kernel
theorem dX12_fault_2 : decode cX12_fault 2 = .ok (.putfield 1, 3) := by decide +kernel
theorem dX12_fault_5 : decode cX12_fault 5 = .ok (.aload_n 0, 1) := by decide +kernel
theorem dX12_fault_6 : decode cX12_fault 6 = .ok (.getfield 250, 3) := by decide +kernel
theorem dX12_fault_9 : decode cX12_fault 9 = .ok (.ireturn, 1) := by decide +kernel
theorem dX12_lawFor_0 : decode cX12_lawFor 0 = .ok (.ldc 129, 2) := by decide +kernel
theorem dX12_lawFor_2 : decode cX12_lawFor 2 = .ok (.istore 5, 2) := by decide +kernel
theorem dX12_lawFor_4 : decode cX12_lawFor 4 = .ok (.iconst 0, 1) := by decide +kernel
theorem dX12_lawFor_5 : decode cX12_lawFor 5 = .ok (.istore 6, 2) := by decide +kernel
theorem dX12_lawFor_7 : decode cX12_lawFor 7 = .ok (.iload 6, 2) := by decide +kernel
theorem dX12_lawFor_9 : decode cX12_lawFor 9 = .ok (.aload_n 0, 1) := by decide +kernel
theorem dX12_lawFor_10 : decode cX12_lawFor 10 = .ok (.getfield 242, 3) := by decide +kernel
theorem dX12_lawFor_13 : decode cX12_lawFor 13 = .ok (.if_icmp .ge 99, 3) := by decide +kernel
theorem dX12_lawFor_16 : decode cX12_lawFor 16 = .ok (.aload_n 0, 1) := by decide +kernel
theorem dX12_lawFor_17 : decode cX12_lawFor 17 = .ok (.getfield 45, 3) := by decide +kernel
theorem dX12_lawFor_20 : decode cX12_lawFor 20 = .ok (.iload 6, 2) := by decide +kernel
theorem dX12_lawFor_22 : decode cX12_lawFor 22 = .ok (.iaload, 1) := by decide +kernel
theorem dX12_lawFor_23 : decode cX12_lawFor 23 = .ok (.iload_n 2, 1) := by decide +kernel
theorem dX12_lawFor_24 : decode cX12_lawFor 24 = .ok (.if_icmp .eq 14, 3) := by decide +kernel
theorem dX12_lawFor_27 : decode cX12_lawFor 27 = .ok (.aload_n 0, 1) := by decide +kernel
theorem dX12_lawFor_28 : decode cX12_lawFor 28 = .ok (.getfield 45, 3) := by decide +kernel
theorem dX12_lawFor_31 : decode cX12_lawFor 31 = .ok (.iload 6, 2) := by decide +kernel
theorem dX12_lawFor_33 : decode cX12_lawFor 33 = .ok (.iaload, 1) := by decide +kernel
theorem dX12_lawFor_34 : decode cX12_lawFor 34 = .ok (.iload_n 3, 1) := by decide +kernel
theorem dX12_lawFor_35 : decode cX12_lawFor 35 = .ok (.if_icmp .ne 30, 3) := by decide +kernel
theorem dX12_lawFor_38 : decode cX12_lawFor 38 = .ok (.aload_n 0, 1) := by decide +kernel
theorem dX12_lawFor_39 : decode cX12_lawFor 39 = .ok (.getfield 48, 3) := by decide +kernel
theorem dX12_lawFor_42 : decode cX12_lawFor 42 = .ok (.iload 6, 2) := by decide +kernel
theorem dX12_lawFor_44 : decode cX12_lawFor 44 = .ok (.iaload, 1) := by decide +kernel
theorem dX12_lawFor_45 : decode cX12_lawFor 45 = .ok (.iload 4, 2) := by decide +kernel
theorem dX12_lawFor_47 : decode cX12_lawFor 47 = .ok (.if_icmp .ne 18, 3) := by decide +kernel
theorem dX12_lawFor_50 : decode cX12_lawFor 50 = .ok (.aload_n 0, 1) := by decide +kernel
theorem dX12_lawFor_51 : decode cX12_lawFor 51 = .ok (.getfield 42, 3) := by decide +kernel
theorem dX12_lawFor_54 : decode cX12_lawFor 54 = .ok (.iload 6, 2) := by decide +kernel
theorem dX12_lawFor_56 : decode cX12_lawFor 56 = .ok (.iaload, 1) := by decide +kernel
theorem dX12_lawFor_57 : decode cX12_lawFor 57 = .ok (.iload_n 1, 1) := by decide +kernel
theorem dX12_lawFor_58 : decode cX12_lawFor 58 = .ok (.if_icmp .gt 7, 3) := by decide +kernel
theorem dX12_lawFor_61 : decode cX12_lawFor 61 = .ok (.iconst 1, 1) := by decide +kernel
theorem dX12_lawFor_62 : decode cX12_lawFor 62 = .ok (.goto 4, 3) := by decide +kernel
theorem dX12_lawFor_65 : decode cX12_lawFor 65 = .ok (.iconst 0, 1) := by decide +kernel
theorem dX12_lawFor_66 : decode cX12_lawFor 66 = .ok (.istore 7, 2) := by decide +kernel
theorem dX12_lawFor_68 : decode cX12_lawFor 68 = .ok (.iload 7, 2) := by decide +kernel
theorem dX12_lawFor_70 : decode cX12_lawFor 70 = .ok (.ifCond .eq 32, 3) := by decide +kernel
theorem dX12_lawFor_73 : decode cX12_lawFor 73 = .ok (.iload 5, 2) := by decide +kernel
theorem dX12_lawFor_75 : decode cX12_lawFor 75 = .ok (.ldc 129, 2) := by decide +kernel
theorem dX12_lawFor_77 : decode cX12_lawFor 77 = .ok (.if_icmp .eq 20, 3) := by decide +kernel
theorem dX12_lawFor_80 : decode cX12_lawFor 80 = .ok (.aload_n 0, 1) := by decide +kernel
theorem dX12_lawFor_81 : decode cX12_lawFor 81 = .ok (.getfield 42, 3) := by decide +kernel
theorem dX12_lawFor_84 : decode cX12_lawFor 84 = .ok (.iload 6, 2) := by decide +kernel
theorem dX12_lawFor_86 : decode cX12_lawFor 86 = .ok (.iaload, 1) := by decide +kernel
theorem dX12_lawFor_87 : decode cX12_lawFor 87 = .ok (.aload_n 0, 1) := by decide +kernel
theorem dX12_lawFor_88 : decode cX12_lawFor 88 = .ok (.getfield 42, 3) := by decide +kernel
theorem dX12_lawFor_91 : decode cX12_lawFor 91 = .ok (.iload 5, 2) := by decide +kernel
theorem dX12_lawFor_93 : decode cX12_lawFor 93 = .ok (.iaload, 1) := by decide +kernel
theorem dX12_lawFor_94 : decode cX12_lawFor 94 = .ok (.if_icmp .lt 8, 3) := by decide +kernel
theorem dX12_lawFor_97 : decode cX12_lawFor 97 = .ok (.iload 6, 2) := by decide +kernel
theorem dX12_lawFor_99 : decode cX12_lawFor 99 = .ok (.goto 5, 3) := by decide +kernel
theorem dX12_lawFor_102 : decode cX12_lawFor 102 = .ok (.iload 5, 2) := by decide +kernel
theorem dX12_lawFor_104 : decode cX12_lawFor 104 = .ok (.istore 5, 2) := by decide +kernel
theorem dX12_lawFor_106 : decode cX12_lawFor 106 = .ok (.iinc 6 1, 3) := by decide +kernel
theorem dX12_lawFor_109 : decode cX12_lawFor 109 = .ok (.goto (-102), 3) := by decide +kernel
theorem dX12_lawFor_112 : decode cX12_lawFor 112 = .ok (.iload 5, 2) := by decide +kernel
theorem dX12_lawFor_114 : decode cX12_lawFor 114 = .ok (.ireturn, 1) := by decide +kernel
theorem dX12_numberFor_0 : decode cX12_numberFor 0 = .ok (.aload_n 0, 1) := by decide +kernel
theorem dX12_numberFor_1 : decode cX12_numberFor 1 = .ok (.iload_n 1, 1) := by decide +kernel
theorem dX12_numberFor_2 : decode cX12_numberFor 2 = .ok (.iload_n 2, 1) := by decide +kernel
theorem dX12_numberFor_3 : decode cX12_numberFor 3 = .ok (.iload_n 2, 1) := by decide +kernel
theorem dX12_numberFor_4 : decode cX12_numberFor 4 = .ok (.iload_n 3, 1) := by decide +kernel
theorem dX12_numberFor_5 : decode cX12_numberFor 5 = .ok (.invokevirtual 254, 3) := by decide +kernel
theorem dX12_numberFor_8 : decode cX12_numberFor 8 = .ok (.istore 4, 2) := by decide +kernel
theorem dX12_numberFor_10 : decode cX12_numberFor 10 = .ok (.iload 4, 2) := by decide +kernel
theorem dX12_numberFor_12 : decode cX12_numberFor 12 = .ok (.ldc 129, 2) := by decide +kernel
theorem dX12_numberFor_14 : decode cX12_numberFor 14 = .ok (.if_icmp .ne 7, 3) := by decide +kernel
theorem dX12_numberFor_17 : decode cX12_numberFor 17 = .ok (.iconst 0, 1) := by decide +kernel
theorem dX12_numberFor_18 : decode cX12_numberFor 18 = .ok (.goto 10, 3) := by decide +kernel
theorem dX12_numberFor_21 : decode cX12_numberFor 21 = .ok (.aload_n 0, 1) := by decide +kernel
theorem dX12_numberFor_22 : decode cX12_numberFor 22 = .ok (.getfield 51, 3) := by decide +kernel
theorem dX12_numberFor_25 : decode cX12_numberFor 25 = .ok (.iload 4, 2) := by decide +kernel
theorem dX12_numberFor_27 : decode cX12_numberFor 27 = .ok (.iaload, 1) := by decide +kernel
theorem dX12_numberFor_28 : decode cX12_numberFor 28 = .ok (.ireturn, 1) := by decide +kernel
theorem dX12_isGood_0 : decode cX12_isGood 0 = .ok (.aload_n 0, 1) := by decide +kernel
theorem dX12_isGood_1 : decode cX12_isGood 1 = .ok (.iload_n 2, 1) := by decide +kernel
theorem dX12_isGood_2 : decode cX12_isGood 2 = .ok (.iconst 3, 1) := by decide +kernel
theorem dX12_isGood_3 : decode cX12_isGood 3 = .ok (.iconst 4, 1) := by decide +kernel
theorem dX12_isGood_4 : decode cX12_isGood 4 = .ok (.iload_n 1, 1) := by decide +kernel
theorem dX12_isGood_5 : decode cX12_isGood 5 = .ok (.invokevirtual 254, 3) := by decide +kernel
theorem dX12_isGood_8 : decode cX12_isGood 8 = .ok (.istore_n 3, 1) := by decide +kernel
theorem dX12_isGood_9 : decode cX12_isGood 9 = .ok (.iload_n 3, 1) := by decide +kernel
theorem dX12_isGood_10 : decode cX12_isGood 10 = .ok (.ldc 129, 2) := by decide +kernel
theorem dX12_isGood_12 : decode cX12_isGood 12 = .ok (.if_icmp .eq 13, 3) := by decide +kernel
theorem dX12_isGood_15 : decode cX12_isGood 15 = .ok (.aload_n 0, 1) := by decide +kernel
theorem dX12_isGood_16 : decode cX12_isGood 16 = .ok (.getfield 45, 3) := by decide +kernel
theorem dX12_isGood_19 : decode cX12_isGood 19 = .ok (.iload_n 3, 1) := by decide +kernel
theorem dX12_isGood_20 : decode cX12_isGood 20 = .ok (.iaload, 1) := by decide +kernel
theorem dX12_isGood_21 : decode cX12_isGood 21 = .ok (.iconst 3, 1) := by decide +kernel
theorem dX12_isGood_22 : decode cX12_isGood 22 = .ok (.if_icmp .ne 7, 3) := by decide +kernel
theorem dX12_isGood_25 : decode cX12_isGood 25 = .ok (.iconst 1, 1) := by decide +kernel
theorem dX12_isGood_26 : decode cX12_isGood 26 = .ok (.goto 4, 3) := by decide +kernel
theorem dX12_isGood_29 : decode cX12_isGood 29 = .ok (.iconst 0, 1) := by decide +kernel
theorem dX12_isGood_30 : decode cX12_isGood 30 = .ok (.ireturn, 1) := by decide +kernel
theorem dX12_isBanned_0 : decode cX12_isBanned 0 = .ok (.aload_n 0, 1) := by decide +kernel
theorem dX12_isBanned_1 : decode cX12_isBanned 1 = .ok (.iload_n 2, 1) := by decide +kernel
theorem dX12_isBanned_2 : decode cX12_isBanned 2 = .ok (.iconst 5, 1) := by decide +kernel
theorem dX12_isBanned_3 : decode cX12_isBanned 3 = .ok (.bipush 6, 2) := by decide +kernel
theorem dX12_isBanned_5 : decode cX12_isBanned 5 = .ok (.iload_n 1, 1) := by decide +kernel
theorem dX12_isBanned_6 : decode cX12_isBanned 6 = .ok (.invokevirtual 254, 3) := by decide +kernel
theorem dX12_isBanned_9 : decode cX12_isBanned 9 = .ok (.istore_n 3, 1) := by decide +kernel
theorem dX12_isBanned_10 : decode cX12_isBanned 10 = .ok (.iload_n 3, 1) := by decide +kernel
theorem dX12_isBanned_11 : decode cX12_isBanned 11 = .ok (.ldc 129, 2) := by decide +kernel
theorem dX12_isBanned_13 : decode cX12_isBanned 13 = .ok (.if_icmp .eq 17, 3) := by decide +kernel
theorem dX12_isBanned_16 : decode cX12_isBanned 16 = .ok (.aload_n 0, 1) := by decide +kernel
theorem dX12_isBanned_17 : decode cX12_isBanned 17 = .ok (.getfield 45, 3) := by decide +kernel
theorem dX12_isBanned_20 : decode cX12_isBanned 20 = .ok (.iload_n 3, 1) := by decide +kernel
theorem dX12_isBanned_21 : decode cX12_isBanned 21 = .ok (.iaload, 1) := by decide +kernel
theorem dX12_isBanned_22 : decode cX12_isBanned 22 = .ok (.iconst 5, 1) := by decide +kernel
theorem dX12_isBanned_23 : decode cX12_isBanned 23 = .ok (.if_icmp .ne 7, 3) := by decide +kernel
theorem dX12_isBanned_26 : decode cX12_isBanned 26 = .ok (.iconst 1, 1) := by decide +kernel
theorem dX12_isBanned_27 : decode cX12_isBanned 27 = .ok (.goto 4, 3) := by decide +kernel
theorem dX12_isBanned_30 : decode cX12_isBanned 30 = .ok (.iconst 0, 1) := by decide +kernel
theorem dX12_isBanned_31 : decode cX12_isBanned 31 = .ok (.ireturn, 1) := by decide +kernel
theorem dX12_holds_0 : decode cX12_holds 0 = .ok (.aload_n 0, 1) := by decide +kernel
theorem dX12_holds_1 : decode cX12_holds 1 = .ok (.iconst 0, 1) := by decide +kernel
theorem dX12_holds_2 : decode cX12_holds 2 = .ok (.putfield 1, 3) := by decide +kernel
theorem dX12_holds_5 : decode cX12_holds 5 = .ok (.iload_n 1, 1) := by decide +kernel
theorem dX12_holds_6 : decode cX12_holds 6 = .ok (.invokestatic 258, 3) := by decide +kernel
theorem dX12_holds_9 : decode cX12_holds 9 = .ok (.ifCond .ne 6, 3) := by decide +kernel
theorem dX12_holds_12 : decode cX12_holds 12 = .ok (.ldc 142, 2) := by decide +kernel
theorem dX12_holds_14 : decode cX12_holds 14 = .ok (.ireturn, 1) := by decide +kernel
theorem dX12_holds_15 : decode cX12_holds 15 = .ok (.iload_n 2, 1) := by decide +kernel
theorem dX12_holds_16 : decode cX12_holds 16 = .ok (.ifCond .ne 13, 3) := by decide +kernel
theorem dX12_holds_19 : decode cX12_holds 19 = .ok (.aload_n 0, 1) := by decide +kernel
theorem dX12_holds_20 : decode cX12_holds 20 = .ok (.iload_n 1, 1) := by decide +kernel
theorem dX12_holds_21 : decode cX12_holds 21 = .ok (.iconst 0, 1) := by decide +kernel
theorem dX12_holds_22 : decode cX12_holds 22 = .ok (.iconst 0, 1) := by decide +kernel
theorem dX12_holds_23 : decode cX12_holds 23 = .ok (.invokevirtual 261, 3) := by decide +kernel
theorem dX12_holds_26 : decode cX12_holds 26 = .ok (.goto 127, 3) := by decide +kernel
theorem dX12_holds_29 : decode cX12_holds 29 = .ok (.iload_n 2, 1) := by decide +kernel
theorem dX12_holds_30 : decode cX12_holds 30 = .ok (.i2l, 1) := by decide +kernel
theorem dX12_holds_31 : decode cX12_holds 31 = .ok (.ldc2_w 265, 3) := by decide +kernel
theorem dX12_holds_34 : decode cX12_holds 34 = .ok (.ldc2_w 267, 3) := by decide +kernel
theorem dX12_holds_37 : decode cX12_holds 37 = .ok (.invokestatic 132, 3) := by decide +kernel
theorem dX12_holds_40 : decode cX12_holds 40 = .ok (.ifCond .eq 16, 3) := by decide +kernel
theorem dX12_holds_43 : decode cX12_holds 43 = .ok (.aload_n 0, 1) := by decide +kernel
theorem dX12_holds_44 : decode cX12_holds 44 = .ok (.iload_n 1, 1) := by decide +kernel
theorem dX12_holds_45 : decode cX12_holds 45 = .ok (.iconst 1, 1) := by decide +kernel
theorem dX12_holds_46 : decode cX12_holds 46 = .ok (.iload_n 2, 1) := by decide +kernel
theorem dX12_holds_47 : decode cX12_holds 47 = .ok (.bipush 10, 2) := by decide +kernel
theorem dX12_holds_49 : decode cX12_holds 49 = .ok (.isub, 1) := by decide +kernel
theorem dX12_holds_50 : decode cX12_holds 50 = .ok (.invokevirtual 261, 3) := by decide +kernel
theorem dX12_holds_53 : decode cX12_holds 53 = .ok (.goto 100, 3) := by decide +kernel
theorem dX12_holds_56 : decode cX12_holds 56 = .ok (.iload_n 2, 1) := by decide +kernel
theorem dX12_holds_57 : decode cX12_holds 57 = .ok (.i2l, 1) := by decide +kernel
theorem dX12_holds_58 : decode cX12_holds 58 = .ok (.ldc2_w 269, 3) := by decide +kernel
theorem dX12_holds_61 : decode cX12_holds 61 = .ok (.ldc2_w 271, 3) := by decide +kernel
theorem dX12_holds_64 : decode cX12_holds 64 = .ok (.invokestatic 132, 3) := by decide +kernel
theorem dX12_holds_67 : decode cX12_holds 67 = .ok (.ifCond .eq 16, 3) := by decide +kernel
theorem dX12_holds_70 : decode cX12_holds 70 = .ok (.aload_n 0, 1) := by decide +kernel
theorem dX12_holds_71 : decode cX12_holds 71 = .ok (.iload_n 1, 1) := by decide +kernel
theorem dX12_holds_72 : decode cX12_holds 72 = .ok (.iconst 2, 1) := by decide +kernel
theorem dX12_holds_73 : decode cX12_holds 73 = .ok (.iload_n 2, 1) := by decide +kernel
theorem dX12_holds_74 : decode cX12_holds 74 = .ok (.bipush 20, 2) := by decide +kernel
theorem dX12_holds_76 : decode cX12_holds 76 = .ok (.isub, 1) := by decide +kernel
theorem dX12_holds_77 : decode cX12_holds 77 = .ok (.invokevirtual 261, 3) := by decide +kernel
theorem dX12_holds_80 : decode cX12_holds 80 = .ok (.goto 73, 3) := by decide +kernel
theorem dX12_holds_83 : decode cX12_holds 83 = .ok (.iload_n 2, 1) := by decide +kernel
theorem dX12_holds_84 : decode cX12_holds 84 = .ok (.i2l, 1) := by decide +kernel
theorem dX12_holds_85 : decode cX12_holds 85 = .ok (.ldc2_w 273, 3) := by decide +kernel
theorem dX12_holds_88 : decode cX12_holds 88 = .ok (.ldc2_w 275, 3) := by decide +kernel
theorem dX12_holds_91 : decode cX12_holds 91 = .ok (.invokestatic 132, 3) := by decide +kernel
theorem dX12_holds_94 : decode cX12_holds 94 = .ok (.ifCond .eq 23, 3) := by decide +kernel
theorem dX12_holds_97 : decode cX12_holds 97 = .ok (.aload_n 0, 1) := by decide +kernel
theorem dX12_holds_98 : decode cX12_holds 98 = .ok (.iload_n 2, 1) := by decide +kernel
theorem dX12_holds_99 : decode cX12_holds 99 = .ok (.bipush 30, 2) := by decide +kernel
theorem dX12_holds_101 : decode cX12_holds 101 = .ok (.isub, 1) := by decide +kernel
theorem dX12_holds_102 : decode cX12_holds 102 = .ok (.iload_n 1, 1) := by decide +kernel
theorem dX12_holds_103 : decode cX12_holds 103 = .ok (.invokevirtual 277, 3) := by decide +kernel
theorem dX12_holds_106 : decode cX12_holds 106 = .ok (.ifCond .eq 7, 3) := by decide +kernel
theorem dX12_holds_109 : decode cX12_holds 109 = .ok (.iconst 1, 1) := by decide +kernel
theorem dX12_holds_110 : decode cX12_holds 110 = .ok (.goto 43, 3) := by decide +kernel
theorem dX12_holds_113 : decode cX12_holds 113 = .ok (.iconst 0, 1) := by decide +kernel
theorem dX12_holds_114 : decode cX12_holds 114 = .ok (.goto 39, 3) := by decide +kernel
theorem dX12_holds_117 : decode cX12_holds 117 = .ok (.iload_n 2, 1) := by decide +kernel
theorem dX12_holds_118 : decode cX12_holds 118 = .ok (.i2l, 1) := by decide +kernel
theorem dX12_holds_119 : decode cX12_holds 119 = .ok (.ldc2_w 280, 3) := by decide +kernel
theorem dX12_holds_122 : decode cX12_holds 122 = .ok (.ldc2_w 282, 3) := by decide +kernel
theorem dX12_holds_125 : decode cX12_holds 125 = .ok (.invokestatic 132, 3) := by decide +kernel
theorem dX12_holds_128 : decode cX12_holds 128 = .ok (.ifCond .eq 23, 3) := by decide +kernel
theorem dX12_holds_131 : decode cX12_holds 131 = .ok (.aload_n 0, 1) := by decide +kernel
theorem dX12_holds_132 : decode cX12_holds 132 = .ok (.iload_n 2, 1) := by decide +kernel
theorem dX12_holds_133 : decode cX12_holds 133 = .ok (.bipush 40, 2) := by decide +kernel
theorem dX12_holds_135 : decode cX12_holds 135 = .ok (.isub, 1) := by decide +kernel
theorem dX12_holds_136 : decode cX12_holds 136 = .ok (.iload_n 1, 1) := by decide +kernel
theorem dX12_holds_137 : decode cX12_holds 137 = .ok (.invokevirtual 284, 3) := by decide +kernel
theorem dX12_holds_140 : decode cX12_holds 140 = .ok (.ifCond .eq 7, 3) := by decide +kernel
theorem dX12_holds_143 : decode cX12_holds 143 = .ok (.iconst 1, 1) := by decide +kernel
theorem dX12_holds_144 : decode cX12_holds 144 = .ok (.goto 9, 3) := by decide +kernel
theorem dX12_holds_147 : decode cX12_holds 147 = .ok (.iconst 0, 1) := by decide +kernel
theorem dX12_holds_148 : decode cX12_holds 148 = .ok (.goto 5, 3) := by decide +kernel
theorem dX12_holds_151 : decode cX12_holds 151 = .ok (.ldc 142, 2) := by decide +kernel
theorem dX12_holds_153 : decode cX12_holds 153 = .ok (.ireturn, 1) := by decide +kernel
theorem dX12_cart_0 : decode cX12_cart 0 = .ok (.aload_n 0, 1) := by decide +kernel
theorem dX12_cart_1 : decode cX12_cart 1 = .ok (.iconst 0, 1) := by decide +kernel
theorem dX12_cart_2 : decode cX12_cart 2 = .ok (.putfield 1, 3) := by decide +kernel
theorem dX12_cart_5 : decode cX12_cart 5 = .ok (.iload_n 1, 1) := by decide +kernel
theorem dX12_cart_6 : decode cX12_cart 6 = .ok (.invokestatic 136, 3) := by decide +kernel
theorem dX12_cart_9 : decode cX12_cart 9 = .ok (.ifCond .ne 6, 3) := by decide +kernel
theorem dX12_cart_12 : decode cX12_cart 12 = .ok (.ldc 142, 2) := by decide +kernel
theorem dX12_cart_14 : decode cX12_cart 14 = .ok (.ireturn, 1) := by decide +kernel
theorem dX12_cart_15 : decode cX12_cart 15 = .ok (.aload_n 0, 1) := by decide +kernel
theorem dX12_cart_16 : decode cX12_cart 16 = .ok (.getfield 287, 3) := by decide +kernel
theorem dX12_cart_19 : decode cX12_cart 19 = .ok (.bipush 16, 2) := by decide +kernel
theorem dX12_cart_21 : decode cX12_cart 21 = .ok (.if_icmp .ne 6, 3) := by decide +kernel
theorem dX12_cart_24 : decode cX12_cart 24 = .ok (.ldc 170, 2) := by decide +kernel
theorem dX12_cart_26 : decode cX12_cart 26 = .ok (.ireturn, 1) := by decide +kernel
theorem dX12_cart_27 : decode cX12_cart 27 = .ok (.aload_n 0, 1) := by decide +kernel
theorem dX12_cart_28 : decode cX12_cart 28 = .ok (.iload_n 1, 1) := by decide +kernel
theorem dX12_cart_29 : decode cX12_cart 29 = .ok (.iload_n 2, 1) := by decide +kernel
theorem dX12_cart_30 : decode cX12_cart 30 = .ok (.bipush 9, 2) := by decide +kernel
theorem dX12_cart_32 : decode cX12_cart 32 = .ok (.invokevirtual 290, 3) := by decide +kernel
theorem dX12_cart_35 : decode cX12_cart 35 = .ok (.istore_n 3, 1) := by decide +kernel
theorem dX12_cart_36 : decode cX12_cart 36 = .ok (.iload_n 3, 1) := by decide +kernel
theorem dX12_cart_37 : decode cX12_cart 37 = .ok (.ifCond .ge 5, 3) := by decide +kernel
theorem dX12_cart_40 : decode cX12_cart 40 = .ok (.iload_n 3, 1) := by decide +kernel
theorem dX12_cart_41 : decode cX12_cart 41 = .ok (.ireturn, 1) := by decide +kernel
theorem dX12_cart_42 : decode cX12_cart 42 = .ok (.bipush 64, 2) := by decide +kernel
theorem dX12_cart_44 : decode cX12_cart 44 = .ok (.iload_n 1, 1) := by decide +kernel
theorem dX12_cart_45 : decode cX12_cart 45 = .ok (.imul, 1) := by decide +kernel
theorem dX12_cart_46 : decode cX12_cart 46 = .ok (.iload_n 2, 1) := by decide +kernel
theorem dX12_cart_47 : decode cX12_cart 47 = .ok (.iadd, 1) := by decide +kernel
theorem dX12_cart_48 : decode cX12_cart 48 = .ok (.istore 4, 2) := by decide +kernel
theorem dX12_cart_50 : decode cX12_cart 50 = .ok (.iconst 0, 1) := by decide +kernel
theorem dX12_cart_51 : decode cX12_cart 51 = .ok (.istore 5, 2) := by decide +kernel
theorem dX12_cart_53 : decode cX12_cart 53 = .ok (.iload 5, 2) := by decide +kernel
theorem dX12_cart_55 : decode cX12_cart 55 = .ok (.bipush 9, 2) := by decide +kernel
theorem dX12_cart_57 : decode cX12_cart 57 = .ok (.if_icmp .ge 44, 3) := by decide +kernel
theorem dX12_cart_60 : decode cX12_cart 60 = .ok (.aload_n 0, 1) := by decide +kernel
theorem dX12_cart_61 : decode cX12_cart 61 = .ok (.getfield 24, 3) := by decide +kernel
theorem dX12_cart_64 : decode cX12_cart 64 = .ok (.iload 4, 2) := by decide +kernel
theorem dX12_cart_66 : decode cX12_cart 66 = .ok (.iload 5, 2) := by decide +kernel
theorem dX12_cart_68 : decode cX12_cart 68 = .ok (.iadd, 1) := by decide +kernel
theorem dX12_cart_69 : decode cX12_cart 69 = .ok (.iaload, 1) := by decide +kernel
theorem dX12_cart_70 : decode cX12_cart 70 = .ok (.i2l, 1) := by decide +kernel
theorem dX12_cart_71 : decode cX12_cart 71 = .ok (.lconst 0, 1) := by decide +kernel
theorem dX12_cart_72 : decode cX12_cart 72 = .ok (.iload 5, 2) := by decide +kernel
theorem dX12_cart_74 : decode cX12_cart 74 = .ok (.ifCond .ne 9, 3) := by decide +kernel
theorem dX12_cart_77 : decode cX12_cart 77 = .ok (.ldc2_w 293, 3) := by decide +kernel
theorem dX12_cart_80 : decode cX12_cart 80 = .ok (.goto 6, 3) := by decide +kernel
theorem dX12_cart_83 : decode cX12_cart 83 = .ok (.ldc2_w 295, 3) := by decide +kernel
theorem dX12_cart_86 : decode cX12_cart 86 = .ok (.invokestatic 132, 3) := by decide +kernel
theorem dX12_cart_89 : decode cX12_cart 89 = .ok (.ifCond .ne 6, 3) := by decide +kernel
theorem dX12_cart_92 : decode cX12_cart 92 = .ok (.ldc 142, 2) := by decide +kernel
theorem dX12_cart_94 : decode cX12_cart 94 = .ok (.ireturn, 1) := by decide +kernel
theorem dX12_cart_95 : decode cX12_cart 95 = .ok (.iinc 5 1, 3) := by decide +kernel
theorem dX12_cart_98 : decode cX12_cart 98 = .ok (.goto (-45), 3) := by decide +kernel
theorem dX12_cart_101 : decode cX12_cart 101 = .ok (.aload_n 0, 1) := by decide +kernel
theorem dX12_cart_102 : decode cX12_cart 102 = .ok (.iconst 0, 1) := by decide +kernel
theorem dX12_cart_103 : decode cX12_cart 103 = .ok (.putfield 7, 3) := by decide +kernel
theorem dX12_cart_106 : decode cX12_cart 106 = .ok (.iconst 0, 1) := by decide +kernel
theorem dX12_cart_107 : decode cX12_cart 107 = .ok (.istore 5, 2) := by decide +kernel
theorem dX12_cart_109 : decode cX12_cart 109 = .ok (.iload 5, 2) := by decide +kernel
theorem dX12_cart_111 : decode cX12_cart 111 = .ok (.bipush 9, 2) := by decide +kernel
theorem dX12_cart_113 : decode cX12_cart 113 = .ok (.if_icmp .ge 34, 3) := by decide +kernel
theorem dX12_cart_116 : decode cX12_cart 116 = .ok (.aload_n 0, 1) := by decide +kernel
theorem dX12_cart_117 : decode cX12_cart 117 = .ok (.getfield 57, 3) := by decide +kernel
theorem dX12_cart_120 : decode cX12_cart 120 = .ok (.bipush 9, 2) := by decide +kernel
theorem dX12_cart_122 : decode cX12_cart 122 = .ok (.aload_n 0, 1) := by decide +kernel
theorem dX12_cart_123 : decode cX12_cart 123 = .ok (.getfield 287, 3) := by decide +kernel
theorem dX12_cart_126 : decode cX12_cart 126 = .ok (.imul, 1) := by decide +kernel
theorem dX12_cart_127 : decode cX12_cart 127 = .ok (.iload 5, 2) := by decide +kernel
theorem dX12_cart_129 : decode cX12_cart 129 = .ok (.iadd, 1) := by decide +kernel
theorem dX12_cart_130 : decode cX12_cart 130 = .ok (.aload_n 0, 1) := by decide +kernel
theorem dX12_cart_131 : decode cX12_cart 131 = .ok (.getfield 24, 3) := by decide +kernel
theorem dX12_cart_134 : decode cX12_cart 134 = .ok (.iload 4, 2) := by decide +kernel
theorem dX12_cart_136 : decode cX12_cart 136 = .ok (.iload 5, 2) := by decide +kernel
theorem dX12_cart_138 : decode cX12_cart 138 = .ok (.iadd, 1) := by decide +kernel
theorem dX12_cart_139 : decode cX12_cart 139 = .ok (.iaload, 1) := by decide +kernel
theorem dX12_cart_140 : decode cX12_cart 140 = .ok (.iastore, 1) := by decide +kernel
theorem dX12_cart_141 : decode cX12_cart 141 = .ok (.iinc 5 1, 3) := by decide +kernel
theorem dX12_cart_144 : decode cX12_cart 144 = .ok (.goto (-35), 3) := by decide +kernel
theorem dX12_cart_147 : decode cX12_cart 147 = .ok (.aload_n 0, 1) := by decide +kernel
theorem dX12_cart_148 : decode cX12_cart 148 = .ok (.dup, 1) := by decide +kernel
theorem dX12_cart_149 : decode cX12_cart 149 = .ok (.getfield 287, 3) := by decide +kernel
theorem dX12_cart_152 : decode cX12_cart 152 = .ok (.iconst 1, 1) := by decide +kernel
theorem dX12_cart_153 : decode cX12_cart 153 = .ok (.iadd, 1) := by decide +kernel
theorem dX12_cart_154 : decode cX12_cart 154 = .ok (.putfield 287, 3) := by decide +kernel
theorem dX12_cart_157 : decode cX12_cart 157 = .ok (.aload_n 0, 1) := by decide +kernel
theorem dX12_cart_158 : decode cX12_cart 158 = .ok (.getfield 287, 3) := by decide +kernel
theorem dX12_cart_161 : decode cX12_cart 161 = .ok (.iconst 1, 1) := by decide +kernel
theorem dX12_cart_162 : decode cX12_cart 162 = .ok (.isub, 1) := by decide +kernel
theorem dX12_cart_163 : decode cX12_cart 163 = .ok (.ireturn, 1) := by decide +kernel
theorem dX12_isCart_0 : decode cX12_isCart 0 = .ok (.iload_n 1, 1) := by decide +kernel
theorem dX12_isCart_1 : decode cX12_isCart 1 = .ok (.i2l, 1) := by decide +kernel
theorem dX12_isCart_2 : decode cX12_isCart 2 = .ok (.lconst 0, 1) := by decide +kernel
theorem dX12_isCart_3 : decode cX12_isCart 3 = .ok (.aload_n 0, 1) := by decide +kernel
theorem dX12_isCart_4 : decode cX12_isCart 4 = .ok (.getfield 287, 3) := by decide +kernel
theorem dX12_isCart_7 : decode cX12_isCart 7 = .ok (.iconst 1, 1) := by decide +kernel
theorem dX12_isCart_8 : decode cX12_isCart 8 = .ok (.isub, 1) := by decide +kernel
theorem dX12_isCart_9 : decode cX12_isCart 9 = .ok (.i2l, 1) := by decide +kernel
theorem dX12_isCart_10 : decode cX12_isCart 10 = .ok (.invokestatic 132, 3) := by decide +kernel
theorem dX12_isCart_13 : decode cX12_isCart 13 = .ok (.ireturn, 1) := by decide +kernel
theorem dX12_owedBy_0 : decode cX12_owedBy 0 = .ok (.aload_n 0, 1) := by decide +kernel
theorem dX12_owedBy_1 : decode cX12_owedBy 1 = .ok (.getfield 57, 3) := by decide +kernel
theorem dX12_owedBy_4 : decode cX12_owedBy 4 = .ok (.bipush 9, 2) := by decide +kernel
theorem dX12_owedBy_6 : decode cX12_owedBy 6 = .ok (.iload_n 1, 1) := by decide +kernel
theorem dX12_owedBy_7 : decode cX12_owedBy 7 = .ok (.imul, 1) := by decide +kernel
theorem dX12_owedBy_8 : decode cX12_owedBy 8 = .ok (.iaload, 1) := by decide +kernel
theorem dX12_owedBy_9 : decode cX12_owedBy 9 = .ok (.aload_n 0, 1) := by decide +kernel
theorem dX12_owedBy_10 : decode cX12_owedBy 10 = .ok (.iload_n 3, 1) := by decide +kernel
theorem dX12_owedBy_11 : decode cX12_owedBy 11 = .ok (.iconst 0, 1) := by decide +kernel
theorem dX12_owedBy_12 : decode cX12_owedBy 12 = .ok (.iconst 0, 1) := by decide +kernel
theorem dX12_owedBy_13 : decode cX12_owedBy 13 = .ok (.invokevirtual 261, 3) := by decide +kernel
theorem dX12_owedBy_16 : decode cX12_owedBy 16 = .ok (.imul, 1) := by decide +kernel
theorem dX12_owedBy_17 : decode cX12_owedBy 17 = .ok (.istore 4, 2) := by decide +kernel
theorem dX12_owedBy_19 : decode cX12_owedBy 19 = .ok (.iconst 0, 1) := by decide +kernel
theorem dX12_owedBy_20 : decode cX12_owedBy 20 = .ok (.istore 5, 2) := by decide +kernel
theorem dX12_owedBy_22 : decode cX12_owedBy 22 = .ok (.iload 5, 2) := by decide +kernel
theorem dX12_owedBy_24 : decode cX12_owedBy 24 = .ok (.bipush 8, 2) := by decide +kernel
theorem dX12_owedBy_26 : decode cX12_owedBy 26 = .ok (.if_icmp .ge 58, 3) := by decide +kernel
theorem dX12_owedBy_29 : decode cX12_owedBy 29 = .ok (.aload_n 0, 1) := by decide +kernel
theorem dX12_owedBy_30 : decode cX12_owedBy 30 = .ok (.getfield 57, 3) := by decide +kernel
theorem dX12_owedBy_33 : decode cX12_owedBy 33 = .ok (.bipush 9, 2) := by decide +kernel
theorem dX12_owedBy_35 : decode cX12_owedBy 35 = .ok (.iload_n 1, 1) := by decide +kernel
theorem dX12_owedBy_36 : decode cX12_owedBy 36 = .ok (.imul, 1) := by decide +kernel
theorem dX12_owedBy_37 : decode cX12_owedBy 37 = .ok (.iconst 1, 1) := by decide +kernel
theorem dX12_owedBy_38 : decode cX12_owedBy 38 = .ok (.iadd, 1) := by decide +kernel
theorem dX12_owedBy_39 : decode cX12_owedBy 39 = .ok (.iload 5, 2) := by decide +kernel
theorem dX12_owedBy_41 : decode cX12_owedBy 41 = .ok (.iadd, 1) := by decide +kernel
theorem dX12_owedBy_42 : decode cX12_owedBy 42 = .ok (.iaload, 1) := by decide +kernel
theorem dX12_owedBy_43 : decode cX12_owedBy 43 = .ok (.istore 6, 2) := by decide +kernel
theorem dX12_owedBy_45 : decode cX12_owedBy 45 = .ok (.iload 4, 2) := by decide +kernel
theorem dX12_owedBy_47 : decode cX12_owedBy 47 = .ok (.iload 6, 2) := by decide +kernel
theorem dX12_owedBy_49 : decode cX12_owedBy 49 = .ok (.aload_n 0, 1) := by decide +kernel
theorem dX12_owedBy_50 : decode cX12_owedBy 50 = .ok (.iload_n 3, 1) := by decide +kernel
theorem dX12_owedBy_51 : decode cX12_owedBy 51 = .ok (.iconst 2, 1) := by decide +kernel
theorem dX12_owedBy_52 : decode cX12_owedBy 52 = .ok (.iload 5, 2) := by decide +kernel
theorem dX12_owedBy_54 : decode cX12_owedBy 54 = .ok (.invokevirtual 261, 3) := by decide +kernel
theorem dX12_owedBy_57 : decode cX12_owedBy 57 = .ok (.if_icmp .gt 7, 3) := by decide +kernel
theorem dX12_owedBy_60 : decode cX12_owedBy 60 = .ok (.iconst 0, 1) := by decide +kernel
theorem dX12_owedBy_61 : decode cX12_owedBy 61 = .ok (.goto 14, 3) := by decide +kernel
theorem dX12_owedBy_64 : decode cX12_owedBy 64 = .ok (.iload 6, 2) := by decide +kernel
theorem dX12_owedBy_66 : decode cX12_owedBy 66 = .ok (.aload_n 0, 1) := by decide +kernel
theorem dX12_owedBy_67 : decode cX12_owedBy 67 = .ok (.iload_n 3, 1) := by decide +kernel
theorem dX12_owedBy_68 : decode cX12_owedBy 68 = .ok (.iconst 1, 1) := by decide +kernel
theorem dX12_owedBy_69 : decode cX12_owedBy 69 = .ok (.iload 5, 2) := by decide +kernel
theorem dX12_owedBy_71 : decode cX12_owedBy 71 = .ok (.invokevirtual 261, 3) := by decide +kernel
theorem dX12_owedBy_74 : decode cX12_owedBy 74 = .ok (.imul, 1) := by decide +kernel
theorem dX12_owedBy_75 : decode cX12_owedBy 75 = .ok (.iadd, 1) := by decide +kernel
theorem dX12_owedBy_76 : decode cX12_owedBy 76 = .ok (.istore 4, 2) := by decide +kernel
theorem dX12_owedBy_78 : decode cX12_owedBy 78 = .ok (.iinc 5 1, 3) := by decide +kernel
theorem dX12_owedBy_81 : decode cX12_owedBy 81 = .ok (.goto (-59), 3) := by decide +kernel
theorem dX12_owedBy_84 : decode cX12_owedBy 84 = .ok (.iload 4, 2) := by decide +kernel
theorem dX12_owedBy_86 : decode cX12_owedBy 86 = .ok (.aload_n 0, 1) := by decide +kernel
theorem dX12_owedBy_87 : decode cX12_owedBy 87 = .ok (.getfield 33, 3) := by decide +kernel
theorem dX12_owedBy_90 : decode cX12_owedBy 90 = .ok (.iload_n 2, 1) := by decide +kernel
theorem dX12_owedBy_91 : decode cX12_owedBy 91 = .ok (.iaload, 1) := by decide +kernel
theorem dX12_owedBy_92 : decode cX12_owedBy 92 = .ok (.imul, 1) := by decide +kernel
theorem dX12_owedBy_93 : decode cX12_owedBy 93 = .ok (.bipush 100, 2) := by decide +kernel
theorem dX12_owedBy_95 : decode cX12_owedBy 95 = .ok (.idiv, 1) := by decide +kernel
theorem dX12_owedBy_96 : decode cX12_owedBy 96 = .ok (.ireturn, 1) := by decide +kernel
theorem dX12_owed_0 : decode cX12_owed 0 = .ok (.aload_n 0, 1) := by decide +kernel
theorem dX12_owed_1 : decode cX12_owed 1 = .ok (.iconst 0, 1) := by decide +kernel
theorem dX12_owed_2 : decode cX12_owed 2 = .ok (.putfield 1, 3) := by decide +kernel
theorem dX12_owed_5 : decode cX12_owed 5 = .ok (.aload_n 0, 1) := by decide +kernel
theorem dX12_owed_6 : decode cX12_owed 6 = .ok (.iload_n 1, 1) := by decide +kernel
theorem dX12_owed_7 : decode cX12_owed 7 = .ok (.invokevirtual 297, 3) := by decide +kernel
theorem dX12_owed_10 : decode cX12_owed 10 = .ok (.ifCond .eq 23, 3) := by decide +kernel
theorem dX12_owed_13 : decode cX12_owed 13 = .ok (.iload_n 2, 1) := by decide +kernel
theorem dX12_owed_14 : decode cX12_owed 14 = .ok (.ldc 129, 2) := by decide +kernel
theorem dX12_owed_16 : decode cX12_owed 16 = .ok (.if_icmp .eq 10, 3) := by decide +kernel
theorem dX12_owed_19 : decode cX12_owed 19 = .ok (.iload_n 2, 1) := by decide +kernel
theorem dX12_owed_20 : decode cX12_owed 20 = .ok (.invokestatic 153, 3) := by decide +kernel
theorem dX12_owed_23 : decode cX12_owed 23 = .ok (.ifCond .eq 10, 3) := by decide +kernel
theorem dX12_owed_26 : decode cX12_owed 26 = .ok (.iload_n 3, 1) := by decide +kernel
theorem dX12_owed_27 : decode cX12_owed 27 = .ok (.invokestatic 258, 3) := by decide +kernel
theorem dX12_owed_30 : decode cX12_owed 30 = .ok (.ifCond .ne 6, 3) := by decide +kernel
theorem dX12_owed_33 : decode cX12_owed 33 = .ok (.ldc 142, 2) := by decide +kernel
theorem dX12_owed_35 : decode cX12_owed 35 = .ok (.ireturn, 1) := by decide +kernel
theorem dX12_owed_36 : decode cX12_owed 36 = .ok (.iload_n 2, 1) := by decide +kernel
theorem dX12_owed_37 : decode cX12_owed 37 = .ok (.ldc 129, 2) := by decide +kernel
theorem dX12_owed_39 : decode cX12_owed 39 = .ok (.if_icmp .eq 11, 3) := by decide +kernel
theorem dX12_owed_42 : decode cX12_owed 42 = .ok (.aload_n 0, 1) := by decide +kernel
theorem dX12_owed_43 : decode cX12_owed 43 = .ok (.iload_n 1, 1) := by decide +kernel
theorem dX12_owed_44 : decode cX12_owed 44 = .ok (.iload_n 2, 1) := by decide +kernel
theorem dX12_owed_45 : decode cX12_owed 45 = .ok (.iload_n 3, 1) := by decide +kernel
theorem dX12_owed_46 : decode cX12_owed 46 = .ok (.invokevirtual 300, 3) := by decide +kernel
theorem dX12_owed_49 : decode cX12_owed 49 = .ok (.ireturn, 1) := by decide +kernel
theorem dX12_owed_50 : decode cX12_owed 50 = .ok (.iconst 0, 1) := by decide +kernel
theorem dX12_owed_51 : decode cX12_owed 51 = .ok (.istore 4, 2) := by decide +kernel
theorem dX12_owed_53 : decode cX12_owed 53 = .ok (.iconst 1, 1) := by decide +kernel
theorem dX12_owed_54 : decode cX12_owed 54 = .ok (.istore 5, 2) := by decide +kernel
theorem dX12_owed_56 : decode cX12_owed 56 = .ok (.iload 5, 2) := by decide +kernel
theorem dX12_owed_58 : decode cX12_owed 58 = .ok (.bipush 9, 2) := by decide +kernel
theorem dX12_owed_60 : decode cX12_owed 60 = .ok (.if_icmp .ge 37, 3) := by decide +kernel
theorem dX12_owed_63 : decode cX12_owed 63 = .ok (.aload_n 0, 1) := by decide +kernel
theorem dX12_owed_64 : decode cX12_owed 64 = .ok (.iload_n 1, 1) := by decide +kernel
theorem dX12_owed_65 : decode cX12_owed 65 = .ok (.iload 5, 2) := by decide +kernel
theorem dX12_owed_67 : decode cX12_owed 67 = .ok (.iload_n 3, 1) := by decide +kernel
theorem dX12_owed_68 : decode cX12_owed 68 = .ok (.invokevirtual 300, 3) := by decide +kernel
theorem dX12_owed_71 : decode cX12_owed 71 = .ok (.aload_n 0, 1) := by decide +kernel
theorem dX12_owed_72 : decode cX12_owed 72 = .ok (.iload_n 1, 1) := by decide +kernel
theorem dX12_owed_73 : decode cX12_owed 73 = .ok (.iload 4, 2) := by decide +kernel
theorem dX12_owed_75 : decode cX12_owed 75 = .ok (.iload_n 3, 1) := by decide +kernel
theorem dX12_owed_76 : decode cX12_owed 76 = .ok (.invokevirtual 300, 3) := by decide +kernel
theorem dX12_owed_79 : decode cX12_owed 79 = .ok (.if_icmp .ge 8, 3) := by decide +kernel
theorem dX12_owed_82 : decode cX12_owed 82 = .ok (.iload 5, 2) := by decide +kernel
theorem dX12_owed_84 : decode cX12_owed 84 = .ok (.goto 5, 3) := by decide +kernel
theorem dX12_owed_87 : decode cX12_owed 87 = .ok (.iload 4, 2) := by decide +kernel
theorem dX12_owed_89 : decode cX12_owed 89 = .ok (.istore 4, 2) := by decide +kernel
theorem dX12_owed_91 : decode cX12_owed 91 = .ok (.iinc 5 1, 3) := by decide +kernel
theorem dX12_owed_94 : decode cX12_owed 94 = .ok (.goto (-38), 3) := by decide +kernel
theorem dX12_owed_97 : decode cX12_owed 97 = .ok (.iload 4, 2) := by decide +kernel
theorem dX12_owed_99 : decode cX12_owed 99 = .ok (.ireturn, 1) := by decide +kernel
theorem dX12_pass_0 : decode cX12_pass 0 = .ok (.aload_n 0, 1) := by decide +kernel
theorem dX12_pass_1 : decode cX12_pass 1 = .ok (.iconst 0, 1) := by decide +kernel
theorem dX12_pass_2 : decode cX12_pass 2 = .ok (.putfield 1, 3) := by decide +kernel
theorem dX12_pass_5 : decode cX12_pass 5 = .ok (.aload_n 0, 1) := by decide +kernel
theorem dX12_pass_6 : decode cX12_pass 6 = .ok (.iload_n 1, 1) := by decide +kernel
theorem dX12_pass_7 : decode cX12_pass 7 = .ok (.invokevirtual 297, 3) := by decide +kernel
theorem dX12_pass_10 : decode cX12_pass 10 = .ok (.ifCond .eq 49, 3) := by decide +kernel
theorem dX12_pass_13 : decode cX12_pass 13 = .ok (.iload_n 2, 1) := by decide +kernel
theorem dX12_pass_14 : decode cX12_pass 14 = .ok (.i2l, 1) := by decide +kernel
theorem dX12_pass_15 : decode cX12_pass 15 = .ok (.lconst 0, 1) := by decide +kernel
theorem dX12_pass_16 : decode cX12_pass 16 = .ok (.lconst 1, 1) := by decide +kernel
theorem dX12_pass_17 : decode cX12_pass 17 = .ok (.invokestatic 132, 3) := by decide +kernel
theorem dX12_pass_20 : decode cX12_pass 20 = .ok (.ifCond .eq 39, 3) := by decide +kernel
theorem dX12_pass_23 : decode cX12_pass 23 = .ok (.iload_n 3, 1) := by decide +kernel
theorem dX12_pass_24 : decode cX12_pass 24 = .ok (.invokestatic 153, 3) := by decide +kernel
theorem dX12_pass_27 : decode cX12_pass 27 = .ok (.ifCond .eq 32, 3) := by decide +kernel
theorem dX12_pass_30 : decode cX12_pass 30 = .ok (.iload 4, 2) := by decide +kernel
theorem dX12_pass_32 : decode cX12_pass 32 = .ok (.invokestatic 258, 3) := by decide +kernel
theorem dX12_pass_35 : decode cX12_pass 35 = .ok (.ifCond .eq 24, 3) := by decide +kernel
theorem dX12_pass_38 : decode cX12_pass 38 = .ok (.iload 5, 2) := by decide +kernel
theorem dX12_pass_40 : decode cX12_pass 40 = .ok (.invokestatic 156, 3) := by decide +kernel
theorem dX12_pass_43 : decode cX12_pass 43 = .ok (.ifCond .eq 16, 3) := by decide +kernel
theorem dX12_pass_46 : decode cX12_pass 46 = .ok (.iload 6, 2) := by decide +kernel
theorem dX12_pass_48 : decode cX12_pass 48 = .ok (.i2l, 1) := by decide +kernel
theorem dX12_pass_49 : decode cX12_pass 49 = .ok (.lconst 0, 1) := by decide +kernel
theorem dX12_pass_50 : decode cX12_pass 50 = .ok (.ldc2_w 303, 3) := by decide +kernel
theorem dX12_pass_53 : decode cX12_pass 53 = .ok (.invokestatic 132, 3) := by decide +kernel
theorem dX12_pass_56 : decode cX12_pass 56 = .ok (.ifCond .ne 6, 3) := by decide +kernel
theorem dX12_pass_59 : decode cX12_pass 59 = .ok (.ldc 142, 2) := by decide +kernel
theorem dX12_pass_61 : decode cX12_pass 61 = .ok (.ireturn, 1) := by decide +kernel
theorem dX12_pass_62 : decode cX12_pass 62 = .ok (.aload_n 0, 1) := by decide +kernel
theorem dX12_pass_63 : decode cX12_pass 63 = .ok (.getfield 305, 3) := by decide +kernel
theorem dX12_pass_66 : decode cX12_pass 66 = .ok (.bipush 60, 2) := by decide +kernel
theorem dX12_pass_68 : decode cX12_pass 68 = .ok (.if_icmp .ne 6, 3) := by decide +kernel
theorem dX12_pass_71 : decode cX12_pass 71 = .ok (.ldc 170, 2) := by decide +kernel
theorem dX12_pass_73 : decode cX12_pass 73 = .ok (.ireturn, 1) := by decide +kernel
theorem dX12_pass_74 : decode cX12_pass 74 = .ok (.aload_n 0, 1) := by decide +kernel
theorem dX12_pass_75 : decode cX12_pass 75 = .ok (.getfield 60, 3) := by decide +kernel
theorem dX12_pass_78 : decode cX12_pass 78 = .ok (.aload_n 0, 1) := by decide +kernel
theorem dX12_pass_79 : decode cX12_pass 79 = .ok (.getfield 305, 3) := by decide +kernel
theorem dX12_pass_82 : decode cX12_pass 82 = .ok (.iload_n 1, 1) := by decide +kernel
theorem dX12_pass_83 : decode cX12_pass 83 = .ok (.iastore, 1) := by decide +kernel
theorem dX12_pass_84 : decode cX12_pass 84 = .ok (.aload_n 0, 1) := by decide +kernel
theorem dX12_pass_85 : decode cX12_pass 85 = .ok (.getfield 63, 3) := by decide +kernel
theorem dX12_pass_88 : decode cX12_pass 88 = .ok (.aload_n 0, 1) := by decide +kernel
theorem dX12_pass_89 : decode cX12_pass 89 = .ok (.getfield 305, 3) := by decide +kernel
theorem dX12_pass_92 : decode cX12_pass 92 = .ok (.iload_n 2, 1) := by decide +kernel
theorem dX12_pass_93 : decode cX12_pass 93 = .ok (.iastore, 1) := by decide +kernel
theorem dX12_pass_94 : decode cX12_pass 94 = .ok (.aload_n 0, 1) := by decide +kernel
theorem dX12_pass_95 : decode cX12_pass 95 = .ok (.getfield 66, 3) := by decide +kernel
theorem dX12_pass_98 : decode cX12_pass 98 = .ok (.aload_n 0, 1) := by decide +kernel
theorem dX12_pass_99 : decode cX12_pass 99 = .ok (.getfield 305, 3) := by decide +kernel
theorem dX12_pass_102 : decode cX12_pass 102 = .ok (.iload_n 3, 1) := by decide +kernel
theorem dX12_pass_103 : decode cX12_pass 103 = .ok (.iastore, 1) := by decide +kernel
theorem dX12_pass_104 : decode cX12_pass 104 = .ok (.aload_n 0, 1) := by decide +kernel
theorem dX12_pass_105 : decode cX12_pass 105 = .ok (.getfield 69, 3) := by decide +kernel
theorem dX12_pass_108 : decode cX12_pass 108 = .ok (.aload_n 0, 1) := by decide +kernel
theorem dX12_pass_109 : decode cX12_pass 109 = .ok (.getfield 305, 3) := by decide +kernel
theorem dX12_pass_112 : decode cX12_pass 112 = .ok (.sipush 1440, 3) := by decide +kernel
theorem dX12_pass_115 : decode cX12_pass 115 = .ok (.iload 4, 2) := by decide +kernel
theorem dX12_pass_117 : decode cX12_pass 117 = .ok (.imul, 1) := by decide +kernel
theorem dX12_pass_118 : decode cX12_pass 118 = .ok (.iload 5, 2) := by decide +kernel
theorem dX12_pass_120 : decode cX12_pass 120 = .ok (.iadd, 1) := by decide +kernel
theorem dX12_pass_121 : decode cX12_pass 121 = .ok (.iastore, 1) := by decide +kernel
theorem dX12_pass_122 : decode cX12_pass 122 = .ok (.aload_n 0, 1) := by decide +kernel
theorem dX12_pass_123 : decode cX12_pass 123 = .ok (.getfield 72, 3) := by decide +kernel
theorem dX12_pass_126 : decode cX12_pass 126 = .ok (.aload_n 0, 1) := by decide +kernel
theorem dX12_pass_127 : decode cX12_pass 127 = .ok (.getfield 305, 3) := by decide +kernel
theorem dX12_pass_130 : decode cX12_pass 130 = .ok (.iload 6, 2) := by decide +kernel
theorem dX12_pass_132 : decode cX12_pass 132 = .ok (.iastore, 1) := by decide +kernel
theorem dX12_pass_133 : decode cX12_pass 133 = .ok (.aload_n 0, 1) := by decide +kernel
theorem dX12_pass_134 : decode cX12_pass 134 = .ok (.dup, 1) := by decide +kernel
theorem dX12_pass_135 : decode cX12_pass 135 = .ok (.getfield 305, 3) := by decide +kernel
theorem dX12_pass_138 : decode cX12_pass 138 = .ok (.iconst 1, 1) := by decide +kernel
theorem dX12_pass_139 : decode cX12_pass 139 = .ok (.iadd, 1) := by decide +kernel
theorem dX12_pass_140 : decode cX12_pass 140 = .ok (.putfield 305, 3) := by decide +kernel
theorem dX12_pass_143 : decode cX12_pass 143 = .ok (.aload_n 0, 1) := by decide +kernel
theorem dX12_pass_144 : decode cX12_pass 144 = .ok (.getfield 305, 3) := by decide +kernel
theorem dX12_pass_147 : decode cX12_pass 147 = .ok (.ireturn, 1) := by decide +kernel
theorem dX12_goThrough_0 : decode cX12_goThrough 0 = .ok (.aload_n 0, 1) := by decide +kernel
theorem dX12_goThrough_1 : decode cX12_goThrough 1 = .ok (.iconst 0, 1) := by decide +kernel
theorem dX12_goThrough_2 : decode cX12_goThrough 2 = .ok (.putfield 308, 3) := by decide +kernel
theorem dX12_goThrough_5 : decode cX12_goThrough 5 = .ok (.aload_n 0, 1) := by decide +kernel
theorem dX12_goThrough_6 : decode cX12_goThrough 6 = .ok (.iconst 0, 1) := by decide +kernel
theorem dX12_goThrough_7 : decode cX12_goThrough 7 = .ok (.putfield 311, 3) := by decide +kernel
theorem dX12_goThrough_10 : decode cX12_goThrough 10 = .ok (.aload_n 0, 1) := by decide +kernel
theorem dX12_goThrough_11 : decode cX12_goThrough 11 = .ok (.iconst 0, 1) := by decide +kernel
theorem dX12_goThrough_12 : decode cX12_goThrough 12 = .ok (.putfield 314, 3) := by decide +kernel
theorem dX12_goThrough_15 : decode cX12_goThrough 15 = .ok (.iconst 0, 1) := by decide +kernel
theorem dX12_goThrough_16 : decode cX12_goThrough 16 = .ok (.istore_n 1, 1) := by decide +kernel
theorem dX12_goThrough_17 : decode cX12_goThrough 17 = .ok (.iload_n 1, 1) := by decide +kernel
theorem dX12_goThrough_18 : decode cX12_goThrough 18 = .ok (.aload_n 0, 1) := by decide +kernel
theorem dX12_goThrough_19 : decode cX12_goThrough 19 = .ok (.getfield 287, 3) := by decide +kernel
theorem dX12_goThrough_22 : decode cX12_goThrough 22 = .ok (.if_icmp .ge 244, 3) := by decide +kernel
theorem dX12_goThrough_25 : decode cX12_goThrough 25 = .ok (.iconst 0, 1) := by decide +kernel
theorem dX12_goThrough_26 : decode cX12_goThrough 26 = .ok (.istore_n 2, 1) := by decide +kernel
theorem dX12_goThrough_27 : decode cX12_goThrough 27 = .ok (.iconst 0, 1) := by decide +kernel
theorem dX12_goThrough_28 : decode cX12_goThrough 28 = .ok (.istore_n 3, 1) := by decide +kernel
theorem dX12_goThrough_29 : decode cX12_goThrough 29 = .ok (.lconst 0, 1) := by decide +kernel
theorem dX12_goThrough_30 : decode cX12_goThrough 30 = .ok (.lstore 4, 2) := by decide +kernel
theorem dX12_goThrough_32 : decode cX12_goThrough 32 = .ok (.iconst 1, 1) := by decide +kernel
theorem dX12_goThrough_33 : decode cX12_goThrough 33 = .ok (.istore 6, 2) := by decide +kernel
theorem dX12_goThrough_35 : decode cX12_goThrough 35 = .ok (.iload 6, 2) := by decide +kernel
theorem dX12_goThrough_37 : decode cX12_goThrough 37 = .ok (.ifCond .eq 195, 3) := by decide +kernel
theorem dX12_goThrough_40 : decode cX12_goThrough 40 = .ok (.ldc 129, 2) := by decide +kernel
theorem dX12_goThrough_42 : decode cX12_goThrough 42 = .ok (.istore 7, 2) := by decide +kernel
theorem dX12_goThrough_44 : decode cX12_goThrough 44 = .ok (.iconst 0, 1) := by decide +kernel
theorem dX12_goThrough_45 : decode cX12_goThrough 45 = .ok (.istore 8, 2) := by decide +kernel
theorem dX12_goThrough_47 : decode cX12_goThrough 47 = .ok (.iload 8, 2) := by decide +kernel
theorem dX12_goThrough_49 : decode cX12_goThrough 49 = .ok (.aload_n 0, 1) := by decide +kernel
theorem dX12_goThrough_50 : decode cX12_goThrough 50 = .ok (.getfield 305, 3) := by decide +kernel
theorem dX12_goThrough_53 : decode cX12_goThrough 53 = .ok (.if_icmp .ge 77, 3) := by decide +kernel
theorem dX12_goThrough_56 : decode cX12_goThrough 56 = .ok (.aload_n 0, 1) := by decide +kernel
theorem dX12_goThrough_57 : decode cX12_goThrough 57 = .ok (.getfield 60, 3) := by decide +kernel
theorem dX12_goThrough_60 : decode cX12_goThrough 60 = .ok (.iload 8, 2) := by decide +kernel
theorem dX12_goThrough_62 : decode cX12_goThrough 62 = .ok (.iaload, 1) := by decide +kernel
theorem dX12_goThrough_63 : decode cX12_goThrough 63 = .ok (.iload_n 1, 1) := by decide +kernel
theorem dX12_goThrough_64 : decode cX12_goThrough 64 = .ok (.if_icmp .ne 19, 3) := by decide +kernel
theorem dX12_goThrough_67 : decode cX12_goThrough 67 = .ok (.lload 4, 2) := by decide +kernel
theorem dX12_goThrough_69 : decode cX12_goThrough 69 = .ok (.iload 8, 2) := by decide +kernel
theorem dX12_goThrough_71 : decode cX12_goThrough 71 = .ok (.lshr, 1) := by decide +kernel
theorem dX12_goThrough_72 : decode cX12_goThrough 72 = .ok (.lconst 1, 1) := by decide +kernel
theorem dX12_goThrough_73 : decode cX12_goThrough 73 = .ok (.land, 1) := by decide +kernel
theorem dX12_goThrough_74 : decode cX12_goThrough 74 = .ok (.lconst 0, 1) := by decide +kernel
theorem dX12_goThrough_75 : decode cX12_goThrough 75 = .ok (.lcmp, 1) := by decide +kernel
theorem dX12_goThrough_76 : decode cX12_goThrough 76 = .ok (.ifCond .ne 7, 3) := by decide +kernel
theorem dX12_goThrough_79 : decode cX12_goThrough 79 = .ok (.iconst 1, 1) := by decide +kernel
theorem dX12_goThrough_80 : decode cX12_goThrough 80 = .ok (.goto 4, 3) := by decide +kernel
theorem dX12_goThrough_83 : decode cX12_goThrough 83 = .ok (.iconst 0, 1) := by decide +kernel
theorem dX12_goThrough_84 : decode cX12_goThrough 84 = .ok (.istore 9, 2) := by decide +kernel
theorem dX12_goThrough_86 : decode cX12_goThrough 86 = .ok (.iload 9, 2) := by decide +kernel
theorem dX12_goThrough_88 : decode cX12_goThrough 88 = .ok (.ifCond .eq 32, 3) := by decide +kernel
theorem dX12_goThrough_91 : decode cX12_goThrough 91 = .ok (.iload 7, 2) := by decide +kernel
theorem dX12_goThrough_93 : decode cX12_goThrough 93 = .ok (.ldc 129, 2) := by decide +kernel
theorem dX12_goThrough_95 : decode cX12_goThrough 95 = .ok (.if_icmp .eq 20, 3) := by decide +kernel
theorem dX12_goThrough_98 : decode cX12_goThrough 98 = .ok (.aload_n 0, 1) := by decide +kernel
theorem dX12_goThrough_99 : decode cX12_goThrough 99 = .ok (.getfield 69, 3) := by decide +kernel
theorem dX12_goThrough_102 : decode cX12_goThrough 102 = .ok (.iload 8, 2) := by decide +kernel
theorem dX12_goThrough_104 : decode cX12_goThrough 104 = .ok (.iaload, 1) := by decide +kernel
theorem dX12_goThrough_105 : decode cX12_goThrough 105 = .ok (.aload_n 0, 1) := by decide +kernel
theorem dX12_goThrough_106 : decode cX12_goThrough 106 = .ok (.getfield 69, 3) := by decide +kernel
theorem dX12_goThrough_109 : decode cX12_goThrough 109 = .ok (.iload 7, 2) := by decide +kernel
theorem dX12_goThrough_111 : decode cX12_goThrough 111 = .ok (.iaload, 1) := by decide +kernel
theorem dX12_goThrough_112 : decode cX12_goThrough 112 = .ok (.if_icmp .ge 8, 3) := by decide +kernel
theorem dX12_goThrough_115 : decode cX12_goThrough 115 = .ok (.iload 8, 2) := by decide +kernel
theorem dX12_goThrough_117 : decode cX12_goThrough 117 = .ok (.goto 5, 3) := by decide +kernel
theorem dX12_goThrough_120 : decode cX12_goThrough 120 = .ok (.iload 7, 2) := by decide +kernel
theorem dX12_goThrough_122 : decode cX12_goThrough 122 = .ok (.istore 7, 2) := by decide +kernel
theorem dX12_goThrough_124 : decode cX12_goThrough 124 = .ok (.iinc 8 1, 3) := by decide +kernel
theorem dX12_goThrough_127 : decode cX12_goThrough 127 = .ok (.goto (-80), 3) := by decide +kernel
theorem dX12_goThrough_130 : decode cX12_goThrough 130 = .ok (.iload 7, 2) := by decide +kernel
theorem dX12_goThrough_132 : decode cX12_goThrough 132 = .ok (.ldc 129, 2) := by decide +kernel
theorem dX12_goThrough_134 : decode cX12_goThrough 134 = .ok (.if_icmp .eq 7, 3) := by decide +kernel
theorem dX12_goThrough_137 : decode cX12_goThrough 137 = .ok (.iconst 1, 1) := by decide +kernel
theorem dX12_goThrough_138 : decode cX12_goThrough 138 = .ok (.goto 4, 3) := by decide +kernel
theorem dX12_goThrough_141 : decode cX12_goThrough 141 = .ok (.iconst 0, 1) := by decide +kernel
theorem dX12_goThrough_142 : decode cX12_goThrough 142 = .ok (.istore 6, 2) := by decide +kernel
theorem dX12_goThrough_144 : decode cX12_goThrough 144 = .ok (.iload 6, 2) := by decide +kernel
theorem dX12_goThrough_146 : decode cX12_goThrough 146 = .ok (.ifCond .eq 83, 3) := by decide +kernel
theorem dX12_goThrough_149 : decode cX12_goThrough 149 = .ok (.lload 4, 2) := by decide +kernel
theorem dX12_goThrough_151 : decode cX12_goThrough 151 = .ok (.lconst 1, 1) := by decide +kernel
theorem dX12_goThrough_152 : decode cX12_goThrough 152 = .ok (.iload 7, 2) := by decide +kernel
theorem dX12_goThrough_154 : decode cX12_goThrough 154 = .ok (.lshl, 1) := by decide +kernel
theorem dX12_goThrough_155 : decode cX12_goThrough 155 = .ok (.lor, 1) := by decide +kernel
theorem dX12_goThrough_156 : decode cX12_goThrough 156 = .ok (.lstore 4, 2) := by decide +kernel
theorem dX12_goThrough_158 : decode cX12_goThrough 158 = .ok (.aload_n 0, 1) := by decide +kernel
theorem dX12_goThrough_159 : decode cX12_goThrough 159 = .ok (.dup, 1) := by decide +kernel
theorem dX12_goThrough_160 : decode cX12_goThrough 160 = .ok (.getfield 308, 3) := by decide +kernel
theorem dX12_goThrough_163 : decode cX12_goThrough 163 = .ok (.aload_n 0, 1) := by decide +kernel
theorem dX12_goThrough_164 : decode cX12_goThrough 164 = .ok (.getfield 63, 3) := by decide +kernel
theorem dX12_goThrough_167 : decode cX12_goThrough 167 = .ok (.iload 7, 2) := by decide +kernel
theorem dX12_goThrough_169 : decode cX12_goThrough 169 = .ok (.iaload, 1) := by decide +kernel
theorem dX12_goThrough_170 : decode cX12_goThrough 170 = .ok (.iload_n 2, 1) := by decide +kernel
theorem dX12_goThrough_171 : decode cX12_goThrough 171 = .ok (.if_icmp .eq 28, 3) := by decide +kernel
theorem dX12_goThrough_174 : decode cX12_goThrough 174 = .ok (.aload_n 0, 1) := by decide +kernel
theorem dX12_goThrough_175 : decode cX12_goThrough 175 = .ok (.aload_n 0, 1) := by decide +kernel
theorem dX12_goThrough_176 : decode cX12_goThrough 176 = .ok (.getfield 66, 3) := by decide +kernel
theorem dX12_goThrough_179 : decode cX12_goThrough 179 = .ok (.iload 7, 2) := by decide +kernel
theorem dX12_goThrough_181 : decode cX12_goThrough 181 = .ok (.iaload, 1) := by decide +kernel
theorem dX12_goThrough_182 : decode cX12_goThrough 182 = .ok (.aload_n 0, 1) := by decide +kernel
theorem dX12_goThrough_183 : decode cX12_goThrough 183 = .ok (.getfield 69, 3) := by decide +kernel
theorem dX12_goThrough_186 : decode cX12_goThrough 186 = .ok (.iload 7, 2) := by decide +kernel
theorem dX12_goThrough_188 : decode cX12_goThrough 188 = .ok (.iaload, 1) := by decide +kernel
theorem dX12_goThrough_189 : decode cX12_goThrough 189 = .ok (.sipush 1440, 3) := by decide +kernel
theorem dX12_goThrough_192 : decode cX12_goThrough 192 = .ok (.irem, 1) := by decide +kernel
theorem dX12_goThrough_193 : decode cX12_goThrough 193 = .ok (.invokevirtual 317, 3) := by decide +kernel
theorem dX12_goThrough_196 : decode cX12_goThrough 196 = .ok (.ifCond .ne 7, 3) := by decide +kernel
theorem dX12_goThrough_199 : decode cX12_goThrough 199 = .ok (.iconst 1, 1) := by decide +kernel
theorem dX12_goThrough_200 : decode cX12_goThrough 200 = .ok (.goto 4, 3) := by decide +kernel
theorem dX12_goThrough_203 : decode cX12_goThrough 203 = .ok (.iconst 0, 1) := by decide +kernel
theorem dX12_goThrough_204 : decode cX12_goThrough 204 = .ok (.iadd, 1) := by decide +kernel
theorem dX12_goThrough_205 : decode cX12_goThrough 205 = .ok (.putfield 308, 3) := by decide +kernel
theorem dX12_goThrough_208 : decode cX12_goThrough 208 = .ok (.aload_n 0, 1) := by decide +kernel
theorem dX12_goThrough_209 : decode cX12_goThrough 209 = .ok (.getfield 63, 3) := by decide +kernel
theorem dX12_goThrough_212 : decode cX12_goThrough 212 = .ok (.iload 7, 2) := by decide +kernel
theorem dX12_goThrough_214 : decode cX12_goThrough 214 = .ok (.iaload, 1) := by decide +kernel
theorem dX12_goThrough_215 : decode cX12_goThrough 215 = .ok (.istore_n 2, 1) := by decide +kernel
theorem dX12_goThrough_216 : decode cX12_goThrough 216 = .ok (.iload_n 3, 1) := by decide +kernel
theorem dX12_goThrough_217 : decode cX12_goThrough 217 = .ok (.iload_n 2, 1) := by decide +kernel
theorem dX12_goThrough_218 : decode cX12_goThrough 218 = .ok (.iconst 1, 1) := by decide +kernel
theorem dX12_goThrough_219 : decode cX12_goThrough 219 = .ok (.if_icmp .ne 7, 3) := by decide +kernel
theorem dX12_goThrough_222 : decode cX12_goThrough 222 = .ok (.iconst 1, 1) := by decide +kernel
theorem dX12_goThrough_223 : decode cX12_goThrough 223 = .ok (.goto 4, 3) := by decide +kernel
theorem dX12_goThrough_226 : decode cX12_goThrough 226 = .ok (.iconst (-1), 1) := by decide +kernel
theorem dX12_goThrough_227 : decode cX12_goThrough 227 = .ok (.iadd, 1) := by decide +kernel
theorem dX12_goThrough_228 : decode cX12_goThrough 228 = .ok (.istore_n 3, 1) := by decide +kernel
theorem dX12_goThrough_229 : decode cX12_goThrough 229 = .ok (.goto (-194), 3) := by decide +kernel
theorem dX12_goThrough_232 : decode cX12_goThrough 232 = .ok (.aload_n 0, 1) := by decide +kernel
theorem dX12_goThrough_233 : decode cX12_goThrough 233 = .ok (.dup, 1) := by decide +kernel
theorem dX12_goThrough_234 : decode cX12_goThrough 234 = .ok (.getfield 311, 3) := by decide +kernel
theorem dX12_goThrough_237 : decode cX12_goThrough 237 = .ok (.iload_n 2, 1) := by decide +kernel
theorem dX12_goThrough_238 : decode cX12_goThrough 238 = .ok (.iadd, 1) := by decide +kernel
theorem dX12_goThrough_239 : decode cX12_goThrough 239 = .ok (.putfield 311, 3) := by decide +kernel
theorem dX12_goThrough_242 : decode cX12_goThrough 242 = .ok (.aload_n 0, 1) := by decide +kernel
theorem dX12_goThrough_243 : decode cX12_goThrough 243 = .ok (.dup, 1) := by decide +kernel
theorem dX12_goThrough_244 : decode cX12_goThrough 244 = .ok (.getfield 314, 3) := by decide +kernel
theorem dX12_goThrough_247 : decode cX12_goThrough 247 = .ok (.iload_n 3, 1) := by decide +kernel
theorem dX12_goThrough_248 : decode cX12_goThrough 248 = .ok (.ifCond .ge 7, 3) := by decide +kernel
theorem dX12_goThrough_251 : decode cX12_goThrough 251 = .ok (.iconst 1, 1) := by decide +kernel
theorem dX12_goThrough_252 : decode cX12_goThrough 252 = .ok (.goto 4, 3) := by decide +kernel
theorem dX12_goThrough_255 : decode cX12_goThrough 255 = .ok (.iconst 0, 1) := by decide +kernel
theorem dX12_goThrough_256 : decode cX12_goThrough 256 = .ok (.iadd, 1) := by decide +kernel
theorem dX12_goThrough_257 : decode cX12_goThrough 257 = .ok (.putfield 314, 3) := by decide +kernel
theorem dX12_goThrough_260 : decode cX12_goThrough 260 = .ok (.iinc 1 1, 3) := by decide +kernel
theorem dX12_goThrough_263 : decode cX12_goThrough 263 = .ok (.goto (-246), 3) := by decide +kernel
theorem dX12_goThrough_266 : decode cX12_goThrough 266 = .ok (.return_, 1) := by decide +kernel
theorem dX12_agree_0 : decode cX12_agree 0 = .ok (.aload_n 0, 1) := by decide +kernel
theorem dX12_agree_1 : decode cX12_agree 1 = .ok (.iconst 0, 1) := by decide +kernel
theorem dX12_agree_2 : decode cX12_agree 2 = .ok (.putfield 1, 3) := by decide +kernel
theorem dX12_agree_5 : decode cX12_agree 5 = .ok (.iload_n 1, 1) := by decide +kernel
theorem dX12_agree_6 : decode cX12_agree 6 = .ok (.i2l, 1) := by decide +kernel
theorem dX12_agree_7 : decode cX12_agree 7 = .ok (.lconst 0, 1) := by decide +kernel
theorem dX12_agree_8 : decode cX12_agree 8 = .ok (.ldc2_w 140, 3) := by decide +kernel
theorem dX12_agree_11 : decode cX12_agree 11 = .ok (.invokestatic 132, 3) := by decide +kernel
theorem dX12_agree_14 : decode cX12_agree 14 = .ok (.ifCond .ne 6, 3) := by decide +kernel
theorem dX12_agree_17 : decode cX12_agree 17 = .ok (.ldc 142, 2) := by decide +kernel
theorem dX12_agree_19 : decode cX12_agree 19 = .ok (.ireturn, 1) := by decide +kernel
theorem dX12_agree_20 : decode cX12_agree 20 = .ok (.aload_n 0, 1) := by decide +kernel
theorem dX12_agree_21 : decode cX12_agree 21 = .ok (.invokevirtual 320, 3) := by decide +kernel
theorem dX12_agree_24 : decode cX12_agree 24 = .ok (.iload_n 1, 1) := by decide +kernel
theorem dX12_agree_25 : decode cX12_agree 25 = .ok (.ifCond .ne 10, 3) := by decide +kernel
theorem dX12_agree_28 : decode cX12_agree 28 = .ok (.aload_n 0, 1) := by decide +kernel
theorem dX12_agree_29 : decode cX12_agree 29 = .ok (.getfield 308, 3) := by decide +kernel
theorem dX12_agree_32 : decode cX12_agree 32 = .ok (.goto 19, 3) := by decide +kernel
theorem dX12_agree_35 : decode cX12_agree 35 = .ok (.iload_n 1, 1) := by decide +kernel
theorem dX12_agree_36 : decode cX12_agree 36 = .ok (.iconst 1, 1) := by decide +kernel
theorem dX12_agree_37 : decode cX12_agree 37 = .ok (.if_icmp .ne 10, 3) := by decide +kernel
theorem dX12_agree_40 : decode cX12_agree 40 = .ok (.aload_n 0, 1) := by decide +kernel
theorem dX12_agree_41 : decode cX12_agree 41 = .ok (.getfield 311, 3) := by decide +kernel
theorem dX12_agree_44 : decode cX12_agree 44 = .ok (.goto 7, 3) := by decide +kernel
theorem dX12_agree_47 : decode cX12_agree 47 = .ok (.aload_n 0, 1) := by decide +kernel
theorem dX12_agree_48 : decode cX12_agree 48 = .ok (.getfield 314, 3) := by decide +kernel
theorem dX12_agree_51 : decode cX12_agree 51 = .ok (.ireturn, 1) := by decide +kernel
theorem dX12_amiss_0 : decode cX12_amiss 0 = .ok (.aload_n 0, 1) := by decide +kernel
theorem dX12_amiss_1 : decode cX12_amiss 1 = .ok (.iconst 0, 1) := by decide +kernel
theorem dX12_amiss_2 : decode cX12_amiss 2 = .ok (.putfield 1, 3) := by decide +kernel
theorem dX12_amiss_5 : decode cX12_amiss 5 = .ok (.iload_n 1, 1) := by decide +kernel
theorem dX12_amiss_6 : decode cX12_amiss 6 = .ok (.ldc 129, 2) := by decide +kernel
theorem dX12_amiss_8 : decode cX12_amiss 8 = .ok (.if_icmp .eq 10, 3) := by decide +kernel
theorem dX12_amiss_11 : decode cX12_amiss 11 = .ok (.iload_n 1, 1) := by decide +kernel
theorem dX12_amiss_12 : decode cX12_amiss 12 = .ok (.invokestatic 153, 3) := by decide +kernel
theorem dX12_amiss_15 : decode cX12_amiss 15 = .ok (.ifCond .eq 23, 3) := by decide +kernel
theorem dX12_amiss_18 : decode cX12_amiss 18 = .ok (.iload_n 2, 1) := by decide +kernel
theorem dX12_amiss_19 : decode cX12_amiss 19 = .ok (.invokestatic 258, 3) := by decide +kernel
theorem dX12_amiss_22 : decode cX12_amiss 22 = .ok (.ifCond .eq 16, 3) := by decide +kernel
theorem dX12_amiss_25 : decode cX12_amiss 25 = .ok (.iload_n 3, 1) := by decide +kernel
theorem dX12_amiss_26 : decode cX12_amiss 26 = .ok (.i2l, 1) := by decide +kernel
theorem dX12_amiss_27 : decode cX12_amiss 27 = .ok (.iload_n 2, 1) := by decide +kernel
theorem dX12_amiss_28 : decode cX12_amiss 28 = .ok (.i2l, 1) := by decide +kernel
theorem dX12_amiss_29 : decode cX12_amiss 29 = .ok (.ldc2_w 149, 3) := by decide +kernel
theorem dX12_amiss_32 : decode cX12_amiss 32 = .ok (.invokestatic 132, 3) := by decide +kernel
theorem dX12_amiss_35 : decode cX12_amiss 35 = .ok (.ifCond .ne 6, 3) := by decide +kernel
theorem dX12_amiss_38 : decode cX12_amiss 38 = .ok (.ldc 142, 2) := by decide +kernel
theorem dX12_amiss_40 : decode cX12_amiss 40 = .ok (.ireturn, 1) := by decide +kernel
theorem dX12_amiss_41 : decode cX12_amiss 41 = .ok (.iconst 0, 1) := by decide +kernel
theorem dX12_amiss_42 : decode cX12_amiss 42 = .ok (.istore 4, 2) := by decide +kernel
theorem dX12_amiss_44 : decode cX12_amiss 44 = .ok (.iconst 0, 1) := by decide +kernel
theorem dX12_amiss_45 : decode cX12_amiss 45 = .ok (.istore 5, 2) := by decide +kernel
theorem dX12_amiss_47 : decode cX12_amiss 47 = .ok (.iload 5, 2) := by decide +kernel
theorem dX12_amiss_49 : decode cX12_amiss 49 = .ok (.aload_n 0, 1) := by decide +kernel
theorem dX12_amiss_50 : decode cX12_amiss 50 = .ok (.getfield 305, 3) := by decide +kernel
theorem dX12_amiss_53 : decode cX12_amiss 53 = .ok (.if_icmp .ge 95, 3) := by decide +kernel
theorem dX12_amiss_56 : decode cX12_amiss 56 = .ok (.aload_n 0, 1) := by decide +kernel
theorem dX12_amiss_57 : decode cX12_amiss 57 = .ok (.getfield 69, 3) := by decide +kernel
theorem dX12_amiss_60 : decode cX12_amiss 60 = .ok (.iload 5, 2) := by decide +kernel
theorem dX12_amiss_62 : decode cX12_amiss 62 = .ok (.iaload, 1) := by decide +kernel
theorem dX12_amiss_63 : decode cX12_amiss 63 = .ok (.sipush 1440, 3) := by decide +kernel
theorem dX12_amiss_66 : decode cX12_amiss 66 = .ok (.idiv, 1) := by decide +kernel
theorem dX12_amiss_67 : decode cX12_amiss 67 = .ok (.istore 6, 2) := by decide +kernel
theorem dX12_amiss_69 : decode cX12_amiss 69 = .ok (.aload_n 0, 1) := by decide +kernel
theorem dX12_amiss_70 : decode cX12_amiss 70 = .ok (.getfield 63, 3) := by decide +kernel
theorem dX12_amiss_73 : decode cX12_amiss 73 = .ok (.iload 5, 2) := by decide +kernel
theorem dX12_amiss_75 : decode cX12_amiss 75 = .ok (.iaload, 1) := by decide +kernel
theorem dX12_amiss_76 : decode cX12_amiss 76 = .ok (.iconst 1, 1) := by decide +kernel
theorem dX12_amiss_77 : decode cX12_amiss 77 = .ok (.if_icmp .ne 65, 3) := by decide +kernel
theorem dX12_amiss_80 : decode cX12_amiss 80 = .ok (.iload_n 1, 1) := by decide +kernel
theorem dX12_amiss_81 : decode cX12_amiss 81 = .ok (.ldc 129, 2) := by decide +kernel
theorem dX12_amiss_83 : decode cX12_amiss 83 = .ok (.if_icmp .eq 14, 3) := by decide +kernel
theorem dX12_amiss_86 : decode cX12_amiss 86 = .ok (.aload_n 0, 1) := by decide +kernel
theorem dX12_amiss_87 : decode cX12_amiss 87 = .ok (.getfield 66, 3) := by decide +kernel
theorem dX12_amiss_90 : decode cX12_amiss 90 = .ok (.iload 5, 2) := by decide +kernel
theorem dX12_amiss_92 : decode cX12_amiss 92 = .ok (.iaload, 1) := by decide +kernel
theorem dX12_amiss_93 : decode cX12_amiss 93 = .ok (.iload_n 1, 1) := by decide +kernel
theorem dX12_amiss_94 : decode cX12_amiss 94 = .ok (.if_icmp .ne 48, 3) := by decide +kernel
theorem dX12_amiss_97 : decode cX12_amiss 97 = .ok (.iload 6, 2) := by decide +kernel
theorem dX12_amiss_99 : decode cX12_amiss 99 = .ok (.iload_n 2, 1) := by decide +kernel
theorem dX12_amiss_100 : decode cX12_amiss 100 = .ok (.if_icmp .lt 42, 3) := by decide +kernel
theorem dX12_amiss_103 : decode cX12_amiss 103 = .ok (.iload 6, 2) := by decide +kernel
theorem dX12_amiss_105 : decode cX12_amiss 105 = .ok (.iload_n 3, 1) := by decide +kernel
theorem dX12_amiss_106 : decode cX12_amiss 106 = .ok (.if_icmp .gt 36, 3) := by decide +kernel
theorem dX12_amiss_109 : decode cX12_amiss 109 = .ok (.iload 4, 2) := by decide +kernel
theorem dX12_amiss_111 : decode cX12_amiss 111 = .ok (.aload_n 0, 1) := by decide +kernel
theorem dX12_amiss_112 : decode cX12_amiss 112 = .ok (.aload_n 0, 1) := by decide +kernel
theorem dX12_amiss_113 : decode cX12_amiss 113 = .ok (.getfield 60, 3) := by decide +kernel
theorem dX12_amiss_116 : decode cX12_amiss 116 = .ok (.iload 5, 2) := by decide +kernel
theorem dX12_amiss_118 : decode cX12_amiss 118 = .ok (.iaload, 1) := by decide +kernel
theorem dX12_amiss_119 : decode cX12_amiss 119 = .ok (.aload_n 0, 1) := by decide +kernel
theorem dX12_amiss_120 : decode cX12_amiss 120 = .ok (.getfield 66, 3) := by decide +kernel
theorem dX12_amiss_123 : decode cX12_amiss 123 = .ok (.iload 5, 2) := by decide +kernel
theorem dX12_amiss_125 : decode cX12_amiss 125 = .ok (.iaload, 1) := by decide +kernel
theorem dX12_amiss_126 : decode cX12_amiss 126 = .ok (.iload 6, 2) := by decide +kernel
theorem dX12_amiss_128 : decode cX12_amiss 128 = .ok (.invokevirtual 300, 3) := by decide +kernel
theorem dX12_amiss_131 : decode cX12_amiss 131 = .ok (.aload_n 0, 1) := by decide +kernel
theorem dX12_amiss_132 : decode cX12_amiss 132 = .ok (.getfield 72, 3) := by decide +kernel
theorem dX12_amiss_135 : decode cX12_amiss 135 = .ok (.iload 5, 2) := by decide +kernel
theorem dX12_amiss_137 : decode cX12_amiss 137 = .ok (.iaload, 1) := by decide +kernel
theorem dX12_amiss_138 : decode cX12_amiss 138 = .ok (.isub, 1) := by decide +kernel
theorem dX12_amiss_139 : decode cX12_amiss 139 = .ok (.iadd, 1) := by decide +kernel
theorem dX12_amiss_140 : decode cX12_amiss 140 = .ok (.istore 4, 2) := by decide +kernel
theorem dX12_amiss_142 : decode cX12_amiss 142 = .ok (.iinc 5 1, 3) := by decide +kernel
theorem dX12_amiss_145 : decode cX12_amiss 145 = .ok (.goto (-98), 3) := by decide +kernel
theorem dX12_amiss_148 : decode cX12_amiss 148 = .ok (.iload 4, 2) := by decide +kernel
theorem dX12_amiss_150 : decode cX12_amiss 150 = .ok (.ireturn, 1) := by decide +kernel
theorem dX12_isTown_0 : decode cX12_isTown 0 = .ok (.iload_n 0, 1) := by decide +kernel
theorem dX12_isTown_1 : decode cX12_isTown 1 = .ok (.i2l, 1) := by decide +kernel
theorem dX12_isTown_2 : decode cX12_isTown 2 = .ok (.lconst 0, 1) := by decide +kernel
theorem dX12_isTown_3 : decode cX12_isTown 3 = .ok (.ldc2_w 130, 3) := by decide +kernel
theorem dX12_isTown_6 : decode cX12_isTown 6 = .ok (.invokestatic 132, 3) := by decide +kernel
theorem dX12_isTown_9 : decode cX12_isTown 9 = .ok (.ireturn, 1) := by decide +kernel
theorem dX12_isPerson_0 : decode cX12_isPerson 0 = .ok (.iload_n 0, 1) := by decide +kernel
theorem dX12_isPerson_1 : decode cX12_isPerson 1 = .ok (.i2l, 1) := by decide +kernel
theorem dX12_isPerson_2 : decode cX12_isPerson 2 = .ok (.lconst 0, 1) := by decide +kernel
theorem dX12_isPerson_3 : decode cX12_isPerson 3 = .ok (.ldc2_w 323, 3) := by decide +kernel
theorem dX12_isPerson_6 : decode cX12_isPerson 6 = .ok (.invokestatic 132, 3) := by decide +kernel
theorem dX12_isPerson_9 : decode cX12_isPerson 9 = .ok (.ireturn, 1) := by decide +kernel
theorem dX12_road_0 : decode cX12_road 0 = .ok (.aload_n 0, 1) := by decide +kernel
theorem dX12_road_1 : decode cX12_road 1 = .ok (.iconst 0, 1) := by decide +kernel
theorem dX12_road_2 : decode cX12_road 2 = .ok (.putfield 1, 3) := by decide +kernel
theorem dX12_road_5 : decode cX12_road 5 = .ok (.iload_n 1, 1) := by decide +kernel
theorem dX12_road_6 : decode cX12_road 6 = .ok (.invokestatic 325, 3) := by decide +kernel
theorem dX12_road_9 : decode cX12_road 9 = .ok (.ifCond .eq 33, 3) := by decide +kernel
theorem dX12_road_12 : decode cX12_road 12 = .ok (.iload_n 2, 1) := by decide +kernel
theorem dX12_road_13 : decode cX12_road 13 = .ok (.ldc 129, 2) := by decide +kernel
theorem dX12_road_15 : decode cX12_road 15 = .ok (.if_icmp .eq 10, 3) := by decide +kernel
theorem dX12_road_18 : decode cX12_road 18 = .ok (.iload_n 2, 1) := by decide +kernel
theorem dX12_road_19 : decode cX12_road 19 = .ok (.invokestatic 325, 3) := by decide +kernel
theorem dX12_road_22 : decode cX12_road 22 = .ok (.ifCond .eq 20, 3) := by decide +kernel
theorem dX12_road_25 : decode cX12_road 25 = .ok (.iload_n 1, 1) := by decide +kernel
theorem dX12_road_26 : decode cX12_road 26 = .ok (.iload_n 2, 1) := by decide +kernel
theorem dX12_road_27 : decode cX12_road 27 = .ok (.if_icmp .eq 15, 3) := by decide +kernel
theorem dX12_road_30 : decode cX12_road 30 = .ok (.iload_n 3, 1) := by decide +kernel
theorem dX12_road_31 : decode cX12_road 31 = .ok (.i2l, 1) := by decide +kernel
theorem dX12_road_32 : decode cX12_road 32 = .ok (.lconst 1, 1) := by decide +kernel
theorem dX12_road_33 : decode cX12_road 33 = .ok (.ldc2_w 328, 3) := by decide +kernel
theorem dX12_road_36 : decode cX12_road 36 = .ok (.invokestatic 132, 3) := by decide +kernel
theorem dX12_road_39 : decode cX12_road 39 = .ok (.ifCond .ne 6, 3) := by decide +kernel
theorem dX12_road_42 : decode cX12_road 42 = .ok (.ldc 142, 2) := by decide +kernel
theorem dX12_road_44 : decode cX12_road 44 = .ok (.ireturn, 1) := by decide +kernel
theorem dX12_road_45 : decode cX12_road 45 = .ok (.iload_n 2, 1) := by decide +kernel
theorem dX12_road_46 : decode cX12_road 46 = .ok (.ldc 129, 2) := by decide +kernel
theorem dX12_road_48 : decode cX12_road 48 = .ok (.if_icmp .ne 10, 3) := by decide +kernel
theorem dX12_road_51 : decode cX12_road 51 = .ok (.bipush 64, 2) := by decide +kernel
theorem dX12_road_53 : decode cX12_road 53 = .ok (.iload_n 1, 1) := by decide +kernel
theorem dX12_road_54 : decode cX12_road 54 = .ok (.iadd, 1) := by decide +kernel
theorem dX12_road_55 : decode cX12_road 55 = .ok (.goto 9, 3) := by decide +kernel
theorem dX12_road_58 : decode cX12_road 58 = .ok (.bipush 8, 2) := by decide +kernel
theorem dX12_road_60 : decode cX12_road 60 = .ok (.iload_n 1, 1) := by decide +kernel
theorem dX12_road_61 : decode cX12_road 61 = .ok (.imul, 1) := by decide +kernel
theorem dX12_road_62 : decode cX12_road 62 = .ok (.iload_n 2, 1) := by decide +kernel
theorem dX12_road_63 : decode cX12_road 63 = .ok (.iadd, 1) := by decide +kernel
theorem dX12_road_64 : decode cX12_road 64 = .ok (.istore 4, 2) := by decide +kernel
theorem dX12_road_66 : decode cX12_road 66 = .ok (.aload_n 0, 1) := by decide +kernel
theorem dX12_road_67 : decode cX12_road 67 = .ok (.getfield 75, 3) := by decide +kernel
theorem dX12_road_70 : decode cX12_road 70 = .ok (.iload 4, 2) := by decide +kernel
theorem dX12_road_72 : decode cX12_road 72 = .ok (.iaload, 1) := by decide +kernel
theorem dX12_road_73 : decode cX12_road 73 = .ok (.istore 5, 2) := by decide +kernel
theorem dX12_road_75 : decode cX12_road 75 = .ok (.aload_n 0, 1) := by decide +kernel
theorem dX12_road_76 : decode cX12_road 76 = .ok (.getfield 75, 3) := by decide +kernel
theorem dX12_road_79 : decode cX12_road 79 = .ok (.iload 4, 2) := by decide +kernel
theorem dX12_road_81 : decode cX12_road 81 = .ok (.iload_n 3, 1) := by decide +kernel
theorem dX12_road_82 : decode cX12_road 82 = .ok (.iastore, 1) := by decide +kernel
theorem dX12_road_83 : decode cX12_road 83 = .ok (.iload_n 2, 1) := by decide +kernel
theorem dX12_road_84 : decode cX12_road 84 = .ok (.ldc 129, 2) := by decide +kernel
theorem dX12_road_86 : decode cX12_road 86 = .ok (.if_icmp .eq 15, 3) := by decide +kernel
theorem dX12_road_89 : decode cX12_road 89 = .ok (.aload_n 0, 1) := by decide +kernel
theorem dX12_road_90 : decode cX12_road 90 = .ok (.getfield 75, 3) := by decide +kernel
theorem dX12_road_93 : decode cX12_road 93 = .ok (.bipush 8, 2) := by decide +kernel
theorem dX12_road_95 : decode cX12_road 95 = .ok (.iload_n 2, 1) := by decide +kernel
theorem dX12_road_96 : decode cX12_road 96 = .ok (.imul, 1) := by decide +kernel
theorem dX12_road_97 : decode cX12_road 97 = .ok (.iload_n 1, 1) := by decide +kernel
theorem dX12_road_98 : decode cX12_road 98 = .ok (.iadd, 1) := by decide +kernel
theorem dX12_road_99 : decode cX12_road 99 = .ok (.iload_n 3, 1) := by decide +kernel
theorem dX12_road_100 : decode cX12_road 100 = .ok (.iastore, 1) := by decide +kernel
theorem dX12_road_101 : decode cX12_road 101 = .ok (.iload 5, 2) := by decide +kernel
theorem dX12_road_103 : decode cX12_road 103 = .ok (.ireturn, 1) := by decide +kernel
theorem dX12_sick_0 : decode cX12_sick 0 = .ok (.aload_n 0, 1) := by decide +kernel
theorem dX12_sick_1 : decode cX12_sick 1 = .ok (.iconst 0, 1) := by decide +kernel
theorem dX12_sick_2 : decode cX12_sick 2 = .ok (.putfield 1, 3) := by decide +kernel
theorem dX12_sick_5 : decode cX12_sick 5 = .ok (.iload_n 1, 1) := by decide +kernel
theorem dX12_sick_6 : decode cX12_sick 6 = .ok (.invokestatic 325, 3) := by decide +kernel
theorem dX12_sick_9 : decode cX12_sick 9 = .ok (.ifCond .eq 23, 3) := by decide +kernel
theorem dX12_sick_12 : decode cX12_sick 12 = .ok (.iload_n 2, 1) := by decide +kernel
theorem dX12_sick_13 : decode cX12_sick 13 = .ok (.invokestatic 258, 3) := by decide +kernel
theorem dX12_sick_16 : decode cX12_sick 16 = .ok (.ifCond .eq 16, 3) := by decide +kernel
theorem dX12_sick_19 : decode cX12_sick 19 = .ok (.iload_n 3, 1) := by decide +kernel
theorem dX12_sick_20 : decode cX12_sick 20 = .ok (.i2l, 1) := by decide +kernel
theorem dX12_sick_21 : decode cX12_sick 21 = .ok (.iload_n 2, 1) := by decide +kernel
theorem dX12_sick_22 : decode cX12_sick 22 = .ok (.i2l, 1) := by decide +kernel
theorem dX12_sick_23 : decode cX12_sick 23 = .ok (.ldc2_w 149, 3) := by decide +kernel
theorem dX12_sick_26 : decode cX12_sick 26 = .ok (.invokestatic 132, 3) := by decide +kernel
theorem dX12_sick_29 : decode cX12_sick 29 = .ok (.ifCond .ne 6, 3) := by decide +kernel
theorem dX12_sick_32 : decode cX12_sick 32 = .ok (.ldc 142, 2) := by decide +kernel
theorem dX12_sick_34 : decode cX12_sick 34 = .ok (.ireturn, 1) := by decide +kernel
theorem dX12_sick_35 : decode cX12_sick 35 = .ok (.aload_n 0, 1) := by decide +kernel
theorem dX12_sick_36 : decode cX12_sick 36 = .ok (.getfield 330, 3) := by decide +kernel
theorem dX12_sick_39 : decode cX12_sick 39 = .ok (.bipush 20, 2) := by decide +kernel
theorem dX12_sick_41 : decode cX12_sick 41 = .ok (.if_icmp .ne 6, 3) := by decide +kernel
theorem dX12_sick_44 : decode cX12_sick 44 = .ok (.ldc 170, 2) := by decide +kernel
theorem dX12_sick_46 : decode cX12_sick 46 = .ok (.ireturn, 1) := by decide +kernel
theorem dX12_sick_47 : decode cX12_sick 47 = .ok (.aload_n 0, 1) := by decide +kernel
theorem dX12_sick_48 : decode cX12_sick 48 = .ok (.getfield 78, 3) := by decide +kernel
theorem dX12_sick_51 : decode cX12_sick 51 = .ok (.aload_n 0, 1) := by decide +kernel
theorem dX12_sick_52 : decode cX12_sick 52 = .ok (.getfield 330, 3) := by decide +kernel
theorem dX12_sick_55 : decode cX12_sick 55 = .ok (.iload_n 1, 1) := by decide +kernel
theorem dX12_sick_56 : decode cX12_sick 56 = .ok (.iastore, 1) := by decide +kernel
theorem dX12_sick_57 : decode cX12_sick 57 = .ok (.aload_n 0, 1) := by decide +kernel
theorem dX12_sick_58 : decode cX12_sick 58 = .ok (.getfield 81, 3) := by decide +kernel
theorem dX12_sick_61 : decode cX12_sick 61 = .ok (.aload_n 0, 1) := by decide +kernel
theorem dX12_sick_62 : decode cX12_sick 62 = .ok (.getfield 330, 3) := by decide +kernel
theorem dX12_sick_65 : decode cX12_sick 65 = .ok (.iload_n 2, 1) := by decide +kernel
theorem dX12_sick_66 : decode cX12_sick 66 = .ok (.iastore, 1) := by decide +kernel
theorem dX12_sick_67 : decode cX12_sick 67 = .ok (.aload_n 0, 1) := by decide +kernel
theorem dX12_sick_68 : decode cX12_sick 68 = .ok (.getfield 84, 3) := by decide +kernel
theorem dX12_sick_71 : decode cX12_sick 71 = .ok (.aload_n 0, 1) := by decide +kernel
theorem dX12_sick_72 : decode cX12_sick 72 = .ok (.getfield 330, 3) := by decide +kernel
theorem dX12_sick_75 : decode cX12_sick 75 = .ok (.iload_n 3, 1) := by decide +kernel
theorem dX12_sick_76 : decode cX12_sick 76 = .ok (.iastore, 1) := by decide +kernel
theorem dX12_sick_77 : decode cX12_sick 77 = .ok (.aload_n 0, 1) := by decide +kernel
theorem dX12_sick_78 : decode cX12_sick 78 = .ok (.dup, 1) := by decide +kernel
theorem dX12_sick_79 : decode cX12_sick 79 = .ok (.getfield 330, 3) := by decide +kernel
theorem dX12_sick_82 : decode cX12_sick 82 = .ok (.iconst 1, 1) := by decide +kernel
theorem dX12_sick_83 : decode cX12_sick 83 = .ok (.iadd, 1) := by decide +kernel
theorem dX12_sick_84 : decode cX12_sick 84 = .ok (.putfield 330, 3) := by decide +kernel
theorem dX12_sick_87 : decode cX12_sick 87 = .ok (.aload_n 0, 1) := by decide +kernel
theorem dX12_sick_88 : decode cX12_sick 88 = .ok (.getfield 330, 3) := by decide +kernel
theorem dX12_sick_91 : decode cX12_sick 91 = .ok (.ireturn, 1) := by decide +kernel
theorem dX12_seal_0 : decode cX12_seal 0 = .ok (.aload_n 0, 1) := by decide +kernel
theorem dX12_seal_1 : decode cX12_seal 1 = .ok (.iconst 0, 1) := by decide +kernel
theorem dX12_seal_2 : decode cX12_seal 2 = .ok (.putfield 1, 3) := by decide +kernel
theorem dX12_seal_5 : decode cX12_seal 5 = .ok (.iload_n 1, 1) := by decide +kernel
theorem dX12_seal_6 : decode cX12_seal 6 = .ok (.invokestatic 136, 3) := by decide +kernel
theorem dX12_seal_9 : decode cX12_seal 9 = .ok (.ifCond .ne 6, 3) := by decide +kernel
theorem dX12_seal_12 : decode cX12_seal 12 = .ok (.ldc 142, 2) := by decide +kernel
theorem dX12_seal_14 : decode cX12_seal 14 = .ok (.ireturn, 1) := by decide +kernel
theorem dX12_seal_15 : decode cX12_seal 15 = .ok (.aload_n 0, 1) := by decide +kernel
theorem dX12_seal_16 : decode cX12_seal 16 = .ok (.getfield 333, 3) := by decide +kernel
theorem dX12_seal_19 : decode cX12_seal 19 = .ok (.bipush 16, 2) := by decide +kernel
theorem dX12_seal_21 : decode cX12_seal 21 = .ok (.if_icmp .ne 6, 3) := by decide +kernel
theorem dX12_seal_24 : decode cX12_seal 24 = .ok (.ldc 170, 2) := by decide +kernel
theorem dX12_seal_26 : decode cX12_seal 26 = .ok (.ireturn, 1) := by decide +kernel
theorem dX12_seal_27 : decode cX12_seal 27 = .ok (.aload_n 0, 1) := by decide +kernel
theorem dX12_seal_28 : decode cX12_seal 28 = .ok (.iload_n 1, 1) := by decide +kernel
theorem dX12_seal_29 : decode cX12_seal 29 = .ok (.iload_n 2, 1) := by decide +kernel
theorem dX12_seal_30 : decode cX12_seal 30 = .ok (.bipush 7, 2) := by decide +kernel
theorem dX12_seal_32 : decode cX12_seal 32 = .ok (.invokevirtual 290, 3) := by decide +kernel
theorem dX12_seal_35 : decode cX12_seal 35 = .ok (.istore_n 3, 1) := by decide +kernel
theorem dX12_seal_36 : decode cX12_seal 36 = .ok (.iload_n 3, 1) := by decide +kernel
theorem dX12_seal_37 : decode cX12_seal 37 = .ok (.ifCond .ge 5, 3) := by decide +kernel
theorem dX12_seal_40 : decode cX12_seal 40 = .ok (.iload_n 3, 1) := by decide +kernel
theorem dX12_seal_41 : decode cX12_seal 41 = .ok (.ireturn, 1) := by decide +kernel
theorem dX12_seal_42 : decode cX12_seal 42 = .ok (.bipush 64, 2) := by decide +kernel
theorem dX12_seal_44 : decode cX12_seal 44 = .ok (.iload_n 1, 1) := by decide +kernel
theorem dX12_seal_45 : decode cX12_seal 45 = .ok (.imul, 1) := by decide +kernel
theorem dX12_seal_46 : decode cX12_seal 46 = .ok (.iload_n 2, 1) := by decide +kernel
theorem dX12_seal_47 : decode cX12_seal 47 = .ok (.iadd, 1) := by decide +kernel
theorem dX12_seal_48 : decode cX12_seal 48 = .ok (.istore 4, 2) := by decide +kernel
theorem dX12_seal_50 : decode cX12_seal 50 = .ok (.aload_n 0, 1) := by decide +kernel
theorem dX12_seal_51 : decode cX12_seal 51 = .ok (.getfield 24, 3) := by decide +kernel
theorem dX12_seal_54 : decode cX12_seal 54 = .ok (.iload 4, 2) := by decide +kernel
theorem dX12_seal_56 : decode cX12_seal 56 = .ok (.iaload, 1) := by decide +kernel
theorem dX12_seal_57 : decode cX12_seal 57 = .ok (.i2l, 1) := by decide +kernel
theorem dX12_seal_58 : decode cX12_seal 58 = .ok (.lconst 0, 1) := by decide +kernel
theorem dX12_seal_59 : decode cX12_seal 59 = .ok (.ldc2_w 336, 3) := by decide +kernel
theorem dX12_seal_62 : decode cX12_seal 62 = .ok (.invokestatic 132, 3) := by decide +kernel
theorem dX12_seal_65 : decode cX12_seal 65 = .ok (.ifCond .eq 118, 3) := by decide +kernel
theorem dX12_seal_68 : decode cX12_seal 68 = .ok (.aload_n 0, 1) := by decide +kernel
theorem dX12_seal_69 : decode cX12_seal 69 = .ok (.getfield 24, 3) := by decide +kernel
theorem dX12_seal_72 : decode cX12_seal 72 = .ok (.iload 4, 2) := by decide +kernel
theorem dX12_seal_74 : decode cX12_seal 74 = .ok (.iconst 1, 1) := by decide +kernel
theorem dX12_seal_75 : decode cX12_seal 75 = .ok (.iadd, 1) := by decide +kernel
theorem dX12_seal_76 : decode cX12_seal 76 = .ok (.iaload, 1) := by decide +kernel
theorem dX12_seal_77 : decode cX12_seal 77 = .ok (.invokestatic 338, 3) := by decide +kernel
theorem dX12_seal_80 : decode cX12_seal 80 = .ok (.ifCond .eq 103, 3) := by decide +kernel
theorem dX12_seal_83 : decode cX12_seal 83 = .ok (.aload_n 0, 1) := by decide +kernel
theorem dX12_seal_84 : decode cX12_seal 84 = .ok (.getfield 24, 3) := by decide +kernel
theorem dX12_seal_87 : decode cX12_seal 87 = .ok (.iload 4, 2) := by decide +kernel
theorem dX12_seal_89 : decode cX12_seal 89 = .ok (.iconst 2, 1) := by decide +kernel
theorem dX12_seal_90 : decode cX12_seal 90 = .ok (.iadd, 1) := by decide +kernel
theorem dX12_seal_91 : decode cX12_seal 91 = .ok (.iaload, 1) := by decide +kernel
theorem dX12_seal_92 : decode cX12_seal 92 = .ok (.i2l, 1) := by decide +kernel
theorem dX12_seal_93 : decode cX12_seal 93 = .ok (.lconst 0, 1) := by decide +kernel
theorem dX12_seal_94 : decode cX12_seal 94 = .ok (.ldc2_w 295, 3) := by decide +kernel
theorem dX12_seal_97 : decode cX12_seal 97 = .ok (.invokestatic 132, 3) := by decide +kernel
theorem dX12_seal_100 : decode cX12_seal 100 = .ok (.ifCond .eq 83, 3) := by decide +kernel
theorem dX12_seal_103 : decode cX12_seal 103 = .ok (.aload_n 0, 1) := by decide +kernel
theorem dX12_seal_104 : decode cX12_seal 104 = .ok (.getfield 24, 3) := by decide +kernel
theorem dX12_seal_107 : decode cX12_seal 107 = .ok (.iload 4, 2) := by decide +kernel
theorem dX12_seal_109 : decode cX12_seal 109 = .ok (.iconst 3, 1) := by decide +kernel
theorem dX12_seal_110 : decode cX12_seal 110 = .ok (.iadd, 1) := by decide +kernel
theorem dX12_seal_111 : decode cX12_seal 111 = .ok (.iaload, 1) := by decide +kernel
theorem dX12_seal_112 : decode cX12_seal 112 = .ok (.i2l, 1) := by decide +kernel
theorem dX12_seal_113 : decode cX12_seal 113 = .ok (.lconst 0, 1) := by decide +kernel
theorem dX12_seal_114 : decode cX12_seal 114 = .ok (.ldc2_w 341, 3) := by decide +kernel
theorem dX12_seal_117 : decode cX12_seal 117 = .ok (.invokestatic 132, 3) := by decide +kernel
theorem dX12_seal_120 : decode cX12_seal 120 = .ok (.ifCond .eq 63, 3) := by decide +kernel
theorem dX12_seal_123 : decode cX12_seal 123 = .ok (.aload_n 0, 1) := by decide +kernel
theorem dX12_seal_124 : decode cX12_seal 124 = .ok (.getfield 24, 3) := by decide +kernel
theorem dX12_seal_127 : decode cX12_seal 127 = .ok (.iload 4, 2) := by decide +kernel
theorem dX12_seal_129 : decode cX12_seal 129 = .ok (.iconst 4, 1) := by decide +kernel
theorem dX12_seal_130 : decode cX12_seal 130 = .ok (.iadd, 1) := by decide +kernel
theorem dX12_seal_131 : decode cX12_seal 131 = .ok (.iaload, 1) := by decide +kernel
theorem dX12_seal_132 : decode cX12_seal 132 = .ok (.invokestatic 325, 3) := by decide +kernel
theorem dX12_seal_135 : decode cX12_seal 135 = .ok (.ifCond .eq 48, 3) := by decide +kernel
theorem dX12_seal_138 : decode cX12_seal 138 = .ok (.aload_n 0, 1) := by decide +kernel
theorem dX12_seal_139 : decode cX12_seal 139 = .ok (.getfield 24, 3) := by decide +kernel
theorem dX12_seal_142 : decode cX12_seal 142 = .ok (.iload 4, 2) := by decide +kernel
theorem dX12_seal_144 : decode cX12_seal 144 = .ok (.iconst 5, 1) := by decide +kernel
theorem dX12_seal_145 : decode cX12_seal 145 = .ok (.iadd, 1) := by decide +kernel
theorem dX12_seal_146 : decode cX12_seal 146 = .ok (.iaload, 1) := by decide +kernel
theorem dX12_seal_147 : decode cX12_seal 147 = .ok (.invokestatic 258, 3) := by decide +kernel
theorem dX12_seal_150 : decode cX12_seal 150 = .ok (.ifCond .eq 33, 3) := by decide +kernel
theorem dX12_seal_153 : decode cX12_seal 153 = .ok (.aload_n 0, 1) := by decide +kernel
theorem dX12_seal_154 : decode cX12_seal 154 = .ok (.getfield 24, 3) := by decide +kernel
theorem dX12_seal_157 : decode cX12_seal 157 = .ok (.iload 4, 2) := by decide +kernel
theorem dX12_seal_159 : decode cX12_seal 159 = .ok (.bipush 6, 2) := by decide +kernel
theorem dX12_seal_161 : decode cX12_seal 161 = .ok (.iadd, 1) := by decide +kernel
theorem dX12_seal_162 : decode cX12_seal 162 = .ok (.iaload, 1) := by decide +kernel
theorem dX12_seal_163 : decode cX12_seal 163 = .ok (.i2l, 1) := by decide +kernel
theorem dX12_seal_164 : decode cX12_seal 164 = .ok (.aload_n 0, 1) := by decide +kernel
theorem dX12_seal_165 : decode cX12_seal 165 = .ok (.getfield 24, 3) := by decide +kernel
theorem dX12_seal_168 : decode cX12_seal 168 = .ok (.iload 4, 2) := by decide +kernel
theorem dX12_seal_170 : decode cX12_seal 170 = .ok (.iconst 5, 1) := by decide +kernel
theorem dX12_seal_171 : decode cX12_seal 171 = .ok (.iadd, 1) := by decide +kernel
theorem dX12_seal_172 : decode cX12_seal 172 = .ok (.iaload, 1) := by decide +kernel
theorem dX12_seal_173 : decode cX12_seal 173 = .ok (.i2l, 1) := by decide +kernel
theorem dX12_seal_174 : decode cX12_seal 174 = .ok (.ldc2_w 149, 3) := by decide +kernel
theorem dX12_seal_177 : decode cX12_seal 177 = .ok (.invokestatic 132, 3) := by decide +kernel
theorem dX12_seal_180 : decode cX12_seal 180 = .ok (.ifCond .ne 6, 3) := by decide +kernel
theorem dX12_seal_183 : decode cX12_seal 183 = .ok (.ldc 142, 2) := by decide +kernel
theorem dX12_seal_185 : decode cX12_seal 185 = .ok (.ireturn, 1) := by decide +kernel
theorem dX12_seal_186 : decode cX12_seal 186 = .ok (.aload_n 0, 1) := by decide +kernel
theorem dX12_seal_187 : decode cX12_seal 187 = .ok (.iconst 0, 1) := by decide +kernel
theorem dX12_seal_188 : decode cX12_seal 188 = .ok (.putfield 7, 3) := by decide +kernel
theorem dX12_seal_191 : decode cX12_seal 191 = .ok (.iconst 0, 1) := by decide +kernel
theorem dX12_seal_192 : decode cX12_seal 192 = .ok (.istore 5, 2) := by decide +kernel
theorem dX12_seal_194 : decode cX12_seal 194 = .ok (.iload 5, 2) := by decide +kernel
theorem dX12_seal_196 : decode cX12_seal 196 = .ok (.bipush 7, 2) := by decide +kernel
theorem dX12_seal_198 : decode cX12_seal 198 = .ok (.if_icmp .ge 34, 3) := by decide +kernel
theorem dX12_seal_201 : decode cX12_seal 201 = .ok (.aload_n 0, 1) := by decide +kernel
theorem dX12_seal_202 : decode cX12_seal 202 = .ok (.getfield 87, 3) := by decide +kernel
theorem dX12_seal_205 : decode cX12_seal 205 = .ok (.bipush 7, 2) := by decide +kernel
theorem dX12_seal_207 : decode cX12_seal 207 = .ok (.aload_n 0, 1) := by decide +kernel
theorem dX12_seal_208 : decode cX12_seal 208 = .ok (.getfield 333, 3) := by decide +kernel
theorem dX12_seal_211 : decode cX12_seal 211 = .ok (.imul, 1) := by decide +kernel
theorem dX12_seal_212 : decode cX12_seal 212 = .ok (.iload 5, 2) := by decide +kernel
theorem dX12_seal_214 : decode cX12_seal 214 = .ok (.iadd, 1) := by decide +kernel
theorem dX12_seal_215 : decode cX12_seal 215 = .ok (.aload_n 0, 1) := by decide +kernel
theorem dX12_seal_216 : decode cX12_seal 216 = .ok (.getfield 24, 3) := by decide +kernel
theorem dX12_seal_219 : decode cX12_seal 219 = .ok (.iload 4, 2) := by decide +kernel
theorem dX12_seal_221 : decode cX12_seal 221 = .ok (.iload 5, 2) := by decide +kernel
theorem dX12_seal_223 : decode cX12_seal 223 = .ok (.iadd, 1) := by decide +kernel
theorem dX12_seal_224 : decode cX12_seal 224 = .ok (.iaload, 1) := by decide +kernel
theorem dX12_seal_225 : decode cX12_seal 225 = .ok (.iastore, 1) := by decide +kernel
theorem dX12_seal_226 : decode cX12_seal 226 = .ok (.iinc 5 1, 3) := by decide +kernel
theorem dX12_seal_229 : decode cX12_seal 229 = .ok (.goto (-35), 3) := by decide +kernel
theorem dX12_seal_232 : decode cX12_seal 232 = .ok (.aload_n 0, 1) := by decide +kernel
theorem dX12_seal_233 : decode cX12_seal 233 = .ok (.dup, 1) := by decide +kernel
theorem dX12_seal_234 : decode cX12_seal 234 = .ok (.getfield 333, 3) := by decide +kernel
theorem dX12_seal_237 : decode cX12_seal 237 = .ok (.iconst 1, 1) := by decide +kernel
theorem dX12_seal_238 : decode cX12_seal 238 = .ok (.iadd, 1) := by decide +kernel
theorem dX12_seal_239 : decode cX12_seal 239 = .ok (.putfield 333, 3) := by decide +kernel
theorem dX12_seal_242 : decode cX12_seal 242 = .ok (.aload_n 0, 1) := by decide +kernel
theorem dX12_seal_243 : decode cX12_seal 243 = .ok (.getfield 333, 3) := by decide +kernel
theorem dX12_seal_246 : decode cX12_seal 246 = .ok (.iconst 1, 1) := by decide +kernel
theorem dX12_seal_247 : decode cX12_seal 247 = .ok (.isub, 1) := by decide +kernel
theorem dX12_seal_248 : decode cX12_seal 248 = .ok (.ireturn, 1) := by decide +kernel
set_option maxRecDepth 100000 in
set_option maxHeartbeats 4000000 in
theorem B_X12_fault_0 {g : gp} {u : sg} {Q : Option Value → sg → Prop}  (h : Q (some (.int (u.1 12 18))) (sI u 12 0 (0 : Int32))) : Go g iX12_fault 0 [some (.ref (gd g 12))] [] u Q := by
  refine go_aload_n dX12_fault_0 rfl rfl ?_
  refine go_iconst (v := 0) dX12_fault_1 (by decide) ?_
  refine go_put (k := 0) dX12_fault_2 ob_12 (by decide) qf_X12_1 rfl rfl pf_I ?_
  refine go_aload_n dX12_fault_5 rfl rfl ?_
  refine go_get (k := 18) (v := .int (u.1 12 18)) dX12_fault_6 ob_12 (by decide) qf_X12_250 rfl ?_
  exact go_iret dX12_fault_9 rfl h
set_option maxRecDepth 100000 in
set_option maxHeartbeats 4000000 in
theorem B_X12_lawFor_0 {g : gp} {u : sg} {Q : Option Value → sg → Prop} (x1 : Int32) (x2 : Int32) (x3 : Int32) (x4 : Int32) (h : Go g iX12_lawFor 7 [some (.ref (gd g 12)), some (.int x1), some (.int x2), some (.int x3), some (.int x4), some (.int ((-1000000))), some (.int 0), none] [] u Q) : Go g iX12_lawFor 0 [some (.ref (gd g 12)), some (.int x1), some (.int x2), some (.int x3), some (.int x4), none, none, none] [] u Q := by
  refine go_ldc dX12_lawFor_0 qc_X12_129 ?_
  refine go_istore (lm := [some (.ref (gd g 12)), some (.int x1), some (.int x2), some (.int x3), some (.int x4), some (.int ((-1000000))), none, none]) dX12_lawFor_2 (by decide) rfl rfl ?_
  refine go_iconst (v := 0) dX12_lawFor_4 (by decide) ?_
  refine go_istore (lm := [some (.ref (gd g 12)), some (.int x1), some (.int x2), some (.int x3), some (.int x4), some (.int ((-1000000))), some (.int 0), none]) dX12_lawFor_5 (by decide) rfl rfl ?_
  exact h
set_option maxRecDepth 100000 in
set_option maxHeartbeats 4000000 in
theorem B_X12_lawFor_7 {g : gp} {u : sg} {Q : Option Value → sg → Prop} (x1 : Int32) (x2 : Int32) (x3 : Int32) (x4 : Int32) (x5 : Int32) (x6 : Int32) (h : (((u.1 12 10) ≤ x6 → Q (some (.int x5)) u) ∧ (¬ (u.1 12 10) ≤ x6 → (vp_in x6 30 ∧ (((u.2 61 x6.toNatClampNeg) = x2 → Go g iX12_lawFor 38 [some (.ref (gd g 12)), some (.int x1), some (.int x2), some (.int x3), some (.int x4), some (.int x5), some (.int x6), none] [] u Q) ∧ (¬ (u.2 61 x6.toNatClampNeg) = x2 → (vp_in x6 30 ∧ ((¬ (u.2 61 x6.toNatClampNeg) = x3 → Go g iX12_lawFor 66 [some (.ref (gd g 12)), some (.int x1), some (.int x2), some (.int x3), some (.int x4), some (.int x5), some (.int x6), none] [.int 0] u Q) ∧ ((u.2 61 x6.toNatClampNeg) = x3 → Go g iX12_lawFor 38 [some (.ref (gd g 12)), some (.int x1), some (.int x2), some (.int x3), some (.int x4), some (.int x5), some (.int x6), none] [] u Q))))))))) : Go g iX12_lawFor 7 [some (.ref (gd g 12)), some (.int x1), some (.int x2), some (.int x3), some (.int x4), some (.int x5), some (.int x6), none] [] u Q := by
  refine go_iload dX12_lawFor_7 rfl ?_
  refine go_aload_n dX12_lawFor_9 rfl rfl ?_
  refine go_get (k := 10) (v := .int (u.1 12 10)) dX12_lawFor_10 ob_12 (by decide) qf_X12_242 rfl ?_
  refine go_icmp_ge (tgt := 112) dX12_lawFor_13 (by decide) (fun hc => ?_) (fun hc => ?_)
  · replace h := h.1 hc
    refine go_iload dX12_lawFor_112 rfl ?_
    exact go_iret dX12_lawFor_114 rfl h
  · replace h := h.2 hc
    refine go_aload_n dX12_lawFor_16 rfl rfl ?_
    refine go_get (k := 12) (v := .ref (gd g 61)) dX12_lawFor_17 ob_12 (by decide) qf_X12_45 rfl ?_
    refine go_iload dX12_lawFor_20 rfl ?_
    obtain ⟨hi, h⟩ := h
    refine go_ild (a := 61) (n := 30) dX12_lawFor_22 (by decide) (by decide) rfl hi ?_
    refine go_iload_n dX12_lawFor_23 rfl rfl ?_
    refine go_icmp_eq (tgt := 38) dX12_lawFor_24 (by decide) (fun hc => ?_) (fun hc => ?_)
    · replace h := h.1 hc
      exact h
    · replace h := h.2 hc
      refine go_aload_n dX12_lawFor_27 rfl rfl ?_
      refine go_get (k := 12) (v := .ref (gd g 61)) dX12_lawFor_28 ob_12 (by decide) qf_X12_45 rfl ?_
      refine go_iload dX12_lawFor_31 rfl ?_
      obtain ⟨hi, h⟩ := h
      refine go_ild (a := 61) (n := 30) dX12_lawFor_33 (by decide) (by decide) rfl hi ?_
      refine go_iload_n dX12_lawFor_34 rfl rfl ?_
      refine go_icmp_ne (tgt := 65) dX12_lawFor_35 (by decide) (fun hc => ?_) (fun hc => ?_)
      · replace h := h.1 hc
        refine go_iconst (v := 0) dX12_lawFor_65 (by decide) ?_
        exact h
      · replace h := h.2 hc
        exact h
set_option maxRecDepth 100000 in
set_option maxHeartbeats 4000000 in
theorem B_X12_lawFor_38 {g : gp} {u : sg} {Q : Option Value → sg → Prop} (x1 : Int32) (x2 : Int32) (x3 : Int32) (x4 : Int32) (x5 : Int32) (x6 : Int32) (h : (vp_in x6 30 ∧ ((¬ (u.2 62 x6.toNatClampNeg) = x4 → Go g iX12_lawFor 66 [some (.ref (gd g 12)), some (.int x1), some (.int x2), some (.int x3), some (.int x4), some (.int x5), some (.int x6), none] [.int 0] u Q) ∧ ((u.2 62 x6.toNatClampNeg) = x4 → (vp_in x6 30 ∧ ((x1 < (u.2 60 x6.toNatClampNeg) → Go g iX12_lawFor 66 [some (.ref (gd g 12)), some (.int x1), some (.int x2), some (.int x3), some (.int x4), some (.int x5), some (.int x6), none] [.int 0] u Q) ∧ (¬ x1 < (u.2 60 x6.toNatClampNeg) → Go g iX12_lawFor 66 [some (.ref (gd g 12)), some (.int x1), some (.int x2), some (.int x3), some (.int x4), some (.int x5), some (.int x6), none] [.int 1] u Q))))))) : Go g iX12_lawFor 38 [some (.ref (gd g 12)), some (.int x1), some (.int x2), some (.int x3), some (.int x4), some (.int x5), some (.int x6), none] [] u Q := by
  refine go_aload_n dX12_lawFor_38 rfl rfl ?_
  refine go_get (k := 13) (v := .ref (gd g 62)) dX12_lawFor_39 ob_12 (by decide) qf_X12_48 rfl ?_
  refine go_iload dX12_lawFor_42 rfl ?_
  obtain ⟨hi, h⟩ := h
  refine go_ild (a := 62) (n := 30) dX12_lawFor_44 (by decide) (by decide) rfl hi ?_
  refine go_iload dX12_lawFor_45 rfl ?_
  refine go_icmp_ne (tgt := 65) dX12_lawFor_47 (by decide) (fun hc => ?_) (fun hc => ?_)
  · replace h := h.1 hc
    refine go_iconst (v := 0) dX12_lawFor_65 (by decide) ?_
    exact h
  · replace h := h.2 hc
    refine go_aload_n dX12_lawFor_50 rfl rfl ?_
    refine go_get (k := 11) (v := .ref (gd g 60)) dX12_lawFor_51 ob_12 (by decide) qf_X12_42 rfl ?_
    refine go_iload dX12_lawFor_54 rfl ?_
    obtain ⟨hi, h⟩ := h
    refine go_ild (a := 60) (n := 30) dX12_lawFor_56 (by decide) (by decide) rfl hi ?_
    refine go_iload_n dX12_lawFor_57 rfl rfl ?_
    refine go_icmp_gt (tgt := 65) dX12_lawFor_58 (by decide) (fun hc => ?_) (fun hc => ?_)
    · replace h := h.1 hc
      refine go_iconst (v := 0) dX12_lawFor_65 (by decide) ?_
      exact h
    · replace h := h.2 hc
      refine go_iconst (v := 1) dX12_lawFor_61 (by decide) ?_
      refine go_goto (tgt := 66) dX12_lawFor_62 (by decide) ?_
      exact h
set_option maxRecDepth 100000 in
set_option maxHeartbeats 4000000 in
theorem B_X12_lawFor_66 {g : gp} {u : sg} {Q : Option Value → sg → Prop} (x1 : Int32) (x2 : Int32) (x3 : Int32) (x4 : Int32) (x5 : Int32) (x6 : Int32) (t0 : Int32) (h : ((t0 = (0 : Int32) → Go g iX12_lawFor 7 [some (.ref (gd g 12)), some (.int x1), some (.int x2), some (.int x3), some (.int x4), some (.int x5), some (.int (x6 + 1)), none] [] u Q) ∧ (¬ t0 = (0 : Int32) → ((x5 = (-1000000 : Int32) → Go g iX12_lawFor 7 [some (.ref (gd g 12)), some (.int x1), some (.int x2), some (.int x3), some (.int x4), some (.int x6), some (.int (x6 + 1)), none] [] u Q) ∧ (¬ x5 = (-1000000 : Int32) → (vp_in x6 30 ∧ (vp_in x5 30 ∧ (((u.2 60 x6.toNatClampNeg) < (u.2 60 x5.toNatClampNeg) → Go g iX12_lawFor 7 [some (.ref (gd g 12)), some (.int x1), some (.int x2), some (.int x3), some (.int x4), some (.int x5), some (.int (x6 + 1)), none] [] u Q) ∧ (¬ (u.2 60 x6.toNatClampNeg) < (u.2 60 x5.toNatClampNeg) → Go g iX12_lawFor 7 [some (.ref (gd g 12)), some (.int x1), some (.int x2), some (.int x3), some (.int x4), some (.int x6), some (.int (x6 + 1)), none] [] u Q))))))))) : Go g iX12_lawFor 66 [some (.ref (gd g 12)), some (.int x1), some (.int x2), some (.int x3), some (.int x4), some (.int x5), some (.int x6), none] [.int t0] u Q := by
  refine go_istore (lm := [some (.ref (gd g 12)), some (.int x1), some (.int x2), some (.int x3), some (.int x4), some (.int x5), some (.int x6), some (.int t0)]) dX12_lawFor_66 (by decide) rfl rfl ?_
  refine go_iload dX12_lawFor_68 rfl ?_
  refine go_if_eq (tgt := 102) dX12_lawFor_70 (by decide) (fun hc => ?_) (fun hc => ?_)
  · replace h := h.1 hc
    refine go_iload dX12_lawFor_102 rfl ?_
    refine go_istore (lm := [some (.ref (gd g 12)), some (.int x1), some (.int x2), some (.int x3), some (.int x4), some (.int x5), some (.int x6), some (.int t0)]) dX12_lawFor_104 (by decide) rfl rfl ?_
    refine go_iinc (v := x6 + 1) (lm := [some (.ref (gd g 12)), some (.int x1), some (.int x2), some (.int x3), some (.int x4), some (.int x5), some (.int (x6 + 1)), some (.int t0)]) dX12_lawFor_106 rfl rfl (by decide) rfl rfl ?_
    refine go_goto (tgt := 7) dX12_lawFor_109 (by decide) ?_
    refine go_mask [true, true, true, true, true, true, true, false] rfl ?_
    exact h
  · replace h := h.2 hc
    refine go_iload dX12_lawFor_73 rfl ?_
    refine go_ldc dX12_lawFor_75 qc_X12_129 ?_
    refine go_icmp_eq (tgt := 97) dX12_lawFor_77 (by decide) (fun hc => ?_) (fun hc => ?_)
    · replace h := h.1 hc
      refine go_iload dX12_lawFor_97 rfl ?_
      refine go_goto (tgt := 104) dX12_lawFor_99 (by decide) ?_
      refine go_istore (lm := [some (.ref (gd g 12)), some (.int x1), some (.int x2), some (.int x3), some (.int x4), some (.int x6), some (.int x6), some (.int t0)]) dX12_lawFor_104 (by decide) rfl rfl ?_
      refine go_iinc (v := x6 + 1) (lm := [some (.ref (gd g 12)), some (.int x1), some (.int x2), some (.int x3), some (.int x4), some (.int x6), some (.int (x6 + 1)), some (.int t0)]) dX12_lawFor_106 rfl rfl (by decide) rfl rfl ?_
      refine go_goto (tgt := 7) dX12_lawFor_109 (by decide) ?_
      refine go_mask [true, true, true, true, true, true, true, false] rfl ?_
      exact h
    · replace h := h.2 hc
      refine go_aload_n dX12_lawFor_80 rfl rfl ?_
      refine go_get (k := 11) (v := .ref (gd g 60)) dX12_lawFor_81 ob_12 (by decide) qf_X12_42 rfl ?_
      refine go_iload dX12_lawFor_84 rfl ?_
      obtain ⟨hi, h⟩ := h
      refine go_ild (a := 60) (n := 30) dX12_lawFor_86 (by decide) (by decide) rfl hi ?_
      refine go_aload_n dX12_lawFor_87 rfl rfl ?_
      refine go_get (k := 11) (v := .ref (gd g 60)) dX12_lawFor_88 ob_12 (by decide) qf_X12_42 rfl ?_
      refine go_iload dX12_lawFor_91 rfl ?_
      obtain ⟨hi, h⟩ := h
      refine go_ild (a := 60) (n := 30) dX12_lawFor_93 (by decide) (by decide) rfl hi ?_
      refine go_icmp_lt (tgt := 102) dX12_lawFor_94 (by decide) (fun hc => ?_) (fun hc => ?_)
      · replace h := h.1 hc
        refine go_iload dX12_lawFor_102 rfl ?_
        refine go_istore (lm := [some (.ref (gd g 12)), some (.int x1), some (.int x2), some (.int x3), some (.int x4), some (.int x5), some (.int x6), some (.int t0)]) dX12_lawFor_104 (by decide) rfl rfl ?_
        refine go_iinc (v := x6 + 1) (lm := [some (.ref (gd g 12)), some (.int x1), some (.int x2), some (.int x3), some (.int x4), some (.int x5), some (.int (x6 + 1)), some (.int t0)]) dX12_lawFor_106 rfl rfl (by decide) rfl rfl ?_
        refine go_goto (tgt := 7) dX12_lawFor_109 (by decide) ?_
        refine go_mask [true, true, true, true, true, true, true, false] rfl ?_
        exact h
      · replace h := h.2 hc
        refine go_iload dX12_lawFor_97 rfl ?_
        refine go_goto (tgt := 104) dX12_lawFor_99 (by decide) ?_
        refine go_istore (lm := [some (.ref (gd g 12)), some (.int x1), some (.int x2), some (.int x3), some (.int x4), some (.int x6), some (.int x6), some (.int t0)]) dX12_lawFor_104 (by decide) rfl rfl ?_
        refine go_iinc (v := x6 + 1) (lm := [some (.ref (gd g 12)), some (.int x1), some (.int x2), some (.int x3), some (.int x4), some (.int x6), some (.int (x6 + 1)), some (.int t0)]) dX12_lawFor_106 rfl rfl (by decide) rfl rfl ?_
        refine go_goto (tgt := 7) dX12_lawFor_109 (by decide) ?_
        refine go_mask [true, true, true, true, true, true, true, false] rfl ?_
        exact h
set_option maxRecDepth 100000 in
set_option maxHeartbeats 4000000 in
theorem B_X12_numberFor_0 {g : gp} {u : sg} {Q : Option Value → sg → Prop} (x1 : Int32) (x2 : Int32) (x3 : Int32) (h : Go g iX12_lawFor 0 [some (.ref (gd g 12)), some (.int x1), some (.int x2), some (.int x2), some (.int x3), none, none, none] [] u (QI (fun r1 u1 => ((¬ r1 = (-1000000 : Int32) → (vp_in r1 30 ∧ Q (some (.int (u1.2 63 r1.toNatClampNeg))) u1)) ∧ (r1 = (-1000000 : Int32) → Q (some (.int (0 : Int32))) u1))))) : Go g iX12_numberFor 0 [some (.ref (gd g 12)), some (.int x1), some (.int x2), some (.int x3), none] [] u Q := by
  refine go_aload_n dX12_numberFor_0 rfl rfl ?_
  refine go_iload_n dX12_numberFor_1 rfl rfl ?_
  refine go_iload_n dX12_numberFor_2 rfl rfl ?_
  refine go_iload_n dX12_numberFor_3 rfl rfl ?_
  refine go_iload_n dX12_numberFor_4 rfl rfl ?_
  refine go_cVi (o := 12) (As := [.int x1, .int x2, .int x2, .int x3]) (st := []) (lc := [some (.ref (gd g 12)), some (.int x1), some (.int x2), some (.int x2), some (.int x3), none, none, none]) dX12_numberFor_5 me_X12_lawFor rfl ob_12 qm_X12_254 rfl (Nat.le_of_ble_eq_true rfl) rfl ⟨Nat.le_of_ble_eq_true rfl, Nat.le_of_ble_eq_true rfl⟩ rfl (Nat.le_of_ble_eq_true rfl) h (fun r1 u1 h => ?_)
  refine go_istore (lm := [some (.ref (gd g 12)), some (.int x1), some (.int x2), some (.int x3), some (.int r1)]) dX12_numberFor_8 (by decide) rfl rfl ?_
  refine go_iload dX12_numberFor_10 rfl ?_
  refine go_ldc dX12_numberFor_12 qc_X12_129 ?_
  refine go_icmp_ne (tgt := 21) dX12_numberFor_14 (by decide) (fun hc => ?_) (fun hc => ?_)
  · replace h := h.1 hc
    refine go_aload_n dX12_numberFor_21 rfl rfl ?_
    refine go_get (k := 14) (v := .ref (gd g 63)) dX12_numberFor_22 ob_12 (by decide) qf_X12_51 rfl ?_
    refine go_iload dX12_numberFor_25 rfl ?_
    obtain ⟨hi, h⟩ := h
    refine go_ild (a := 63) (n := 30) dX12_numberFor_27 (by decide) (by decide) rfl hi ?_
    exact go_iret dX12_numberFor_28 rfl h
  · replace h := h.2 hc
    refine go_iconst (v := 0) dX12_numberFor_17 (by decide) ?_
    refine go_goto (tgt := 28) dX12_numberFor_18 (by decide) ?_
    exact go_iret dX12_numberFor_28 rfl h
set_option maxRecDepth 100000 in
set_option maxHeartbeats 4000000 in
theorem B_X12_isGood_0 {g : gp} {u : sg} {Q : Option Value → sg → Prop} (x1 : Int32) (x2 : Int32) (h : Go g iX12_lawFor 0 [some (.ref (gd g 12)), some (.int x2), some (.int 3), some (.int 4), some (.int x1), none, none, none] [] u (QI (fun r1 u1 => ((r1 = (-1000000 : Int32) → Q (some (.int (1 : Int32))) u1) ∧ (¬ r1 = (-1000000 : Int32) → (vp_in r1 30 ∧ ((¬ (u1.2 61 r1.toNatClampNeg) = (3 : Int32) → Q (some (.int (0 : Int32))) u1) ∧ ((u1.2 61 r1.toNatClampNeg) = (3 : Int32) → Q (some (.int (1 : Int32))) u1)))))))) : Go g iX12_isGood 0 [some (.ref (gd g 12)), some (.int x1), some (.int x2), none] [] u Q := by
  refine go_aload_n dX12_isGood_0 rfl rfl ?_
  refine go_iload_n dX12_isGood_1 rfl rfl ?_
  refine go_iconst (v := 3) dX12_isGood_2 (by decide) ?_
  refine go_iconst (v := 4) dX12_isGood_3 (by decide) ?_
  refine go_iload_n dX12_isGood_4 rfl rfl ?_
  refine go_cVi (o := 12) (As := [.int x2, .int 3, .int 4, .int x1]) (st := []) (lc := [some (.ref (gd g 12)), some (.int x2), some (.int 3), some (.int 4), some (.int x1), none, none, none]) dX12_isGood_5 me_X12_lawFor rfl ob_12 qm_X12_254 rfl (Nat.le_of_ble_eq_true rfl) rfl ⟨Nat.le_of_ble_eq_true rfl, Nat.le_of_ble_eq_true rfl⟩ rfl (Nat.le_of_ble_eq_true rfl) h (fun r1 u1 h => ?_)
  refine go_istore_n (lm := [some (.ref (gd g 12)), some (.int x1), some (.int x2), some (.int r1)]) dX12_isGood_8 rfl (by decide) rfl rfl ?_
  refine go_iload_n dX12_isGood_9 rfl rfl ?_
  refine go_ldc dX12_isGood_10 qc_X12_129 ?_
  refine go_icmp_eq (tgt := 25) dX12_isGood_12 (by decide) (fun hc => ?_) (fun hc => ?_)
  · replace h := h.1 hc
    refine go_iconst (v := 1) dX12_isGood_25 (by decide) ?_
    refine go_goto (tgt := 30) dX12_isGood_26 (by decide) ?_
    exact go_zret dX12_isGood_30 rfl (by decide) h
  · replace h := h.2 hc
    refine go_aload_n dX12_isGood_15 rfl rfl ?_
    refine go_get (k := 12) (v := .ref (gd g 61)) dX12_isGood_16 ob_12 (by decide) qf_X12_45 rfl ?_
    refine go_iload_n dX12_isGood_19 rfl rfl ?_
    obtain ⟨hi, h⟩ := h
    refine go_ild (a := 61) (n := 30) dX12_isGood_20 (by decide) (by decide) rfl hi ?_
    refine go_iconst (v := 3) dX12_isGood_21 (by decide) ?_
    refine go_icmp_ne (tgt := 29) dX12_isGood_22 (by decide) (fun hc => ?_) (fun hc => ?_)
    · replace h := h.1 hc
      refine go_iconst (v := 0) dX12_isGood_29 (by decide) ?_
      exact go_zret dX12_isGood_30 rfl (by decide) h
    · replace h := h.2 hc
      refine go_iconst (v := 1) dX12_isGood_25 (by decide) ?_
      refine go_goto (tgt := 30) dX12_isGood_26 (by decide) ?_
      exact go_zret dX12_isGood_30 rfl (by decide) h
set_option maxRecDepth 100000 in
set_option maxHeartbeats 4000000 in
theorem B_X12_isBanned_0 {g : gp} {u : sg} {Q : Option Value → sg → Prop} (x1 : Int32) (x2 : Int32) (h : Go g iX12_lawFor 0 [some (.ref (gd g 12)), some (.int x2), some (.int 5), some (.int 6), some (.int x1), none, none, none] [] u (QI (fun r1 u1 => ((r1 = (-1000000 : Int32) → Q (some (.int (0 : Int32))) u1) ∧ (¬ r1 = (-1000000 : Int32) → (vp_in r1 30 ∧ ((¬ (u1.2 61 r1.toNatClampNeg) = (5 : Int32) → Q (some (.int (0 : Int32))) u1) ∧ ((u1.2 61 r1.toNatClampNeg) = (5 : Int32) → Q (some (.int (1 : Int32))) u1)))))))) : Go g iX12_isBanned 0 [some (.ref (gd g 12)), some (.int x1), some (.int x2), none] [] u Q := by
  refine go_aload_n dX12_isBanned_0 rfl rfl ?_
  refine go_iload_n dX12_isBanned_1 rfl rfl ?_
  refine go_iconst (v := 5) dX12_isBanned_2 (by decide) ?_
  refine go_bipush (v := 6) dX12_isBanned_3 (by decide) ?_
  refine go_iload_n dX12_isBanned_5 rfl rfl ?_
  refine go_cVi (o := 12) (As := [.int x2, .int 5, .int 6, .int x1]) (st := []) (lc := [some (.ref (gd g 12)), some (.int x2), some (.int 5), some (.int 6), some (.int x1), none, none, none]) dX12_isBanned_6 me_X12_lawFor rfl ob_12 qm_X12_254 rfl (Nat.le_of_ble_eq_true rfl) rfl ⟨Nat.le_of_ble_eq_true rfl, Nat.le_of_ble_eq_true rfl⟩ rfl (Nat.le_of_ble_eq_true rfl) h (fun r1 u1 h => ?_)
  refine go_istore_n (lm := [some (.ref (gd g 12)), some (.int x1), some (.int x2), some (.int r1)]) dX12_isBanned_9 rfl (by decide) rfl rfl ?_
  refine go_iload_n dX12_isBanned_10 rfl rfl ?_
  refine go_ldc dX12_isBanned_11 qc_X12_129 ?_
  refine go_icmp_eq (tgt := 30) dX12_isBanned_13 (by decide) (fun hc => ?_) (fun hc => ?_)
  · replace h := h.1 hc
    refine go_iconst (v := 0) dX12_isBanned_30 (by decide) ?_
    exact go_zret dX12_isBanned_31 rfl (by decide) h
  · replace h := h.2 hc
    refine go_aload_n dX12_isBanned_16 rfl rfl ?_
    refine go_get (k := 12) (v := .ref (gd g 61)) dX12_isBanned_17 ob_12 (by decide) qf_X12_45 rfl ?_
    refine go_iload_n dX12_isBanned_20 rfl rfl ?_
    obtain ⟨hi, h⟩ := h
    refine go_ild (a := 61) (n := 30) dX12_isBanned_21 (by decide) (by decide) rfl hi ?_
    refine go_iconst (v := 5) dX12_isBanned_22 (by decide) ?_
    refine go_icmp_ne (tgt := 30) dX12_isBanned_23 (by decide) (fun hc => ?_) (fun hc => ?_)
    · replace h := h.1 hc
      refine go_iconst (v := 0) dX12_isBanned_30 (by decide) ?_
      exact go_zret dX12_isBanned_31 rfl (by decide) h
    · replace h := h.2 hc
      refine go_iconst (v := 1) dX12_isBanned_26 (by decide) ?_
      refine go_goto (tgt := 31) dX12_isBanned_27 (by decide) ?_
      exact go_zret dX12_isBanned_31 rfl (by decide) h
set_option maxRecDepth 100000 in
set_option maxHeartbeats 4000000 in
theorem B_X12_holds_0 {g : gp} {u : sg} {Q : Option Value → sg → Prop} (x1 : Int32) (x2 : Int32) (h : Go g iX12_isDay 0 [some (.int x1)] [] (sI u 12 0 (0 : Int32)) (QI (fun r1 u1 => ((¬ r1 = (0 : Int32) → ((¬ x2 = (0 : Int32) → Go g iX12_in 0 [some (.long (x2.toInt64)), none, some (.long 10), none, some (.long 17), none] [] u1 (QI (fun r2 u2 => ((r2 = (0 : Int32) → Go g iX12_in 0 [some (.long (x2.toInt64)), none, some (.long 20), none, some (.long 27), none] [] u2 (QI (fun r3 u3 => ((r3 = (0 : Int32) → Go g iX12_in 0 [some (.long (x2.toInt64)), none, some (.long 30), none, some (.long 37), none] [] u3 (QI (fun r4 u4 => ((r4 = (0 : Int32) → Go g iX12_in 0 [some (.long (x2.toInt64)), none, some (.long 40), none, some (.long 51), none] [] u4 (QI (fun r5 u5 => ((r5 = (0 : Int32) → Q (some (.int (-1000001 : Int32))) u5) ∧ (¬ r5 = (0 : Int32) → Go g iX12_isBanned 0 [some (.ref (gd g 12)), some (.int (x2 - 40)), some (.int x1), none] [] u5 (QI (fun r6 u6 => ((r6 = (0 : Int32) → Q (some (.int (0 : Int32))) u6) ∧ (¬ r6 = (0 : Int32) → Q (some (.int (1 : Int32))) u6))))))))) ∧ (¬ r4 = (0 : Int32) → Go g iX12_isGood 0 [some (.ref (gd g 12)), some (.int (x2 - 30)), some (.int x1), none] [] u4 (QI (fun r7 u7 => ((r7 = (0 : Int32) → Q (some (.int (0 : Int32))) u7) ∧ (¬ r7 = (0 : Int32) → Q (some (.int (1 : Int32))) u7))))))))) ∧ (¬ r3 = (0 : Int32) → Go g iX12_numberFor 0 [some (.ref (gd g 12)), some (.int x1), some (.int 2), some (.int (x2 - 20)), none] [] u3 (QI (fun r8 u8 => Q (some (.int r8)) u8))))))) ∧ (¬ r2 = (0 : Int32) → Go g iX12_numberFor 0 [some (.ref (gd g 12)), some (.int x1), some (.int 1), some (.int (x2 - 10)), none] [] u2 (QI (fun r9 u9 => Q (some (.int r9)) u9))))))) ∧ (x2 = (0 : Int32) → Go g iX12_numberFor 0 [some (.ref (gd g 12)), some (.int x1), some (.int 0), some (.int 0), none] [] u1 (QI (fun r10 u10 => Q (some (.int r10)) u10))))) ∧ (r1 = (0 : Int32) → Q (some (.int (-1000001 : Int32))) u1))))) : Go g iX12_holds 0 [some (.ref (gd g 12)), some (.int x1), some (.int x2)] [] u Q := by
  refine go_aload_n dX12_holds_0 rfl rfl ?_
  refine go_iconst (v := 0) dX12_holds_1 (by decide) ?_
  refine go_put (k := 0) dX12_holds_2 ob_12 (by decide) qf_X12_1 rfl rfl pf_I ?_
  refine go_iload_n dX12_holds_5 rfl rfl ?_
  refine go_cSi (As := [.int x1]) (st := []) (lc := [some (.int x1)]) dX12_holds_6 me_X12_isDay qm_X12_258 rfl (Nat.le_of_ble_eq_true rfl) rfl ⟨Nat.le_of_ble_eq_true rfl, Nat.le_of_ble_eq_true rfl⟩ rfl (Nat.le_of_ble_eq_true rfl) h (fun r1 u1 h => ?_)
  refine go_if_ne (tgt := 15) dX12_holds_9 (by decide) (fun hc => ?_) (fun hc => ?_)
  · replace h := h.1 hc
    refine go_iload_n dX12_holds_15 rfl rfl ?_
    refine go_if_ne (tgt := 29) dX12_holds_16 (by decide) (fun hc => ?_) (fun hc => ?_)
    · replace h := h.1 hc
      refine go_iload_n dX12_holds_29 rfl rfl ?_
      refine go_i2l dX12_holds_30 ?_
      refine go_ldc2 dX12_holds_31 ql_X12_265 ?_
      refine go_ldc2 dX12_holds_34 ql_X12_267 ?_
      refine go_cSi (As := [.long (x2.toInt64), .long 10, .long 17]) (st := []) (lc := [some (.long (x2.toInt64)), none, some (.long 10), none, some (.long 17), none]) dX12_holds_37 me_X12_in qm_X12_132 rfl (Nat.le_of_ble_eq_true rfl) rfl ⟨Nat.le_of_ble_eq_true rfl, Nat.le_of_ble_eq_true rfl⟩ rfl (Nat.le_of_ble_eq_true rfl) h (fun r2 u2 h => ?_)
      refine go_if_eq (tgt := 56) dX12_holds_40 (by decide) (fun hc => ?_) (fun hc => ?_)
      · replace h := h.1 hc
        refine go_iload_n dX12_holds_56 rfl rfl ?_
        refine go_i2l dX12_holds_57 ?_
        refine go_ldc2 dX12_holds_58 ql_X12_269 ?_
        refine go_ldc2 dX12_holds_61 ql_X12_271 ?_
        refine go_cSi (As := [.long (x2.toInt64), .long 20, .long 27]) (st := []) (lc := [some (.long (x2.toInt64)), none, some (.long 20), none, some (.long 27), none]) dX12_holds_64 me_X12_in qm_X12_132 rfl (Nat.le_of_ble_eq_true rfl) rfl ⟨Nat.le_of_ble_eq_true rfl, Nat.le_of_ble_eq_true rfl⟩ rfl (Nat.le_of_ble_eq_true rfl) h (fun r3 u3 h => ?_)
        refine go_if_eq (tgt := 83) dX12_holds_67 (by decide) (fun hc => ?_) (fun hc => ?_)
        · replace h := h.1 hc
          refine go_iload_n dX12_holds_83 rfl rfl ?_
          refine go_i2l dX12_holds_84 ?_
          refine go_ldc2 dX12_holds_85 ql_X12_273 ?_
          refine go_ldc2 dX12_holds_88 ql_X12_275 ?_
          refine go_cSi (As := [.long (x2.toInt64), .long 30, .long 37]) (st := []) (lc := [some (.long (x2.toInt64)), none, some (.long 30), none, some (.long 37), none]) dX12_holds_91 me_X12_in qm_X12_132 rfl (Nat.le_of_ble_eq_true rfl) rfl ⟨Nat.le_of_ble_eq_true rfl, Nat.le_of_ble_eq_true rfl⟩ rfl (Nat.le_of_ble_eq_true rfl) h (fun r4 u4 h => ?_)
          refine go_if_eq (tgt := 117) dX12_holds_94 (by decide) (fun hc => ?_) (fun hc => ?_)
          · replace h := h.1 hc
            refine go_iload_n dX12_holds_117 rfl rfl ?_
            refine go_i2l dX12_holds_118 ?_
            refine go_ldc2 dX12_holds_119 ql_X12_280 ?_
            refine go_ldc2 dX12_holds_122 ql_X12_282 ?_
            refine go_cSi (As := [.long (x2.toInt64), .long 40, .long 51]) (st := []) (lc := [some (.long (x2.toInt64)), none, some (.long 40), none, some (.long 51), none]) dX12_holds_125 me_X12_in qm_X12_132 rfl (Nat.le_of_ble_eq_true rfl) rfl ⟨Nat.le_of_ble_eq_true rfl, Nat.le_of_ble_eq_true rfl⟩ rfl (Nat.le_of_ble_eq_true rfl) h (fun r5 u5 h => ?_)
            refine go_if_eq (tgt := 151) dX12_holds_128 (by decide) (fun hc => ?_) (fun hc => ?_)
            · replace h := h.1 hc
              refine go_ldc dX12_holds_151 qc_X12_142 ?_
              exact go_iret dX12_holds_153 rfl h
            · replace h := h.2 hc
              refine go_aload_n dX12_holds_131 rfl rfl ?_
              refine go_iload_n dX12_holds_132 rfl rfl ?_
              refine go_bipush (v := 40) dX12_holds_133 (by decide) ?_
              refine go_isub dX12_holds_135 ?_
              refine go_iload_n dX12_holds_136 rfl rfl ?_
              refine go_cVi (o := 12) (As := [.int (x2 - 40), .int x1]) (st := []) (lc := [some (.ref (gd g 12)), some (.int (x2 - 40)), some (.int x1), none]) dX12_holds_137 me_X12_isBanned rfl ob_12 qm_X12_284 rfl (Nat.le_of_ble_eq_true rfl) rfl ⟨Nat.le_of_ble_eq_true rfl, Nat.le_of_ble_eq_true rfl⟩ rfl (Nat.le_of_ble_eq_true rfl) h (fun r6 u6 h => ?_)
              refine go_if_eq (tgt := 147) dX12_holds_140 (by decide) (fun hc => ?_) (fun hc => ?_)
              · replace h := h.1 hc
                refine go_iconst (v := 0) dX12_holds_147 (by decide) ?_
                refine go_goto (tgt := 153) dX12_holds_148 (by decide) ?_
                exact go_iret dX12_holds_153 rfl h
              · replace h := h.2 hc
                refine go_iconst (v := 1) dX12_holds_143 (by decide) ?_
                refine go_goto (tgt := 153) dX12_holds_144 (by decide) ?_
                exact go_iret dX12_holds_153 rfl h
          · replace h := h.2 hc
            refine go_aload_n dX12_holds_97 rfl rfl ?_
            refine go_iload_n dX12_holds_98 rfl rfl ?_
            refine go_bipush (v := 30) dX12_holds_99 (by decide) ?_
            refine go_isub dX12_holds_101 ?_
            refine go_iload_n dX12_holds_102 rfl rfl ?_
            refine go_cVi (o := 12) (As := [.int (x2 - 30), .int x1]) (st := []) (lc := [some (.ref (gd g 12)), some (.int (x2 - 30)), some (.int x1), none]) dX12_holds_103 me_X12_isGood rfl ob_12 qm_X12_277 rfl (Nat.le_of_ble_eq_true rfl) rfl ⟨Nat.le_of_ble_eq_true rfl, Nat.le_of_ble_eq_true rfl⟩ rfl (Nat.le_of_ble_eq_true rfl) h (fun r7 u7 h => ?_)
            refine go_if_eq (tgt := 113) dX12_holds_106 (by decide) (fun hc => ?_) (fun hc => ?_)
            · replace h := h.1 hc
              refine go_iconst (v := 0) dX12_holds_113 (by decide) ?_
              refine go_goto (tgt := 153) dX12_holds_114 (by decide) ?_
              exact go_iret dX12_holds_153 rfl h
            · replace h := h.2 hc
              refine go_iconst (v := 1) dX12_holds_109 (by decide) ?_
              refine go_goto (tgt := 153) dX12_holds_110 (by decide) ?_
              exact go_iret dX12_holds_153 rfl h
        · replace h := h.2 hc
          refine go_aload_n dX12_holds_70 rfl rfl ?_
          refine go_iload_n dX12_holds_71 rfl rfl ?_
          refine go_iconst (v := 2) dX12_holds_72 (by decide) ?_
          refine go_iload_n dX12_holds_73 rfl rfl ?_
          refine go_bipush (v := 20) dX12_holds_74 (by decide) ?_
          refine go_isub dX12_holds_76 ?_
          refine go_cVi (o := 12) (As := [.int x1, .int 2, .int (x2 - 20)]) (st := []) (lc := [some (.ref (gd g 12)), some (.int x1), some (.int 2), some (.int (x2 - 20)), none]) dX12_holds_77 me_X12_numberFor rfl ob_12 qm_X12_261 rfl (Nat.le_of_ble_eq_true rfl) rfl ⟨Nat.le_of_ble_eq_true rfl, Nat.le_of_ble_eq_true rfl⟩ rfl (Nat.le_of_ble_eq_true rfl) h (fun r8 u8 h => ?_)
          refine go_goto (tgt := 153) dX12_holds_80 (by decide) ?_
          exact go_iret dX12_holds_153 rfl h
      · replace h := h.2 hc
        refine go_aload_n dX12_holds_43 rfl rfl ?_
        refine go_iload_n dX12_holds_44 rfl rfl ?_
        refine go_iconst (v := 1) dX12_holds_45 (by decide) ?_
        refine go_iload_n dX12_holds_46 rfl rfl ?_
        refine go_bipush (v := 10) dX12_holds_47 (by decide) ?_
        refine go_isub dX12_holds_49 ?_
        refine go_cVi (o := 12) (As := [.int x1, .int 1, .int (x2 - 10)]) (st := []) (lc := [some (.ref (gd g 12)), some (.int x1), some (.int 1), some (.int (x2 - 10)), none]) dX12_holds_50 me_X12_numberFor rfl ob_12 qm_X12_261 rfl (Nat.le_of_ble_eq_true rfl) rfl ⟨Nat.le_of_ble_eq_true rfl, Nat.le_of_ble_eq_true rfl⟩ rfl (Nat.le_of_ble_eq_true rfl) h (fun r9 u9 h => ?_)
        refine go_goto (tgt := 153) dX12_holds_53 (by decide) ?_
        exact go_iret dX12_holds_153 rfl h
    · replace h := h.2 hc
      refine go_aload_n dX12_holds_19 rfl rfl ?_
      refine go_iload_n dX12_holds_20 rfl rfl ?_
      refine go_iconst (v := 0) dX12_holds_21 (by decide) ?_
      refine go_iconst (v := 0) dX12_holds_22 (by decide) ?_
      refine go_cVi (o := 12) (As := [.int x1, .int 0, .int 0]) (st := []) (lc := [some (.ref (gd g 12)), some (.int x1), some (.int 0), some (.int 0), none]) dX12_holds_23 me_X12_numberFor rfl ob_12 qm_X12_261 rfl (Nat.le_of_ble_eq_true rfl) rfl ⟨Nat.le_of_ble_eq_true rfl, Nat.le_of_ble_eq_true rfl⟩ rfl (Nat.le_of_ble_eq_true rfl) h (fun r10 u10 h => ?_)
      refine go_goto (tgt := 153) dX12_holds_26 (by decide) ?_
      exact go_iret dX12_holds_153 rfl h
  · replace h := h.2 hc
    refine go_ldc dX12_holds_12 qc_X12_142 ?_
    exact go_iret dX12_holds_14 rfl h
set_option maxRecDepth 100000 in
set_option maxHeartbeats 4000000 in
theorem B_X12_cart_0 {g : gp} {u : sg} {Q : Option Value → sg → Prop} (x1 : Int32) (x2 : Int32) (h : Go g iX12_isSheet 0 [some (.int x1)] [] (sI u 12 0 (0 : Int32)) (QI (fun r1 u1 => ((¬ r1 = (0 : Int32) → ((¬ (u1.1 12 26) = (16 : Int32) → Go g iX12_lookItems 0 [some (.ref (gd g 12)), some (.int x1), some (.int x2), some (.int 9)] [] u1 (QI (fun r2 u2 => (((0 : Int32) ≤ r2 → Go g iX12_cart 53 [some (.ref (gd g 12)), none, none, none, some (.int ((64 * x1) + x2)), some (.int 0)] [] u2 Q) ∧ (¬ (0 : Int32) ≤ r2 → Q (some (.int r2)) u2))))) ∧ ((u1.1 12 26) = (16 : Int32) → Q (some (.int (-1000003 : Int32))) u1))) ∧ (r1 = (0 : Int32) → Q (some (.int (-1000001 : Int32))) u1))))) : Go g iX12_cart 0 [some (.ref (gd g 12)), some (.int x1), some (.int x2), none, none, none] [] u Q := by
  refine go_aload_n dX12_cart_0 rfl rfl ?_
  refine go_iconst (v := 0) dX12_cart_1 (by decide) ?_
  refine go_put (k := 0) dX12_cart_2 ob_12 (by decide) qf_X12_1 rfl rfl pf_I ?_
  refine go_iload_n dX12_cart_5 rfl rfl ?_
  refine go_cSi (As := [.int x1]) (st := []) (lc := [some (.int x1)]) dX12_cart_6 me_X12_isSheet qm_X12_136 rfl (Nat.le_of_ble_eq_true rfl) rfl ⟨Nat.le_of_ble_eq_true rfl, Nat.le_of_ble_eq_true rfl⟩ rfl (Nat.le_of_ble_eq_true rfl) h (fun r1 u1 h => ?_)
  refine go_if_ne (tgt := 15) dX12_cart_9 (by decide) (fun hc => ?_) (fun hc => ?_)
  · replace h := h.1 hc
    refine go_aload_n dX12_cart_15 rfl rfl ?_
    refine go_get (k := 26) (v := .int (u1.1 12 26)) dX12_cart_16 ob_12 (by decide) qf_X12_287 rfl ?_
    refine go_bipush (v := 16) dX12_cart_19 (by decide) ?_
    refine go_icmp_ne (tgt := 27) dX12_cart_21 (by decide) (fun hc => ?_) (fun hc => ?_)
    · replace h := h.1 hc
      refine go_aload_n dX12_cart_27 rfl rfl ?_
      refine go_iload_n dX12_cart_28 rfl rfl ?_
      refine go_iload_n dX12_cart_29 rfl rfl ?_
      refine go_bipush (v := 9) dX12_cart_30 (by decide) ?_
      refine go_cVi (o := 12) (As := [.int x1, .int x2, .int 9]) (st := []) (lc := [some (.ref (gd g 12)), some (.int x1), some (.int x2), some (.int 9)]) dX12_cart_32 me_X12_lookItems rfl ob_12 qm_X12_290 rfl (Nat.le_of_ble_eq_true rfl) rfl ⟨Nat.le_of_ble_eq_true rfl, Nat.le_of_ble_eq_true rfl⟩ rfl (Nat.le_of_ble_eq_true rfl) h (fun r2 u2 h => ?_)
      refine go_istore_n (lm := [some (.ref (gd g 12)), some (.int x1), some (.int x2), some (.int r2), none, none]) dX12_cart_35 rfl (by decide) rfl rfl ?_
      refine go_iload_n dX12_cart_36 rfl rfl ?_
      refine go_if_ge (tgt := 42) dX12_cart_37 (by decide) (fun hc => ?_) (fun hc => ?_)
      · replace h := h.1 hc
        refine go_bipush (v := 64) dX12_cart_42 (by decide) ?_
        refine go_iload_n dX12_cart_44 rfl rfl ?_
        refine go_imul dX12_cart_45 ?_
        refine go_iload_n dX12_cart_46 rfl rfl ?_
        refine go_iadd dX12_cart_47 ?_
        refine go_istore (lm := [some (.ref (gd g 12)), some (.int x1), some (.int x2), some (.int r2), some (.int ((64 * x1) + x2)), none]) dX12_cart_48 (by decide) rfl rfl ?_
        refine go_iconst (v := 0) dX12_cart_50 (by decide) ?_
        refine go_istore (lm := [some (.ref (gd g 12)), some (.int x1), some (.int x2), some (.int r2), some (.int ((64 * x1) + x2)), some (.int 0)]) dX12_cart_51 (by decide) rfl rfl ?_
        refine go_mask [true, false, false, false, true, true] rfl ?_
        exact h
      · replace h := h.2 hc
        refine go_iload_n dX12_cart_40 rfl rfl ?_
        exact go_iret dX12_cart_41 rfl h
    · replace h := h.2 hc
      refine go_ldc dX12_cart_24 qc_X12_170 ?_
      exact go_iret dX12_cart_26 rfl h
  · replace h := h.2 hc
    refine go_ldc dX12_cart_12 qc_X12_142 ?_
    exact go_iret dX12_cart_14 rfl h
set_option maxRecDepth 100000 in
set_option maxHeartbeats 4000000 in
theorem B_X12_cart_53 {g : gp} {u : sg} {Q : Option Value → sg → Prop} (x4 : Int32) (x5 : Int32) (h : (((9 : Int32) ≤ x5 → Go g iX12_cart 109 [some (.ref (gd g 12)), none, none, none, some (.int x4), some (.int 0)] [] (sI u 12 1 (0 : Int32)) Q) ∧ (¬ (9 : Int32) ≤ x5 → (vp_in (x4 + x5) 512 ∧ ((¬ x5 = (0 : Int32) → Go g iX12_in 0 [some (.long ((u.2 54 (x4 + x5).toNatClampNeg).toInt64)), none, some (.long 0), none, some (.long 99), none] [] u (QI (fun r1 u1 => ((¬ r1 = (0 : Int32) → Go g iX12_cart 53 [some (.ref (gd g 12)), none, none, none, some (.int x4), some (.int (x5 + 1))] [] u1 Q) ∧ (r1 = (0 : Int32) → Q (some (.int (-1000001 : Int32))) u1))))) ∧ (x5 = (0 : Int32) → Go g iX12_in 0 [some (.long ((u.2 54 (x4 + x5).toNatClampNeg).toInt64)), none, some (.long 0), none, some (.long 4), none] [] u (QI (fun r2 u2 => ((¬ r2 = (0 : Int32) → Go g iX12_cart 53 [some (.ref (gd g 12)), none, none, none, some (.int x4), some (.int (x5 + 1))] [] u2 Q) ∧ (r2 = (0 : Int32) → Q (some (.int (-1000001 : Int32))) u2)))))))))) : Go g iX12_cart 53 [some (.ref (gd g 12)), none, none, none, some (.int x4), some (.int x5)] [] u Q := by
  refine go_iload dX12_cart_53 rfl ?_
  refine go_bipush (v := 9) dX12_cart_55 (by decide) ?_
  refine go_icmp_ge (tgt := 101) dX12_cart_57 (by decide) (fun hc => ?_) (fun hc => ?_)
  · replace h := h.1 hc
    refine go_aload_n dX12_cart_101 rfl rfl ?_
    refine go_iconst (v := 0) dX12_cart_102 (by decide) ?_
    refine go_put (k := 1) dX12_cart_103 ob_12 (by decide) qf_X12_7 rfl rfl pf_I ?_
    refine go_iconst (v := 0) dX12_cart_106 (by decide) ?_
    refine go_istore (lm := [some (.ref (gd g 12)), none, none, none, some (.int x4), some (.int 0)]) dX12_cart_107 (by decide) rfl rfl ?_
    exact h
  · replace h := h.2 hc
    refine go_aload_n dX12_cart_60 rfl rfl ?_
    refine go_get (k := 4) (v := .ref (gd g 54)) dX12_cart_61 ob_12 (by decide) qf_X12_24 rfl ?_
    refine go_iload dX12_cart_64 rfl ?_
    refine go_iload dX12_cart_66 rfl ?_
    refine go_iadd dX12_cart_68 ?_
    obtain ⟨hi, h⟩ := h
    refine go_ild (a := 54) (n := 512) dX12_cart_69 (by decide) (by decide) rfl hi ?_
    refine go_i2l dX12_cart_70 ?_
    refine go_lconst (v := 0) dX12_cart_71 (by decide) ?_
    refine go_iload dX12_cart_72 rfl ?_
    refine go_if_ne (tgt := 83) dX12_cart_74 (by decide) (fun hc => ?_) (fun hc => ?_)
    · replace h := h.1 hc
      refine go_ldc2 dX12_cart_83 ql_X12_295 ?_
      refine go_cSi (As := [.long ((u.2 54 (x4 + x5).toNatClampNeg).toInt64), .long 0, .long 99]) (st := []) (lc := [some (.long ((u.2 54 (x4 + x5).toNatClampNeg).toInt64)), none, some (.long 0), none, some (.long 99), none]) dX12_cart_86 me_X12_in qm_X12_132 rfl (Nat.le_of_ble_eq_true rfl) rfl ⟨Nat.le_of_ble_eq_true rfl, Nat.le_of_ble_eq_true rfl⟩ rfl (Nat.le_of_ble_eq_true rfl) h (fun r1 u1 h => ?_)
      refine go_if_ne (tgt := 95) dX12_cart_89 (by decide) (fun hc => ?_) (fun hc => ?_)
      · replace h := h.1 hc
        refine go_iinc (v := x5 + 1) (lm := [some (.ref (gd g 12)), none, none, none, some (.int x4), some (.int (x5 + 1))]) dX12_cart_95 rfl rfl (by decide) rfl rfl ?_
        refine go_goto (tgt := 53) dX12_cart_98 (by decide) ?_
        exact h
      · replace h := h.2 hc
        refine go_ldc dX12_cart_92 qc_X12_142 ?_
        exact go_iret dX12_cart_94 rfl h
    · replace h := h.2 hc
      refine go_ldc2 dX12_cart_77 ql_X12_293 ?_
      refine go_goto (tgt := 86) dX12_cart_80 (by decide) ?_
      refine go_cSi (As := [.long ((u.2 54 (x4 + x5).toNatClampNeg).toInt64), .long 0, .long 4]) (st := []) (lc := [some (.long ((u.2 54 (x4 + x5).toNatClampNeg).toInt64)), none, some (.long 0), none, some (.long 4), none]) dX12_cart_86 me_X12_in qm_X12_132 rfl (Nat.le_of_ble_eq_true rfl) rfl ⟨Nat.le_of_ble_eq_true rfl, Nat.le_of_ble_eq_true rfl⟩ rfl (Nat.le_of_ble_eq_true rfl) h (fun r2 u2 h => ?_)
      refine go_if_ne (tgt := 95) dX12_cart_89 (by decide) (fun hc => ?_) (fun hc => ?_)
      · replace h := h.1 hc
        refine go_iinc (v := x5 + 1) (lm := [some (.ref (gd g 12)), none, none, none, some (.int x4), some (.int (x5 + 1))]) dX12_cart_95 rfl rfl (by decide) rfl rfl ?_
        refine go_goto (tgt := 53) dX12_cart_98 (by decide) ?_
        exact h
      · replace h := h.2 hc
        refine go_ldc dX12_cart_92 qc_X12_142 ?_
        exact go_iret dX12_cart_94 rfl h
set_option maxRecDepth 100000 in
set_option maxHeartbeats 4000000 in
theorem B_X12_cart_109 {g : gp} {u : sg} {Q : Option Value → sg → Prop} (x4 : Int32) (x5 : Int32) (h : (((9 : Int32) ≤ x5 → Q (some (.int (((u.1 12 26) + 1) - 1))) (sI u 12 26 ((u.1 12 26) + 1))) ∧ (¬ (9 : Int32) ≤ x5 → (vp_in (x4 + x5) 512 ∧ (vp_in ((9 * (u.1 12 26)) + x5) 144 ∧ Go g iX12_cart 109 [some (.ref (gd g 12)), none, none, none, some (.int x4), some (.int (x5 + 1))] [] (sA u 65 ((9 * (u.1 12 26)) + x5).toNatClampNeg (u.2 54 (x4 + x5).toNatClampNeg)) Q))))) : Go g iX12_cart 109 [some (.ref (gd g 12)), none, none, none, some (.int x4), some (.int x5)] [] u Q := by
  refine go_iload dX12_cart_109 rfl ?_
  refine go_bipush (v := 9) dX12_cart_111 (by decide) ?_
  refine go_icmp_ge (tgt := 147) dX12_cart_113 (by decide) (fun hc => ?_) (fun hc => ?_)
  · replace h := h.1 hc
    refine go_aload_n dX12_cart_147 rfl rfl ?_
    refine go_dup dX12_cart_148 rfl ?_
    refine go_get (k := 26) (v := .int (u.1 12 26)) dX12_cart_149 ob_12 (by decide) qf_X12_287 rfl ?_
    refine go_iconst (v := 1) dX12_cart_152 (by decide) ?_
    refine go_iadd dX12_cart_153 ?_
    refine go_put (k := 26) dX12_cart_154 ob_12 (by decide) qf_X12_287 rfl rfl pf_I ?_
    refine go_aload_n dX12_cart_157 rfl rfl ?_
    refine go_get (k := 26) (v := .int ((u.1 12 26) + 1)) dX12_cart_158 ob_12 (by decide) qf_X12_287 rfl ?_
    refine go_iconst (v := 1) dX12_cart_161 (by decide) ?_
    refine go_isub dX12_cart_162 ?_
    exact go_iret dX12_cart_163 rfl h
  · replace h := h.2 hc
    refine go_aload_n dX12_cart_116 rfl rfl ?_
    refine go_get (k := 27) (v := .ref (gd g 65)) dX12_cart_117 ob_12 (by decide) qf_X12_57 rfl ?_
    refine go_bipush (v := 9) dX12_cart_120 (by decide) ?_
    refine go_aload_n dX12_cart_122 rfl rfl ?_
    refine go_get (k := 26) (v := .int (u.1 12 26)) dX12_cart_123 ob_12 (by decide) qf_X12_287 rfl ?_
    refine go_imul dX12_cart_126 ?_
    refine go_iload dX12_cart_127 rfl ?_
    refine go_iadd dX12_cart_129 ?_
    refine go_aload_n dX12_cart_130 rfl rfl ?_
    refine go_get (k := 4) (v := .ref (gd g 54)) dX12_cart_131 ob_12 (by decide) qf_X12_24 rfl ?_
    refine go_iload dX12_cart_134 rfl ?_
    refine go_iload dX12_cart_136 rfl ?_
    refine go_iadd dX12_cart_138 ?_
    obtain ⟨hi, h⟩ := h
    refine go_ild (a := 54) (n := 512) dX12_cart_139 (by decide) (by decide) rfl hi ?_
    obtain ⟨hi, h⟩ := h
    refine go_ist (a := 65) (n := 144) dX12_cart_140 (by decide) (by decide) rfl hi ?_
    refine go_iinc (v := x5 + 1) (lm := [some (.ref (gd g 12)), none, none, none, some (.int x4), some (.int (x5 + 1))]) dX12_cart_141 rfl rfl (by decide) rfl rfl ?_
    refine go_goto (tgt := 109) dX12_cart_144 (by decide) ?_
    exact h
set_option maxRecDepth 100000 in
set_option maxHeartbeats 4000000 in
theorem B_X12_isCart_0 {g : gp} {u : sg} {Q : Option Value → sg → Prop} (x1 : Int32) (h : Go g iX12_in 0 [some (.long (x1.toInt64)), none, some (.long 0), none, some (.long (((u.1 12 26) - 1).toInt64)), none] [] u (QI (fun r1 u1 => (narrow .boolean (.int r1) = .int r1 ∧ Q (some (.int r1)) u1)))) : Go g iX12_isCart 0 [some (.ref (gd g 12)), some (.int x1)] [] u Q := by
  refine go_iload_n dX12_isCart_0 rfl rfl ?_
  refine go_i2l dX12_isCart_1 ?_
  refine go_lconst (v := 0) dX12_isCart_2 (by decide) ?_
  refine go_aload_n dX12_isCart_3 rfl rfl ?_
  refine go_get (k := 26) (v := .int (u.1 12 26)) dX12_isCart_4 ob_12 (by decide) qf_X12_287 rfl ?_
  refine go_iconst (v := 1) dX12_isCart_7 (by decide) ?_
  refine go_isub dX12_isCart_8 ?_
  refine go_i2l dX12_isCart_9 ?_
  refine go_cSi (As := [.long (x1.toInt64), .long 0, .long (((u.1 12 26) - 1).toInt64)]) (st := []) (lc := [some (.long (x1.toInt64)), none, some (.long 0), none, some (.long (((u.1 12 26) - 1).toInt64)), none]) dX12_isCart_10 me_X12_in qm_X12_132 rfl (Nat.le_of_ble_eq_true rfl) rfl ⟨Nat.le_of_ble_eq_true rfl, Nat.le_of_ble_eq_true rfl⟩ rfl (Nat.le_of_ble_eq_true rfl) h (fun r1 u1 h => ?_)
  exact go_zret dX12_isCart_13 rfl h.1 h.2
set_option maxRecDepth 100000 in
set_option maxHeartbeats 4000000 in
theorem B_X12_owedBy_0 {g : gp} {u : sg} {Q : Option Value → sg → Prop} (x1 : Int32) (x2 : Int32) (x3 : Int32) (h : (vp_in (9 * x1) 144 ∧ Go g iX12_numberFor 0 [some (.ref (gd g 12)), some (.int x3), some (.int 0), some (.int 0), none] [] u (QI (fun r1 u1 => Go g iX12_owedBy 22 [some (.ref (gd g 12)), some (.int x1), some (.int x2), some (.int x3), some (.int ((u.2 65 (9 * x1).toNatClampNeg) * r1)), some (.int 0), none] [] u1 Q)))) : Go g iX12_owedBy 0 [some (.ref (gd g 12)), some (.int x1), some (.int x2), some (.int x3), none, none, none] [] u Q := by
  refine go_aload_n dX12_owedBy_0 rfl rfl ?_
  refine go_get (k := 27) (v := .ref (gd g 65)) dX12_owedBy_1 ob_12 (by decide) qf_X12_57 rfl ?_
  refine go_bipush (v := 9) dX12_owedBy_4 (by decide) ?_
  refine go_iload_n dX12_owedBy_6 rfl rfl ?_
  refine go_imul dX12_owedBy_7 ?_
  obtain ⟨hi, h⟩ := h
  refine go_ild (a := 65) (n := 144) dX12_owedBy_8 (by decide) (by decide) rfl hi ?_
  refine go_aload_n dX12_owedBy_9 rfl rfl ?_
  refine go_iload_n dX12_owedBy_10 rfl rfl ?_
  refine go_iconst (v := 0) dX12_owedBy_11 (by decide) ?_
  refine go_iconst (v := 0) dX12_owedBy_12 (by decide) ?_
  refine go_cVi (o := 12) (As := [.int x3, .int 0, .int 0]) (st := [.int (u.2 65 (9 * x1).toNatClampNeg)]) (lc := [some (.ref (gd g 12)), some (.int x3), some (.int 0), some (.int 0), none]) dX12_owedBy_13 me_X12_numberFor rfl ob_12 qm_X12_261 rfl (Nat.le_of_ble_eq_true rfl) rfl ⟨Nat.le_of_ble_eq_true rfl, Nat.le_of_ble_eq_true rfl⟩ rfl (Nat.le_of_ble_eq_true rfl) h (fun r1 u1 h => ?_)
  refine go_imul dX12_owedBy_16 ?_
  refine go_istore (lm := [some (.ref (gd g 12)), some (.int x1), some (.int x2), some (.int x3), some (.int ((u.2 65 (9 * x1).toNatClampNeg) * r1)), none, none]) dX12_owedBy_17 (by decide) rfl rfl ?_
  refine go_iconst (v := 0) dX12_owedBy_19 (by decide) ?_
  refine go_istore (lm := [some (.ref (gd g 12)), some (.int x1), some (.int x2), some (.int x3), some (.int ((u.2 65 (9 * x1).toNatClampNeg) * r1)), some (.int 0), none]) dX12_owedBy_20 (by decide) rfl rfl ?_
  exact h
set_option maxRecDepth 100000 in
set_option maxHeartbeats 4000000 in
theorem B_X12_owedBy_22 {g : gp} {u : sg} {Q : Option Value → sg → Prop} (x1 : Int32) (x2 : Int32) (x3 : Int32) (x4 : Int32) (x5 : Int32) (h : (((8 : Int32) ≤ x5 → (vp_in x2 9 ∧ Q (some (.int ((x4 * (u.2 57 x2.toNatClampNeg)) / 100))) u)) ∧ (¬ (8 : Int32) ≤ x5 → (vp_in (((9 * x1) + 1) + x5) 144 ∧ Go g iX12_numberFor 0 [some (.ref (gd g 12)), some (.int x3), some (.int 2), some (.int x5), none] [] u (QI (fun r1 u1 => ((r1 < (u.2 65 (((9 * x1) + 1) + x5).toNatClampNeg) → Go g iX12_numberFor 0 [some (.ref (gd g 12)), some (.int x3), some (.int 1), some (.int x5), none] [] u1 (QI (fun r2 u2 => Go g iX12_owedBy 22 [some (.ref (gd g 12)), some (.int x1), some (.int x2), some (.int x3), some (.int (x4 + ((u.2 65 (((9 * x1) + 1) + x5).toNatClampNeg) * r2))), some (.int (x5 + 1)), none] [] u2 Q))) ∧ (¬ r1 < (u.2 65 (((9 * x1) + 1) + x5).toNatClampNeg) → Go g iX12_owedBy 22 [some (.ref (gd g 12)), some (.int x1), some (.int x2), some (.int x3), some (.int (x4 + 0)), some (.int (x5 + 1)), none] [] u1 Q)))))))) : Go g iX12_owedBy 22 [some (.ref (gd g 12)), some (.int x1), some (.int x2), some (.int x3), some (.int x4), some (.int x5), none] [] u Q := by
  refine go_iload dX12_owedBy_22 rfl ?_
  refine go_bipush (v := 8) dX12_owedBy_24 (by decide) ?_
  refine go_icmp_ge (tgt := 84) dX12_owedBy_26 (by decide) (fun hc => ?_) (fun hc => ?_)
  · replace h := h.1 hc
    refine go_iload dX12_owedBy_84 rfl ?_
    refine go_aload_n dX12_owedBy_86 rfl rfl ?_
    refine go_get (k := 7) (v := .ref (gd g 57)) dX12_owedBy_87 ob_12 (by decide) qf_X12_33 rfl ?_
    refine go_iload_n dX12_owedBy_90 rfl rfl ?_
    obtain ⟨hi, h⟩ := h
    refine go_ild (a := 57) (n := 9) dX12_owedBy_91 (by decide) (by decide) rfl hi ?_
    refine go_imul dX12_owedBy_92 ?_
    refine go_bipush (v := 100) dX12_owedBy_93 (by decide) ?_
    refine go_idiv dX12_owedBy_95 (by decide) ?_
    exact go_iret dX12_owedBy_96 rfl h
  · replace h := h.2 hc
    refine go_aload_n dX12_owedBy_29 rfl rfl ?_
    refine go_get (k := 27) (v := .ref (gd g 65)) dX12_owedBy_30 ob_12 (by decide) qf_X12_57 rfl ?_
    refine go_bipush (v := 9) dX12_owedBy_33 (by decide) ?_
    refine go_iload_n dX12_owedBy_35 rfl rfl ?_
    refine go_imul dX12_owedBy_36 ?_
    refine go_iconst (v := 1) dX12_owedBy_37 (by decide) ?_
    refine go_iadd dX12_owedBy_38 ?_
    refine go_iload dX12_owedBy_39 rfl ?_
    refine go_iadd dX12_owedBy_41 ?_
    obtain ⟨hi, h⟩ := h
    refine go_ild (a := 65) (n := 144) dX12_owedBy_42 (by decide) (by decide) rfl hi ?_
    refine go_istore (lm := [some (.ref (gd g 12)), some (.int x1), some (.int x2), some (.int x3), some (.int x4), some (.int x5), some (.int (u.2 65 (((9 * x1) + 1) + x5).toNatClampNeg))]) dX12_owedBy_43 (by decide) rfl rfl ?_
    refine go_iload dX12_owedBy_45 rfl ?_
    refine go_iload dX12_owedBy_47 rfl ?_
    refine go_aload_n dX12_owedBy_49 rfl rfl ?_
    refine go_iload_n dX12_owedBy_50 rfl rfl ?_
    refine go_iconst (v := 2) dX12_owedBy_51 (by decide) ?_
    refine go_iload dX12_owedBy_52 rfl ?_
    refine go_cVi (o := 12) (As := [.int x3, .int 2, .int x5]) (st := [.int (u.2 65 (((9 * x1) + 1) + x5).toNatClampNeg), .int x4]) (lc := [some (.ref (gd g 12)), some (.int x3), some (.int 2), some (.int x5), none]) dX12_owedBy_54 me_X12_numberFor rfl ob_12 qm_X12_261 rfl (Nat.le_of_ble_eq_true rfl) rfl ⟨Nat.le_of_ble_eq_true rfl, Nat.le_of_ble_eq_true rfl⟩ rfl (Nat.le_of_ble_eq_true rfl) h (fun r1 u1 h => ?_)
    refine go_icmp_gt (tgt := 64) dX12_owedBy_57 (by decide) (fun hc => ?_) (fun hc => ?_)
    · replace h := h.1 hc
      refine go_iload dX12_owedBy_64 rfl ?_
      refine go_aload_n dX12_owedBy_66 rfl rfl ?_
      refine go_iload_n dX12_owedBy_67 rfl rfl ?_
      refine go_iconst (v := 1) dX12_owedBy_68 (by decide) ?_
      refine go_iload dX12_owedBy_69 rfl ?_
      refine go_cVi (o := 12) (As := [.int x3, .int 1, .int x5]) (st := [.int (u.2 65 (((9 * x1) + 1) + x5).toNatClampNeg), .int x4]) (lc := [some (.ref (gd g 12)), some (.int x3), some (.int 1), some (.int x5), none]) dX12_owedBy_71 me_X12_numberFor rfl ob_12 qm_X12_261 rfl (Nat.le_of_ble_eq_true rfl) rfl ⟨Nat.le_of_ble_eq_true rfl, Nat.le_of_ble_eq_true rfl⟩ rfl (Nat.le_of_ble_eq_true rfl) h (fun r2 u2 h => ?_)
      refine go_imul dX12_owedBy_74 ?_
      refine go_iadd dX12_owedBy_75 ?_
      refine go_istore (lm := [some (.ref (gd g 12)), some (.int x1), some (.int x2), some (.int x3), some (.int (x4 + ((u.2 65 (((9 * x1) + 1) + x5).toNatClampNeg) * r2))), some (.int x5), some (.int (u.2 65 (((9 * x1) + 1) + x5).toNatClampNeg))]) dX12_owedBy_76 (by decide) rfl rfl ?_
      refine go_iinc (v := x5 + 1) (lm := [some (.ref (gd g 12)), some (.int x1), some (.int x2), some (.int x3), some (.int (x4 + ((u.2 65 (((9 * x1) + 1) + x5).toNatClampNeg) * r2))), some (.int (x5 + 1)), some (.int (u.2 65 (((9 * x1) + 1) + x5).toNatClampNeg))]) dX12_owedBy_78 rfl rfl (by decide) rfl rfl ?_
      refine go_goto (tgt := 22) dX12_owedBy_81 (by decide) ?_
      refine go_mask [true, true, true, true, true, true, false] rfl ?_
      exact h
    · replace h := h.2 hc
      refine go_iconst (v := 0) dX12_owedBy_60 (by decide) ?_
      refine go_goto (tgt := 75) dX12_owedBy_61 (by decide) ?_
      refine go_iadd dX12_owedBy_75 ?_
      refine go_istore (lm := [some (.ref (gd g 12)), some (.int x1), some (.int x2), some (.int x3), some (.int (x4 + 0)), some (.int x5), some (.int (u.2 65 (((9 * x1) + 1) + x5).toNatClampNeg))]) dX12_owedBy_76 (by decide) rfl rfl ?_
      refine go_iinc (v := x5 + 1) (lm := [some (.ref (gd g 12)), some (.int x1), some (.int x2), some (.int x3), some (.int (x4 + 0)), some (.int (x5 + 1)), some (.int (u.2 65 (((9 * x1) + 1) + x5).toNatClampNeg))]) dX12_owedBy_78 rfl rfl (by decide) rfl rfl ?_
      refine go_goto (tgt := 22) dX12_owedBy_81 (by decide) ?_
      refine go_mask [true, true, true, true, true, true, false] rfl ?_
      exact h
set_option maxRecDepth 100000 in
set_option maxHeartbeats 4000000 in
theorem B_X12_owed_0 {g : gp} {u : sg} {Q : Option Value → sg → Prop} (x1 : Int32) (x2 : Int32) (x3 : Int32) (h : Go g iX12_isCart 0 [some (.ref (gd g 12)), some (.int x1)] [] (sI u 12 0 (0 : Int32)) (QI (fun r1 u1 => ((r1 = (0 : Int32) → Q (some (.int (-1000001 : Int32))) u1) ∧ (¬ r1 = (0 : Int32) → ((x2 = (-1000000 : Int32) → Go g iX12_owed 26 [some (.ref (gd g 12)), some (.int x1), some (.int x2), some (.int x3), none, none] [] u1 Q) ∧ (¬ x2 = (-1000000 : Int32) → Go g iX12_isGate 0 [some (.int x2)] [] u1 (QI (fun r2 u2 => ((r2 = (0 : Int32) → Q (some (.int (-1000001 : Int32))) u2) ∧ (¬ r2 = (0 : Int32) → Go g iX12_owed 26 [some (.ref (gd g 12)), some (.int x1), some (.int x2), some (.int x3), none, none] [] u2 Q))))))))))) : Go g iX12_owed 0 [some (.ref (gd g 12)), some (.int x1), some (.int x2), some (.int x3), none, none] [] u Q := by
  refine go_aload_n dX12_owed_0 rfl rfl ?_
  refine go_iconst (v := 0) dX12_owed_1 (by decide) ?_
  refine go_put (k := 0) dX12_owed_2 ob_12 (by decide) qf_X12_1 rfl rfl pf_I ?_
  refine go_aload_n dX12_owed_5 rfl rfl ?_
  refine go_iload_n dX12_owed_6 rfl rfl ?_
  refine go_cVi (o := 12) (As := [.int x1]) (st := []) (lc := [some (.ref (gd g 12)), some (.int x1)]) dX12_owed_7 me_X12_isCart rfl ob_12 qm_X12_297 rfl (Nat.le_of_ble_eq_true rfl) rfl ⟨Nat.le_of_ble_eq_true rfl, Nat.le_of_ble_eq_true rfl⟩ rfl (Nat.le_of_ble_eq_true rfl) h (fun r1 u1 h => ?_)
  refine go_if_eq (tgt := 33) dX12_owed_10 (by decide) (fun hc => ?_) (fun hc => ?_)
  · replace h := h.1 hc
    refine go_ldc dX12_owed_33 qc_X12_142 ?_
    exact go_iret dX12_owed_35 rfl h
  · replace h := h.2 hc
    refine go_iload_n dX12_owed_13 rfl rfl ?_
    refine go_ldc dX12_owed_14 qc_X12_129 ?_
    refine go_icmp_eq (tgt := 26) dX12_owed_16 (by decide) (fun hc => ?_) (fun hc => ?_)
    · replace h := h.1 hc
      exact h
    · replace h := h.2 hc
      refine go_iload_n dX12_owed_19 rfl rfl ?_
      refine go_cSi (As := [.int x2]) (st := []) (lc := [some (.int x2)]) dX12_owed_20 me_X12_isGate qm_X12_153 rfl (Nat.le_of_ble_eq_true rfl) rfl ⟨Nat.le_of_ble_eq_true rfl, Nat.le_of_ble_eq_true rfl⟩ rfl (Nat.le_of_ble_eq_true rfl) h (fun r2 u2 h => ?_)
      refine go_if_eq (tgt := 33) dX12_owed_23 (by decide) (fun hc => ?_) (fun hc => ?_)
      · replace h := h.1 hc
        refine go_ldc dX12_owed_33 qc_X12_142 ?_
        exact go_iret dX12_owed_35 rfl h
      · replace h := h.2 hc
        exact h
set_option maxRecDepth 100000 in
set_option maxHeartbeats 4000000 in
theorem B_X12_owed_26 {g : gp} {u : sg} {Q : Option Value → sg → Prop} (x1 : Int32) (x2 : Int32) (x3 : Int32) (h : Go g iX12_isDay 0 [some (.int x3)] [] u (QI (fun r1 u1 => ((¬ r1 = (0 : Int32) → ((x2 = (-1000000 : Int32) → Go g iX12_owed 56 [some (.ref (gd g 12)), some (.int x1), none, some (.int x3), some (.int 0), some (.int 1)] [] u1 Q) ∧ (¬ x2 = (-1000000 : Int32) → Go g iX12_owedBy 0 [some (.ref (gd g 12)), some (.int x1), some (.int x2), some (.int x3), none, none, none] [] u1 (QI (fun r2 u2 => Q (some (.int r2)) u2))))) ∧ (r1 = (0 : Int32) → Q (some (.int (-1000001 : Int32))) u1))))) : Go g iX12_owed 26 [some (.ref (gd g 12)), some (.int x1), some (.int x2), some (.int x3), none, none] [] u Q := by
  refine go_iload_n dX12_owed_26 rfl rfl ?_
  refine go_cSi (As := [.int x3]) (st := []) (lc := [some (.int x3)]) dX12_owed_27 me_X12_isDay qm_X12_258 rfl (Nat.le_of_ble_eq_true rfl) rfl ⟨Nat.le_of_ble_eq_true rfl, Nat.le_of_ble_eq_true rfl⟩ rfl (Nat.le_of_ble_eq_true rfl) h (fun r1 u1 h => ?_)
  refine go_if_ne (tgt := 36) dX12_owed_30 (by decide) (fun hc => ?_) (fun hc => ?_)
  · replace h := h.1 hc
    refine go_iload_n dX12_owed_36 rfl rfl ?_
    refine go_ldc dX12_owed_37 qc_X12_129 ?_
    refine go_icmp_eq (tgt := 50) dX12_owed_39 (by decide) (fun hc => ?_) (fun hc => ?_)
    · replace h := h.1 hc
      refine go_iconst (v := 0) dX12_owed_50 (by decide) ?_
      refine go_istore (lm := [some (.ref (gd g 12)), some (.int x1), some (.int x2), some (.int x3), some (.int 0), none]) dX12_owed_51 (by decide) rfl rfl ?_
      refine go_iconst (v := 1) dX12_owed_53 (by decide) ?_
      refine go_istore (lm := [some (.ref (gd g 12)), some (.int x1), some (.int x2), some (.int x3), some (.int 0), some (.int 1)]) dX12_owed_54 (by decide) rfl rfl ?_
      refine go_mask [true, true, false, true, true, true] rfl ?_
      exact h
    · replace h := h.2 hc
      refine go_aload_n dX12_owed_42 rfl rfl ?_
      refine go_iload_n dX12_owed_43 rfl rfl ?_
      refine go_iload_n dX12_owed_44 rfl rfl ?_
      refine go_iload_n dX12_owed_45 rfl rfl ?_
      refine go_cVi (o := 12) (As := [.int x1, .int x2, .int x3]) (st := []) (lc := [some (.ref (gd g 12)), some (.int x1), some (.int x2), some (.int x3), none, none, none]) dX12_owed_46 me_X12_owedBy rfl ob_12 qm_X12_300 rfl (Nat.le_of_ble_eq_true rfl) rfl ⟨Nat.le_of_ble_eq_true rfl, Nat.le_of_ble_eq_true rfl⟩ rfl (Nat.le_of_ble_eq_true rfl) h (fun r2 u2 h => ?_)
      exact go_iret dX12_owed_49 rfl h
  · replace h := h.2 hc
    refine go_ldc dX12_owed_33 qc_X12_142 ?_
    exact go_iret dX12_owed_35 rfl h
set_option maxRecDepth 100000 in
set_option maxHeartbeats 4000000 in
theorem B_X12_owed_56 {g : gp} {u : sg} {Q : Option Value → sg → Prop} (x1 : Int32) (x3 : Int32) (x4 : Int32) (x5 : Int32) (h : (((9 : Int32) ≤ x5 → Q (some (.int x4)) u) ∧ (¬ (9 : Int32) ≤ x5 → Go g iX12_owedBy 0 [some (.ref (gd g 12)), some (.int x1), some (.int x5), some (.int x3), none, none, none] [] u (QI (fun r1 u1 => Go g iX12_owedBy 0 [some (.ref (gd g 12)), some (.int x1), some (.int x4), some (.int x3), none, none, none] [] u1 (QI (fun r2 u2 => ((r2 ≤ r1 → Go g iX12_owed 56 [some (.ref (gd g 12)), some (.int x1), none, some (.int x3), some (.int x4), some (.int (x5 + 1))] [] u2 Q) ∧ (¬ r2 ≤ r1 → Go g iX12_owed 56 [some (.ref (gd g 12)), some (.int x1), none, some (.int x3), some (.int x5), some (.int (x5 + 1))] [] u2 Q))))))))) : Go g iX12_owed 56 [some (.ref (gd g 12)), some (.int x1), none, some (.int x3), some (.int x4), some (.int x5)] [] u Q := by
  refine go_iload dX12_owed_56 rfl ?_
  refine go_bipush (v := 9) dX12_owed_58 (by decide) ?_
  refine go_icmp_ge (tgt := 97) dX12_owed_60 (by decide) (fun hc => ?_) (fun hc => ?_)
  · replace h := h.1 hc
    refine go_iload dX12_owed_97 rfl ?_
    exact go_iret dX12_owed_99 rfl h
  · replace h := h.2 hc
    refine go_aload_n dX12_owed_63 rfl rfl ?_
    refine go_iload_n dX12_owed_64 rfl rfl ?_
    refine go_iload dX12_owed_65 rfl ?_
    refine go_iload_n dX12_owed_67 rfl rfl ?_
    refine go_cVi (o := 12) (As := [.int x1, .int x5, .int x3]) (st := []) (lc := [some (.ref (gd g 12)), some (.int x1), some (.int x5), some (.int x3), none, none, none]) dX12_owed_68 me_X12_owedBy rfl ob_12 qm_X12_300 rfl (Nat.le_of_ble_eq_true rfl) rfl ⟨Nat.le_of_ble_eq_true rfl, Nat.le_of_ble_eq_true rfl⟩ rfl (Nat.le_of_ble_eq_true rfl) h (fun r1 u1 h => ?_)
    refine go_aload_n dX12_owed_71 rfl rfl ?_
    refine go_iload_n dX12_owed_72 rfl rfl ?_
    refine go_iload dX12_owed_73 rfl ?_
    refine go_iload_n dX12_owed_75 rfl rfl ?_
    refine go_cVi (o := 12) (As := [.int x1, .int x4, .int x3]) (st := [.int r1]) (lc := [some (.ref (gd g 12)), some (.int x1), some (.int x4), some (.int x3), none, none, none]) dX12_owed_76 me_X12_owedBy rfl ob_12 qm_X12_300 rfl (Nat.le_of_ble_eq_true rfl) rfl ⟨Nat.le_of_ble_eq_true rfl, Nat.le_of_ble_eq_true rfl⟩ rfl (Nat.le_of_ble_eq_true rfl) h (fun r2 u2 h => ?_)
    refine go_icmp_ge (tgt := 87) dX12_owed_79 (by decide) (fun hc => ?_) (fun hc => ?_)
    · replace h := h.1 hc
      refine go_iload dX12_owed_87 rfl ?_
      refine go_istore (lm := [some (.ref (gd g 12)), some (.int x1), none, some (.int x3), some (.int x4), some (.int x5)]) dX12_owed_89 (by decide) rfl rfl ?_
      refine go_iinc (v := x5 + 1) (lm := [some (.ref (gd g 12)), some (.int x1), none, some (.int x3), some (.int x4), some (.int (x5 + 1))]) dX12_owed_91 rfl rfl (by decide) rfl rfl ?_
      refine go_goto (tgt := 56) dX12_owed_94 (by decide) ?_
      exact h
    · replace h := h.2 hc
      refine go_iload dX12_owed_82 rfl ?_
      refine go_goto (tgt := 89) dX12_owed_84 (by decide) ?_
      refine go_istore (lm := [some (.ref (gd g 12)), some (.int x1), none, some (.int x3), some (.int x5), some (.int x5)]) dX12_owed_89 (by decide) rfl rfl ?_
      refine go_iinc (v := x5 + 1) (lm := [some (.ref (gd g 12)), some (.int x1), none, some (.int x3), some (.int x5), some (.int (x5 + 1))]) dX12_owed_91 rfl rfl (by decide) rfl rfl ?_
      refine go_goto (tgt := 56) dX12_owed_94 (by decide) ?_
      exact h
set_option maxRecDepth 100000 in
set_option maxHeartbeats 4000000 in
theorem B_X12_pass_0 {g : gp} {u : sg} {Q : Option Value → sg → Prop} (x1 : Int32) (x2 : Int32) (x3 : Int32) (x4 : Int32) (x5 : Int32) (x6 : Int32) (h : Go g iX12_isCart 0 [some (.ref (gd g 12)), some (.int x1)] [] (sI u 12 0 (0 : Int32)) (QI (fun r1 u1 => ((r1 = (0 : Int32) → Q (some (.int (-1000001 : Int32))) u1) ∧ (¬ r1 = (0 : Int32) → Go g iX12_in 0 [some (.long (x2.toInt64)), none, some (.long 0), none, some (.long 1), none] [] u1 (QI (fun r2 u2 => ((r2 = (0 : Int32) → Q (some (.int (-1000001 : Int32))) u2) ∧ (¬ r2 = (0 : Int32) → Go g iX12_isGate 0 [some (.int x3)] [] u2 (QI (fun r3 u3 => ((r3 = (0 : Int32) → Q (some (.int (-1000001 : Int32))) u3) ∧ (¬ r3 = (0 : Int32) → Go g iX12_isDay 0 [some (.int x4)] [] u3 (QI (fun r4 u4 => ((r4 = (0 : Int32) → Q (some (.int (-1000001 : Int32))) u4) ∧ (¬ r4 = (0 : Int32) → Go g iX12_isMinute 0 [some (.int x5)] [] u4 (QI (fun r5 u5 => ((r5 = (0 : Int32) → Q (some (.int (-1000001 : Int32))) u5) ∧ (¬ r5 = (0 : Int32) → Go g iX12_in 0 [some (.long (x6.toInt64)), none, some (.long 0), none, some (.long 100000), none] [] u5 (QI (fun r6 u6 => ((¬ r6 = (0 : Int32) → ((¬ (u6.1 12 28) = (60 : Int32) → (vp_in (u6.1 12 28) 60 ∧ (vp_in (u6.1 12 28) 60 ∧ (vp_in (u6.1 12 28) 60 ∧ (vp_in (u6.1 12 28) 60 ∧ (vp_in (u6.1 12 28) 60 ∧ Q (some (.int ((u6.1 12 28) + 1))) (sI (sA (sA (sA (sA (sA u6 66 (u6.1 12 28).toNatClampNeg x1) 67 (u6.1 12 28).toNatClampNeg x2) 68 (u6.1 12 28).toNatClampNeg x3) 69 (u6.1 12 28).toNatClampNeg ((1440 * x4) + x5)) 70 (u6.1 12 28).toNatClampNeg x6) 12 28 ((u6.1 12 28) + 1)))))))) ∧ ((u6.1 12 28) = (60 : Int32) → Q (some (.int (-1000003 : Int32))) u6))) ∧ (r6 = (0 : Int32) → Q (some (.int (-1000001 : Int32))) u6))))))))))))))))))))))))) : Go g iX12_pass 0 [some (.ref (gd g 12)), some (.int x1), some (.int x2), some (.int x3), some (.int x4), some (.int x5), some (.int x6)] [] u Q := by
  refine go_aload_n dX12_pass_0 rfl rfl ?_
  refine go_iconst (v := 0) dX12_pass_1 (by decide) ?_
  refine go_put (k := 0) dX12_pass_2 ob_12 (by decide) qf_X12_1 rfl rfl pf_I ?_
  refine go_aload_n dX12_pass_5 rfl rfl ?_
  refine go_iload_n dX12_pass_6 rfl rfl ?_
  refine go_cVi (o := 12) (As := [.int x1]) (st := []) (lc := [some (.ref (gd g 12)), some (.int x1)]) dX12_pass_7 me_X12_isCart rfl ob_12 qm_X12_297 rfl (Nat.le_of_ble_eq_true rfl) rfl ⟨Nat.le_of_ble_eq_true rfl, Nat.le_of_ble_eq_true rfl⟩ rfl (Nat.le_of_ble_eq_true rfl) h (fun r1 u1 h => ?_)
  refine go_if_eq (tgt := 59) dX12_pass_10 (by decide) (fun hc => ?_) (fun hc => ?_)
  · replace h := h.1 hc
    refine go_ldc dX12_pass_59 qc_X12_142 ?_
    exact go_iret dX12_pass_61 rfl h
  · replace h := h.2 hc
    refine go_iload_n dX12_pass_13 rfl rfl ?_
    refine go_i2l dX12_pass_14 ?_
    refine go_lconst (v := 0) dX12_pass_15 (by decide) ?_
    refine go_lconst (v := 1) dX12_pass_16 (by decide) ?_
    refine go_cSi (As := [.long (x2.toInt64), .long 0, .long 1]) (st := []) (lc := [some (.long (x2.toInt64)), none, some (.long 0), none, some (.long 1), none]) dX12_pass_17 me_X12_in qm_X12_132 rfl (Nat.le_of_ble_eq_true rfl) rfl ⟨Nat.le_of_ble_eq_true rfl, Nat.le_of_ble_eq_true rfl⟩ rfl (Nat.le_of_ble_eq_true rfl) h (fun r2 u2 h => ?_)
    refine go_if_eq (tgt := 59) dX12_pass_20 (by decide) (fun hc => ?_) (fun hc => ?_)
    · replace h := h.1 hc
      refine go_ldc dX12_pass_59 qc_X12_142 ?_
      exact go_iret dX12_pass_61 rfl h
    · replace h := h.2 hc
      refine go_iload_n dX12_pass_23 rfl rfl ?_
      refine go_cSi (As := [.int x3]) (st := []) (lc := [some (.int x3)]) dX12_pass_24 me_X12_isGate qm_X12_153 rfl (Nat.le_of_ble_eq_true rfl) rfl ⟨Nat.le_of_ble_eq_true rfl, Nat.le_of_ble_eq_true rfl⟩ rfl (Nat.le_of_ble_eq_true rfl) h (fun r3 u3 h => ?_)
      refine go_if_eq (tgt := 59) dX12_pass_27 (by decide) (fun hc => ?_) (fun hc => ?_)
      · replace h := h.1 hc
        refine go_ldc dX12_pass_59 qc_X12_142 ?_
        exact go_iret dX12_pass_61 rfl h
      · replace h := h.2 hc
        refine go_iload dX12_pass_30 rfl ?_
        refine go_cSi (As := [.int x4]) (st := []) (lc := [some (.int x4)]) dX12_pass_32 me_X12_isDay qm_X12_258 rfl (Nat.le_of_ble_eq_true rfl) rfl ⟨Nat.le_of_ble_eq_true rfl, Nat.le_of_ble_eq_true rfl⟩ rfl (Nat.le_of_ble_eq_true rfl) h (fun r4 u4 h => ?_)
        refine go_if_eq (tgt := 59) dX12_pass_35 (by decide) (fun hc => ?_) (fun hc => ?_)
        · replace h := h.1 hc
          refine go_ldc dX12_pass_59 qc_X12_142 ?_
          exact go_iret dX12_pass_61 rfl h
        · replace h := h.2 hc
          refine go_iload dX12_pass_38 rfl ?_
          refine go_cSi (As := [.int x5]) (st := []) (lc := [some (.int x5)]) dX12_pass_40 me_X12_isMinute qm_X12_156 rfl (Nat.le_of_ble_eq_true rfl) rfl ⟨Nat.le_of_ble_eq_true rfl, Nat.le_of_ble_eq_true rfl⟩ rfl (Nat.le_of_ble_eq_true rfl) h (fun r5 u5 h => ?_)
          refine go_if_eq (tgt := 59) dX12_pass_43 (by decide) (fun hc => ?_) (fun hc => ?_)
          · replace h := h.1 hc
            refine go_ldc dX12_pass_59 qc_X12_142 ?_
            exact go_iret dX12_pass_61 rfl h
          · replace h := h.2 hc
            refine go_iload dX12_pass_46 rfl ?_
            refine go_i2l dX12_pass_48 ?_
            refine go_lconst (v := 0) dX12_pass_49 (by decide) ?_
            refine go_ldc2 dX12_pass_50 ql_X12_303 ?_
            refine go_cSi (As := [.long (x6.toInt64), .long 0, .long 100000]) (st := []) (lc := [some (.long (x6.toInt64)), none, some (.long 0), none, some (.long 100000), none]) dX12_pass_53 me_X12_in qm_X12_132 rfl (Nat.le_of_ble_eq_true rfl) rfl ⟨Nat.le_of_ble_eq_true rfl, Nat.le_of_ble_eq_true rfl⟩ rfl (Nat.le_of_ble_eq_true rfl) h (fun r6 u6 h => ?_)
            refine go_if_ne (tgt := 62) dX12_pass_56 (by decide) (fun hc => ?_) (fun hc => ?_)
            · replace h := h.1 hc
              refine go_aload_n dX12_pass_62 rfl rfl ?_
              refine go_get (k := 28) (v := .int (u6.1 12 28)) dX12_pass_63 ob_12 (by decide) qf_X12_305 rfl ?_
              refine go_bipush (v := 60) dX12_pass_66 (by decide) ?_
              refine go_icmp_ne (tgt := 74) dX12_pass_68 (by decide) (fun hc => ?_) (fun hc => ?_)
              · replace h := h.1 hc
                refine go_aload_n dX12_pass_74 rfl rfl ?_
                refine go_get (k := 29) (v := .ref (gd g 66)) dX12_pass_75 ob_12 (by decide) qf_X12_60 rfl ?_
                refine go_aload_n dX12_pass_78 rfl rfl ?_
                refine go_get (k := 28) (v := .int (u6.1 12 28)) dX12_pass_79 ob_12 (by decide) qf_X12_305 rfl ?_
                refine go_iload_n dX12_pass_82 rfl rfl ?_
                obtain ⟨hi, h⟩ := h
                refine go_ist (a := 66) (n := 60) dX12_pass_83 (by decide) (by decide) rfl hi ?_
                refine go_aload_n dX12_pass_84 rfl rfl ?_
                refine go_get (k := 30) (v := .ref (gd g 67)) dX12_pass_85 ob_12 (by decide) qf_X12_63 rfl ?_
                refine go_aload_n dX12_pass_88 rfl rfl ?_
                refine go_get (k := 28) (v := .int (u6.1 12 28)) dX12_pass_89 ob_12 (by decide) qf_X12_305 rfl ?_
                refine go_iload_n dX12_pass_92 rfl rfl ?_
                obtain ⟨hi, h⟩ := h
                refine go_ist (a := 67) (n := 60) dX12_pass_93 (by decide) (by decide) rfl hi ?_
                refine go_aload_n dX12_pass_94 rfl rfl ?_
                refine go_get (k := 31) (v := .ref (gd g 68)) dX12_pass_95 ob_12 (by decide) qf_X12_66 rfl ?_
                refine go_aload_n dX12_pass_98 rfl rfl ?_
                refine go_get (k := 28) (v := .int (u6.1 12 28)) dX12_pass_99 ob_12 (by decide) qf_X12_305 rfl ?_
                refine go_iload_n dX12_pass_102 rfl rfl ?_
                obtain ⟨hi, h⟩ := h
                refine go_ist (a := 68) (n := 60) dX12_pass_103 (by decide) (by decide) rfl hi ?_
                refine go_aload_n dX12_pass_104 rfl rfl ?_
                refine go_get (k := 32) (v := .ref (gd g 69)) dX12_pass_105 ob_12 (by decide) qf_X12_69 rfl ?_
                refine go_aload_n dX12_pass_108 rfl rfl ?_
                refine go_get (k := 28) (v := .int (u6.1 12 28)) dX12_pass_109 ob_12 (by decide) qf_X12_305 rfl ?_
                refine go_sipush (v := 1440) dX12_pass_112 (by decide) ?_
                refine go_iload dX12_pass_115 rfl ?_
                refine go_imul dX12_pass_117 ?_
                refine go_iload dX12_pass_118 rfl ?_
                refine go_iadd dX12_pass_120 ?_
                obtain ⟨hi, h⟩ := h
                refine go_ist (a := 69) (n := 60) dX12_pass_121 (by decide) (by decide) rfl hi ?_
                refine go_aload_n dX12_pass_122 rfl rfl ?_
                refine go_get (k := 33) (v := .ref (gd g 70)) dX12_pass_123 ob_12 (by decide) qf_X12_72 rfl ?_
                refine go_aload_n dX12_pass_126 rfl rfl ?_
                refine go_get (k := 28) (v := .int (u6.1 12 28)) dX12_pass_127 ob_12 (by decide) qf_X12_305 rfl ?_
                refine go_iload dX12_pass_130 rfl ?_
                obtain ⟨hi, h⟩ := h
                refine go_ist (a := 70) (n := 60) dX12_pass_132 (by decide) (by decide) rfl hi ?_
                refine go_aload_n dX12_pass_133 rfl rfl ?_
                refine go_dup dX12_pass_134 rfl ?_
                refine go_get (k := 28) (v := .int (u6.1 12 28)) dX12_pass_135 ob_12 (by decide) qf_X12_305 rfl ?_
                refine go_iconst (v := 1) dX12_pass_138 (by decide) ?_
                refine go_iadd dX12_pass_139 ?_
                refine go_put (k := 28) dX12_pass_140 ob_12 (by decide) qf_X12_305 rfl rfl pf_I ?_
                refine go_aload_n dX12_pass_143 rfl rfl ?_
                refine go_get (k := 28) (v := .int ((u6.1 12 28) + 1)) dX12_pass_144 ob_12 (by decide) qf_X12_305 rfl ?_
                exact go_iret dX12_pass_147 rfl h
              · replace h := h.2 hc
                refine go_ldc dX12_pass_71 qc_X12_170 ?_
                exact go_iret dX12_pass_73 rfl h
            · replace h := h.2 hc
              refine go_ldc dX12_pass_59 qc_X12_142 ?_
              exact go_iret dX12_pass_61 rfl h
set_option maxRecDepth 100000 in
set_option maxHeartbeats 4000000 in
theorem B_X12_goThrough_0 {g : gp} {u : sg} {Q : Option Value → sg → Prop}  (h : Go g iX12_goThrough 17 [some (.ref (gd g 12)), some (.int 0), none, none, none, none, none, none, none, none] [] (sI (sI (sI u 12 34 (0 : Int32)) 12 35 (0 : Int32)) 12 36 (0 : Int32)) Q) : Go g iX12_goThrough 0 [some (.ref (gd g 12)), none, none, none, none, none, none, none, none, none] [] u Q := by
  refine go_aload_n dX12_goThrough_0 rfl rfl ?_
  refine go_iconst (v := 0) dX12_goThrough_1 (by decide) ?_
  refine go_put (k := 34) dX12_goThrough_2 ob_12 (by decide) qf_X12_308 rfl rfl pf_I ?_
  refine go_aload_n dX12_goThrough_5 rfl rfl ?_
  refine go_iconst (v := 0) dX12_goThrough_6 (by decide) ?_
  refine go_put (k := 35) dX12_goThrough_7 ob_12 (by decide) qf_X12_311 rfl rfl pf_I ?_
  refine go_aload_n dX12_goThrough_10 rfl rfl ?_
  refine go_iconst (v := 0) dX12_goThrough_11 (by decide) ?_
  refine go_put (k := 36) dX12_goThrough_12 ob_12 (by decide) qf_X12_314 rfl rfl pf_I ?_
  refine go_iconst (v := 0) dX12_goThrough_15 (by decide) ?_
  refine go_istore_n (lm := [some (.ref (gd g 12)), some (.int 0), none, none, none, none, none, none, none, none]) dX12_goThrough_16 rfl (by decide) rfl rfl ?_
  exact h
set_option maxRecDepth 100000 in
set_option maxHeartbeats 4000000 in
theorem B_X12_goThrough_17 {g : gp} {u : sg} {Q : Option Value → sg → Prop} (x1 : Int32) (h : (((u.1 12 26) ≤ x1 → Q none u) ∧ (¬ (u.1 12 26) ≤ x1 → Go g iX12_goThrough 35 [some (.ref (gd g 12)), some (.int x1), some (.int 0), some (.int 0), some (.long 0), none, some (.int 1), none, none, none] [] u Q))) : Go g iX12_goThrough 17 [some (.ref (gd g 12)), some (.int x1), none, none, none, none, none, none, none, none] [] u Q := by
  refine go_iload_n dX12_goThrough_17 rfl rfl ?_
  refine go_aload_n dX12_goThrough_18 rfl rfl ?_
  refine go_get (k := 26) (v := .int (u.1 12 26)) dX12_goThrough_19 ob_12 (by decide) qf_X12_287 rfl ?_
  refine go_icmp_ge (tgt := 266) dX12_goThrough_22 (by decide) (fun hc => ?_) (fun hc => ?_)
  · replace h := h.1 hc
    exact go_vret dX12_goThrough_266 rfl h
  · replace h := h.2 hc
    refine go_iconst (v := 0) dX12_goThrough_25 (by decide) ?_
    refine go_istore_n (lm := [some (.ref (gd g 12)), some (.int x1), some (.int 0), none, none, none, none, none, none, none]) dX12_goThrough_26 rfl (by decide) rfl rfl ?_
    refine go_iconst (v := 0) dX12_goThrough_27 (by decide) ?_
    refine go_istore_n (lm := [some (.ref (gd g 12)), some (.int x1), some (.int 0), some (.int 0), none, none, none, none, none, none]) dX12_goThrough_28 rfl (by decide) rfl rfl ?_
    refine go_lconst (v := 0) dX12_goThrough_29 (by decide) ?_
    refine go_lstore (lm := [some (.ref (gd g 12)), some (.int x1), some (.int 0), some (.int 0), some (.long 0), none, none, none, none, none]) dX12_goThrough_30 (by decide) rfl rfl ?_
    refine go_iconst (v := 1) dX12_goThrough_32 (by decide) ?_
    refine go_istore (lm := [some (.ref (gd g 12)), some (.int x1), some (.int 0), some (.int 0), some (.long 0), none, some (.int 1), none, none, none]) dX12_goThrough_33 (by decide) rfl rfl ?_
    exact h
set_option maxRecDepth 100000 in
set_option maxHeartbeats 4000000 in
theorem B_X12_goThrough_35 {g : gp} {u : sg} {Q : Option Value → sg → Prop} (x1 : Int32) (x2 : Int32) (x3 : Int32) (x4 : Int64) (x6 : Int32) (h : ((x6 = (0 : Int32) → (((0 : Int32) ≤ x3 → Go g iX12_goThrough 17 [some (.ref (gd g 12)), some (.int (x1 + 1)), none, none, none, none, none, none, none, none] [] (sI (sI u 12 35 ((u.1 12 35) + x2)) 12 36 ((u.1 12 36) + 0)) Q) ∧ (¬ (0 : Int32) ≤ x3 → Go g iX12_goThrough 17 [some (.ref (gd g 12)), some (.int (x1 + 1)), none, none, none, none, none, none, none, none] [] (sI (sI u 12 35 ((u.1 12 35) + x2)) 12 36 ((u.1 12 36) + 1)) Q))) ∧ (¬ x6 = (0 : Int32) → Go g iX12_goThrough 47 [some (.ref (gd g 12)), some (.int x1), some (.int x2), some (.int x3), some (.long x4), none, none, some (.int ((-1000000))), some (.int 0), none] [] u Q))) : Go g iX12_goThrough 35 [some (.ref (gd g 12)), some (.int x1), some (.int x2), some (.int x3), some (.long x4), none, some (.int x6), none, none, none] [] u Q := by
  refine go_iload dX12_goThrough_35 rfl ?_
  refine go_if_eq (tgt := 232) dX12_goThrough_37 (by decide) (fun hc => ?_) (fun hc => ?_)
  · replace h := h.1 hc
    refine go_aload_n dX12_goThrough_232 rfl rfl ?_
    refine go_dup dX12_goThrough_233 rfl ?_
    refine go_get (k := 35) (v := .int (u.1 12 35)) dX12_goThrough_234 ob_12 (by decide) qf_X12_311 rfl ?_
    refine go_iload_n dX12_goThrough_237 rfl rfl ?_
    refine go_iadd dX12_goThrough_238 ?_
    refine go_put (k := 35) dX12_goThrough_239 ob_12 (by decide) qf_X12_311 rfl rfl pf_I ?_
    refine go_aload_n dX12_goThrough_242 rfl rfl ?_
    refine go_dup dX12_goThrough_243 rfl ?_
    refine go_get (k := 36) (v := .int (u.1 12 36)) dX12_goThrough_244 ob_12 (by decide) qf_X12_314 rfl ?_
    refine go_iload_n dX12_goThrough_247 rfl rfl ?_
    refine go_if_ge (tgt := 255) dX12_goThrough_248 (by decide) (fun hc => ?_) (fun hc => ?_)
    · replace h := h.1 hc
      refine go_iconst (v := 0) dX12_goThrough_255 (by decide) ?_
      refine go_iadd dX12_goThrough_256 ?_
      refine go_put (k := 36) dX12_goThrough_257 ob_12 (by decide) qf_X12_314 rfl rfl pf_I ?_
      refine go_iinc (v := x1 + 1) (lm := [some (.ref (gd g 12)), some (.int (x1 + 1)), some (.int x2), some (.int x3), some (.long x4), none, some (.int x6), none, none, none]) dX12_goThrough_260 rfl rfl (by decide) rfl rfl ?_
      refine go_goto (tgt := 17) dX12_goThrough_263 (by decide) ?_
      refine go_mask [true, true, false, false, false, true, false, true, true, true] rfl ?_
      exact h
    · replace h := h.2 hc
      refine go_iconst (v := 1) dX12_goThrough_251 (by decide) ?_
      refine go_goto (tgt := 256) dX12_goThrough_252 (by decide) ?_
      refine go_iadd dX12_goThrough_256 ?_
      refine go_put (k := 36) dX12_goThrough_257 ob_12 (by decide) qf_X12_314 rfl rfl pf_I ?_
      refine go_iinc (v := x1 + 1) (lm := [some (.ref (gd g 12)), some (.int (x1 + 1)), some (.int x2), some (.int x3), some (.long x4), none, some (.int x6), none, none, none]) dX12_goThrough_260 rfl rfl (by decide) rfl rfl ?_
      refine go_goto (tgt := 17) dX12_goThrough_263 (by decide) ?_
      refine go_mask [true, true, false, false, false, true, false, true, true, true] rfl ?_
      exact h
  · replace h := h.2 hc
    refine go_ldc dX12_goThrough_40 qc_X12_129 ?_
    refine go_istore (lm := [some (.ref (gd g 12)), some (.int x1), some (.int x2), some (.int x3), some (.long x4), none, some (.int x6), some (.int ((-1000000))), none, none]) dX12_goThrough_42 (by decide) rfl rfl ?_
    refine go_iconst (v := 0) dX12_goThrough_44 (by decide) ?_
    refine go_istore (lm := [some (.ref (gd g 12)), some (.int x1), some (.int x2), some (.int x3), some (.long x4), none, some (.int x6), some (.int ((-1000000))), some (.int 0), none]) dX12_goThrough_45 (by decide) rfl rfl ?_
    refine go_mask [true, true, true, true, true, true, false, true, true, true] rfl ?_
    exact h
set_option maxRecDepth 100000 in
set_option maxHeartbeats 4000000 in
theorem B_X12_goThrough_47 {g : gp} {u : sg} {Q : Option Value → sg → Prop} (x1 : Int32) (x2 : Int32) (x3 : Int32) (x4 : Int64) (x7 : Int32) (x8 : Int32) (h : (((u.1 12 28) ≤ x8 → ((x7 = (-1000000 : Int32) → Go g iX12_goThrough 142 [some (.ref (gd g 12)), some (.int x1), some (.int x2), some (.int x3), some (.long x4), none, none, some (.int x7), none, none] [.int 0] u Q) ∧ (¬ x7 = (-1000000 : Int32) → Go g iX12_goThrough 142 [some (.ref (gd g 12)), some (.int x1), some (.int x2), some (.int x3), some (.long x4), none, none, some (.int x7), none, none] [.int 1] u Q))) ∧ (¬ (u.1 12 28) ≤ x8 → (vp_in x8 60 ∧ ((¬ (u.2 66 x8.toNatClampNeg) = x1 → Go g iX12_goThrough 84 [some (.ref (gd g 12)), some (.int x1), some (.int x2), some (.int x3), some (.long x4), none, none, some (.int x7), some (.int x8), none] [.int 0] u Q) ∧ ((u.2 66 x8.toNatClampNeg) = x1 → ((¬ (lg_cmp ((x4 >>> (x8.toInt64 &&& 63)) &&& (1 : Int64)) (0 : Int64)) = (0 : Int32) → Go g iX12_goThrough 84 [some (.ref (gd g 12)), some (.int x1), some (.int x2), some (.int x3), some (.long x4), none, none, some (.int x7), some (.int x8), none] [.int 0] u Q) ∧ ((lg_cmp ((x4 >>> (x8.toInt64 &&& 63)) &&& (1 : Int64)) (0 : Int64)) = (0 : Int32) → Go g iX12_goThrough 84 [some (.ref (gd g 12)), some (.int x1), some (.int x2), some (.int x3), some (.long x4), none, none, some (.int x7), some (.int x8), none] [.int 1] u Q)))))))) : Go g iX12_goThrough 47 [some (.ref (gd g 12)), some (.int x1), some (.int x2), some (.int x3), some (.long x4), none, none, some (.int x7), some (.int x8), none] [] u Q := by
  refine go_iload dX12_goThrough_47 rfl ?_
  refine go_aload_n dX12_goThrough_49 rfl rfl ?_
  refine go_get (k := 28) (v := .int (u.1 12 28)) dX12_goThrough_50 ob_12 (by decide) qf_X12_305 rfl ?_
  refine go_icmp_ge (tgt := 130) dX12_goThrough_53 (by decide) (fun hc => ?_) (fun hc => ?_)
  · replace h := h.1 hc
    refine go_iload dX12_goThrough_130 rfl ?_
    refine go_ldc dX12_goThrough_132 qc_X12_129 ?_
    refine go_icmp_eq (tgt := 141) dX12_goThrough_134 (by decide) (fun hc => ?_) (fun hc => ?_)
    · replace h := h.1 hc
      refine go_iconst (v := 0) dX12_goThrough_141 (by decide) ?_
      refine go_mask [true, true, true, true, true, true, true, true, false, true] rfl ?_
      exact h
    · replace h := h.2 hc
      refine go_iconst (v := 1) dX12_goThrough_137 (by decide) ?_
      refine go_goto (tgt := 142) dX12_goThrough_138 (by decide) ?_
      refine go_mask [true, true, true, true, true, true, true, true, false, true] rfl ?_
      exact h
  · replace h := h.2 hc
    refine go_aload_n dX12_goThrough_56 rfl rfl ?_
    refine go_get (k := 29) (v := .ref (gd g 66)) dX12_goThrough_57 ob_12 (by decide) qf_X12_60 rfl ?_
    refine go_iload dX12_goThrough_60 rfl ?_
    obtain ⟨hi, h⟩ := h
    refine go_ild (a := 66) (n := 60) dX12_goThrough_62 (by decide) (by decide) rfl hi ?_
    refine go_iload_n dX12_goThrough_63 rfl rfl ?_
    refine go_icmp_ne (tgt := 83) dX12_goThrough_64 (by decide) (fun hc => ?_) (fun hc => ?_)
    · replace h := h.1 hc
      refine go_iconst (v := 0) dX12_goThrough_83 (by decide) ?_
      exact h
    · replace h := h.2 hc
      refine go_lload dX12_goThrough_67 rfl ?_
      refine go_iload dX12_goThrough_69 rfl ?_
      refine go_lshr dX12_goThrough_71 ?_
      refine go_lconst (v := 1) dX12_goThrough_72 (by decide) ?_
      refine go_land dX12_goThrough_73 ?_
      refine go_lconst (v := 0) dX12_goThrough_74 (by decide) ?_
      refine go_lcmp dX12_goThrough_75 ?_
      refine go_if_ne (tgt := 83) dX12_goThrough_76 (by decide) (fun hc => ?_) (fun hc => ?_)
      · replace h := h.1 hc
        refine go_iconst (v := 0) dX12_goThrough_83 (by decide) ?_
        exact h
      · replace h := h.2 hc
        refine go_iconst (v := 1) dX12_goThrough_79 (by decide) ?_
        refine go_goto (tgt := 84) dX12_goThrough_80 (by decide) ?_
        exact h
set_option maxRecDepth 100000 in
set_option maxHeartbeats 4000000 in
theorem B_X12_goThrough_84 {g : gp} {u : sg} {Q : Option Value → sg → Prop} (x1 : Int32) (x2 : Int32) (x3 : Int32) (x4 : Int64) (x7 : Int32) (x8 : Int32) (t0 : Int32) (h : ((t0 = (0 : Int32) → Go g iX12_goThrough 47 [some (.ref (gd g 12)), some (.int x1), some (.int x2), some (.int x3), some (.long x4), none, none, some (.int x7), some (.int (x8 + 1)), none] [] u Q) ∧ (¬ t0 = (0 : Int32) → ((x7 = (-1000000 : Int32) → Go g iX12_goThrough 47 [some (.ref (gd g 12)), some (.int x1), some (.int x2), some (.int x3), some (.long x4), none, none, some (.int x8), some (.int (x8 + 1)), none] [] u Q) ∧ (¬ x7 = (-1000000 : Int32) → (vp_in x8 60 ∧ (vp_in x7 60 ∧ (((u.2 69 x7.toNatClampNeg) ≤ (u.2 69 x8.toNatClampNeg) → Go g iX12_goThrough 47 [some (.ref (gd g 12)), some (.int x1), some (.int x2), some (.int x3), some (.long x4), none, none, some (.int x7), some (.int (x8 + 1)), none] [] u Q) ∧ (¬ (u.2 69 x7.toNatClampNeg) ≤ (u.2 69 x8.toNatClampNeg) → Go g iX12_goThrough 47 [some (.ref (gd g 12)), some (.int x1), some (.int x2), some (.int x3), some (.long x4), none, none, some (.int x8), some (.int (x8 + 1)), none] [] u Q))))))))) : Go g iX12_goThrough 84 [some (.ref (gd g 12)), some (.int x1), some (.int x2), some (.int x3), some (.long x4), none, none, some (.int x7), some (.int x8), none] [.int t0] u Q := by
  refine go_istore (lm := [some (.ref (gd g 12)), some (.int x1), some (.int x2), some (.int x3), some (.long x4), none, none, some (.int x7), some (.int x8), some (.int t0)]) dX12_goThrough_84 (by decide) rfl rfl ?_
  refine go_iload dX12_goThrough_86 rfl ?_
  refine go_if_eq (tgt := 120) dX12_goThrough_88 (by decide) (fun hc => ?_) (fun hc => ?_)
  · replace h := h.1 hc
    refine go_iload dX12_goThrough_120 rfl ?_
    refine go_istore (lm := [some (.ref (gd g 12)), some (.int x1), some (.int x2), some (.int x3), some (.long x4), none, none, some (.int x7), some (.int x8), some (.int t0)]) dX12_goThrough_122 (by decide) rfl rfl ?_
    refine go_iinc (v := x8 + 1) (lm := [some (.ref (gd g 12)), some (.int x1), some (.int x2), some (.int x3), some (.long x4), none, none, some (.int x7), some (.int (x8 + 1)), some (.int t0)]) dX12_goThrough_124 rfl rfl (by decide) rfl rfl ?_
    refine go_goto (tgt := 47) dX12_goThrough_127 (by decide) ?_
    refine go_mask [true, true, true, true, true, true, true, true, true, false] rfl ?_
    exact h
  · replace h := h.2 hc
    refine go_iload dX12_goThrough_91 rfl ?_
    refine go_ldc dX12_goThrough_93 qc_X12_129 ?_
    refine go_icmp_eq (tgt := 115) dX12_goThrough_95 (by decide) (fun hc => ?_) (fun hc => ?_)
    · replace h := h.1 hc
      refine go_iload dX12_goThrough_115 rfl ?_
      refine go_goto (tgt := 122) dX12_goThrough_117 (by decide) ?_
      refine go_istore (lm := [some (.ref (gd g 12)), some (.int x1), some (.int x2), some (.int x3), some (.long x4), none, none, some (.int x8), some (.int x8), some (.int t0)]) dX12_goThrough_122 (by decide) rfl rfl ?_
      refine go_iinc (v := x8 + 1) (lm := [some (.ref (gd g 12)), some (.int x1), some (.int x2), some (.int x3), some (.long x4), none, none, some (.int x8), some (.int (x8 + 1)), some (.int t0)]) dX12_goThrough_124 rfl rfl (by decide) rfl rfl ?_
      refine go_goto (tgt := 47) dX12_goThrough_127 (by decide) ?_
      refine go_mask [true, true, true, true, true, true, true, true, true, false] rfl ?_
      exact h
    · replace h := h.2 hc
      refine go_aload_n dX12_goThrough_98 rfl rfl ?_
      refine go_get (k := 32) (v := .ref (gd g 69)) dX12_goThrough_99 ob_12 (by decide) qf_X12_69 rfl ?_
      refine go_iload dX12_goThrough_102 rfl ?_
      obtain ⟨hi, h⟩ := h
      refine go_ild (a := 69) (n := 60) dX12_goThrough_104 (by decide) (by decide) rfl hi ?_
      refine go_aload_n dX12_goThrough_105 rfl rfl ?_
      refine go_get (k := 32) (v := .ref (gd g 69)) dX12_goThrough_106 ob_12 (by decide) qf_X12_69 rfl ?_
      refine go_iload dX12_goThrough_109 rfl ?_
      obtain ⟨hi, h⟩ := h
      refine go_ild (a := 69) (n := 60) dX12_goThrough_111 (by decide) (by decide) rfl hi ?_
      refine go_icmp_ge (tgt := 120) dX12_goThrough_112 (by decide) (fun hc => ?_) (fun hc => ?_)
      · replace h := h.1 hc
        refine go_iload dX12_goThrough_120 rfl ?_
        refine go_istore (lm := [some (.ref (gd g 12)), some (.int x1), some (.int x2), some (.int x3), some (.long x4), none, none, some (.int x7), some (.int x8), some (.int t0)]) dX12_goThrough_122 (by decide) rfl rfl ?_
        refine go_iinc (v := x8 + 1) (lm := [some (.ref (gd g 12)), some (.int x1), some (.int x2), some (.int x3), some (.long x4), none, none, some (.int x7), some (.int (x8 + 1)), some (.int t0)]) dX12_goThrough_124 rfl rfl (by decide) rfl rfl ?_
        refine go_goto (tgt := 47) dX12_goThrough_127 (by decide) ?_
        refine go_mask [true, true, true, true, true, true, true, true, true, false] rfl ?_
        exact h
      · replace h := h.2 hc
        refine go_iload dX12_goThrough_115 rfl ?_
        refine go_goto (tgt := 122) dX12_goThrough_117 (by decide) ?_
        refine go_istore (lm := [some (.ref (gd g 12)), some (.int x1), some (.int x2), some (.int x3), some (.long x4), none, none, some (.int x8), some (.int x8), some (.int t0)]) dX12_goThrough_122 (by decide) rfl rfl ?_
        refine go_iinc (v := x8 + 1) (lm := [some (.ref (gd g 12)), some (.int x1), some (.int x2), some (.int x3), some (.long x4), none, none, some (.int x8), some (.int (x8 + 1)), some (.int t0)]) dX12_goThrough_124 rfl rfl (by decide) rfl rfl ?_
        refine go_goto (tgt := 47) dX12_goThrough_127 (by decide) ?_
        refine go_mask [true, true, true, true, true, true, true, true, true, false] rfl ?_
        exact h
set_option maxRecDepth 100000 in
set_option maxHeartbeats 4000000 in
theorem B_X12_goThrough_142 {g : gp} {u : sg} {Q : Option Value → sg → Prop} (x1 : Int32) (x2 : Int32) (x3 : Int32) (x4 : Int64) (x7 : Int32) (t0 : Int32) (h : ((t0 = (0 : Int32) → Go g iX12_goThrough 35 [some (.ref (gd g 12)), some (.int x1), some (.int x2), some (.int x3), some (.long x4), none, some (.int t0), none, none, none] [] u Q) ∧ (¬ t0 = (0 : Int32) → (vp_in x7 60 ∧ (((u.2 67 x7.toNatClampNeg) = x2 → Go g iX12_goThrough 204 [some (.ref (gd g 12)), some (.int x1), none, some (.int x3), some (.long (x4 ||| ((1 : Int64) <<< (x7.toInt64 &&& 63)))), none, some (.int t0), some (.int x7), none, none] [.int 1, .int (u.1 12 34), .ref (gd g 12)] u Q) ∧ (¬ (u.2 67 x7.toNatClampNeg) = x2 → (vp_in x7 60 ∧ (vp_in x7 60 ∧ Go g iX12_isOpen 0 [some (.ref (gd g 12)), some (.int (u.2 68 x7.toNatClampNeg)), some (.int ((u.2 69 x7.toNatClampNeg) - (u.2 69 x7.toNatClampNeg) / 1440 * 1440))] [] u (QI (fun r1 u1 => ((¬ r1 = (0 : Int32) → Go g iX12_goThrough 204 [some (.ref (gd g 12)), some (.int x1), none, some (.int x3), some (.long (x4 ||| ((1 : Int64) <<< (x7.toInt64 &&& 63)))), none, some (.int t0), some (.int x7), none, none] [.int 0, .int (u.1 12 34), .ref (gd g 12)] u1 Q) ∧ (r1 = (0 : Int32) → Go g iX12_goThrough 204 [some (.ref (gd g 12)), some (.int x1), none, some (.int x3), some (.long (x4 ||| ((1 : Int64) <<< (x7.toInt64 &&& 63)))), none, some (.int t0), some (.int x7), none, none] [.int 1, .int (u.1 12 34), .ref (gd g 12)] u1 Q)))))))))))) : Go g iX12_goThrough 142 [some (.ref (gd g 12)), some (.int x1), some (.int x2), some (.int x3), some (.long x4), none, none, some (.int x7), none, none] [.int t0] u Q := by
  refine go_istore (lm := [some (.ref (gd g 12)), some (.int x1), some (.int x2), some (.int x3), some (.long x4), none, some (.int t0), some (.int x7), none, none]) dX12_goThrough_142 (by decide) rfl rfl ?_
  refine go_iload dX12_goThrough_144 rfl ?_
  refine go_if_eq (tgt := 229) dX12_goThrough_146 (by decide) (fun hc => ?_) (fun hc => ?_)
  · replace h := h.1 hc
    refine go_goto (tgt := 35) dX12_goThrough_229 (by decide) ?_
    refine go_mask [true, true, true, true, true, true, true, false, true, true] rfl ?_
    exact h
  · replace h := h.2 hc
    refine go_lload dX12_goThrough_149 rfl ?_
    refine go_lconst (v := 1) dX12_goThrough_151 (by decide) ?_
    refine go_iload dX12_goThrough_152 rfl ?_
    refine go_lshl dX12_goThrough_154 ?_
    refine go_lor dX12_goThrough_155 ?_
    refine go_lstore (lm := [some (.ref (gd g 12)), some (.int x1), some (.int x2), some (.int x3), some (.long (x4 ||| ((1 : Int64) <<< (x7.toInt64 &&& 63)))), none, some (.int t0), some (.int x7), none, none]) dX12_goThrough_156 (by decide) rfl rfl ?_
    refine go_aload_n dX12_goThrough_158 rfl rfl ?_
    refine go_dup dX12_goThrough_159 rfl ?_
    refine go_get (k := 34) (v := .int (u.1 12 34)) dX12_goThrough_160 ob_12 (by decide) qf_X12_308 rfl ?_
    refine go_aload_n dX12_goThrough_163 rfl rfl ?_
    refine go_get (k := 30) (v := .ref (gd g 67)) dX12_goThrough_164 ob_12 (by decide) qf_X12_63 rfl ?_
    refine go_iload dX12_goThrough_167 rfl ?_
    obtain ⟨hi, h⟩ := h
    refine go_ild (a := 67) (n := 60) dX12_goThrough_169 (by decide) (by decide) rfl hi ?_
    refine go_iload_n dX12_goThrough_170 rfl rfl ?_
    refine go_icmp_eq (tgt := 199) dX12_goThrough_171 (by decide) (fun hc => ?_) (fun hc => ?_)
    · replace h := h.1 hc
      refine go_iconst (v := 1) dX12_goThrough_199 (by decide) ?_
      refine go_goto (tgt := 204) dX12_goThrough_200 (by decide) ?_
      refine go_mask [true, true, false, true, true, true, true, true, true, true] rfl ?_
      exact h
    · replace h := h.2 hc
      refine go_aload_n dX12_goThrough_174 rfl rfl ?_
      refine go_aload_n dX12_goThrough_175 rfl rfl ?_
      refine go_get (k := 31) (v := .ref (gd g 68)) dX12_goThrough_176 ob_12 (by decide) qf_X12_66 rfl ?_
      refine go_iload dX12_goThrough_179 rfl ?_
      obtain ⟨hi, h⟩ := h
      refine go_ild (a := 68) (n := 60) dX12_goThrough_181 (by decide) (by decide) rfl hi ?_
      refine go_aload_n dX12_goThrough_182 rfl rfl ?_
      refine go_get (k := 32) (v := .ref (gd g 69)) dX12_goThrough_183 ob_12 (by decide) qf_X12_69 rfl ?_
      refine go_iload dX12_goThrough_186 rfl ?_
      obtain ⟨hi, h⟩ := h
      refine go_ild (a := 69) (n := 60) dX12_goThrough_188 (by decide) (by decide) rfl hi ?_
      refine go_sipush (v := 1440) dX12_goThrough_189 (by decide) ?_
      refine go_irem dX12_goThrough_192 (by decide) ?_
      refine go_cVi (o := 12) (As := [.int (u.2 68 x7.toNatClampNeg), .int ((u.2 69 x7.toNatClampNeg) - (u.2 69 x7.toNatClampNeg) / 1440 * 1440)]) (st := [.int (u.1 12 34), .ref (gd g 12)]) (lc := [some (.ref (gd g 12)), some (.int (u.2 68 x7.toNatClampNeg)), some (.int ((u.2 69 x7.toNatClampNeg) - (u.2 69 x7.toNatClampNeg) / 1440 * 1440))]) dX12_goThrough_193 me_X12_isOpen rfl ob_12 qm_X12_317 rfl (Nat.le_of_ble_eq_true rfl) rfl ⟨Nat.le_of_ble_eq_true rfl, Nat.le_of_ble_eq_true rfl⟩ rfl (Nat.le_of_ble_eq_true rfl) h (fun r1 u1 h => ?_)
      refine go_if_ne (tgt := 203) dX12_goThrough_196 (by decide) (fun hc => ?_) (fun hc => ?_)
      · replace h := h.1 hc
        refine go_iconst (v := 0) dX12_goThrough_203 (by decide) ?_
        refine go_mask [true, true, false, true, true, true, true, true, true, true] rfl ?_
        exact h
      · replace h := h.2 hc
        refine go_iconst (v := 1) dX12_goThrough_199 (by decide) ?_
        refine go_goto (tgt := 204) dX12_goThrough_200 (by decide) ?_
        refine go_mask [true, true, false, true, true, true, true, true, true, true] rfl ?_
        exact h
set_option maxRecDepth 100000 in
set_option maxHeartbeats 4000000 in
theorem B_X12_goThrough_204 {g : gp} {u : sg} {Q : Option Value → sg → Prop} (x1 : Int32) (x3 : Int32) (x4 : Int64) (x6 : Int32) (x7 : Int32) (t0 : Int32) (t1 : Int32) (h : (vp_in x7 60 ∧ ((¬ (u.2 67 x7.toNatClampNeg) = (1 : Int32) → Go g iX12_goThrough 35 [some (.ref (gd g 12)), some (.int x1), some (.int (u.2 67 x7.toNatClampNeg)), some (.int (x3 + (-1))), some (.long x4), none, some (.int x6), none, none, none] [] (sI u 12 34 (t1 + t0)) Q) ∧ ((u.2 67 x7.toNatClampNeg) = (1 : Int32) → Go g iX12_goThrough 35 [some (.ref (gd g 12)), some (.int x1), some (.int (u.2 67 x7.toNatClampNeg)), some (.int (x3 + 1)), some (.long x4), none, some (.int x6), none, none, none] [] (sI u 12 34 (t1 + t0)) Q)))) : Go g iX12_goThrough 204 [some (.ref (gd g 12)), some (.int x1), none, some (.int x3), some (.long x4), none, some (.int x6), some (.int x7), none, none] [.int t0, .int t1, .ref (gd g 12)] u Q := by
  refine go_iadd dX12_goThrough_204 ?_
  refine go_put (k := 34) dX12_goThrough_205 ob_12 (by decide) qf_X12_308 rfl rfl pf_I ?_
  refine go_aload_n dX12_goThrough_208 rfl rfl ?_
  refine go_get (k := 30) (v := .ref (gd g 67)) dX12_goThrough_209 ob_12 (by decide) qf_X12_63 rfl ?_
  refine go_iload dX12_goThrough_212 rfl ?_
  obtain ⟨hi, h⟩ := h
  refine go_ild (a := 67) (n := 60) dX12_goThrough_214 (by decide) (by decide) rfl hi ?_
  refine go_istore_n (lm := [some (.ref (gd g 12)), some (.int x1), some (.int (u.2 67 x7.toNatClampNeg)), some (.int x3), some (.long x4), none, some (.int x6), some (.int x7), none, none]) dX12_goThrough_215 rfl (by decide) rfl rfl ?_
  refine go_iload_n dX12_goThrough_216 rfl rfl ?_
  refine go_iload_n dX12_goThrough_217 rfl rfl ?_
  refine go_iconst (v := 1) dX12_goThrough_218 (by decide) ?_
  refine go_icmp_ne (tgt := 226) dX12_goThrough_219 (by decide) (fun hc => ?_) (fun hc => ?_)
  · replace h := h.1 hc
    refine go_iconst (v := (-1)) dX12_goThrough_226 (by decide) ?_
    refine go_iadd dX12_goThrough_227 ?_
    refine go_istore_n (lm := [some (.ref (gd g 12)), some (.int x1), some (.int (u.2 67 x7.toNatClampNeg)), some (.int (x3 + (-1))), some (.long x4), none, some (.int x6), some (.int x7), none, none]) dX12_goThrough_228 rfl (by decide) rfl rfl ?_
    refine go_goto (tgt := 35) dX12_goThrough_229 (by decide) ?_
    refine go_mask [true, true, true, true, true, true, true, false, true, true] rfl ?_
    exact h
  · replace h := h.2 hc
    refine go_iconst (v := 1) dX12_goThrough_222 (by decide) ?_
    refine go_goto (tgt := 227) dX12_goThrough_223 (by decide) ?_
    refine go_iadd dX12_goThrough_227 ?_
    refine go_istore_n (lm := [some (.ref (gd g 12)), some (.int x1), some (.int (u.2 67 x7.toNatClampNeg)), some (.int (x3 + 1)), some (.long x4), none, some (.int x6), some (.int x7), none, none]) dX12_goThrough_228 rfl (by decide) rfl rfl ?_
    refine go_goto (tgt := 35) dX12_goThrough_229 (by decide) ?_
    refine go_mask [true, true, true, true, true, true, true, false, true, true] rfl ?_
    exact h
set_option maxRecDepth 100000 in
set_option maxHeartbeats 4000000 in
theorem B_X12_agree_0 {g : gp} {u : sg} {Q : Option Value → sg → Prop} (x1 : Int32) (h : Go g iX12_in 0 [some (.long (x1.toInt64)), none, some (.long 0), none, some (.long 2), none] [] (sI u 12 0 (0 : Int32)) (QI (fun r1 u1 => ((¬ r1 = (0 : Int32) → Go g iX12_goThrough 0 [some (.ref (gd g 12)), none, none, none, none, none, none, none, none, none] [] u1 (QV (fun u2 => ((¬ x1 = (0 : Int32) → ((¬ x1 = (1 : Int32) → Q (some (.int (u2.1 12 36))) u2) ∧ (x1 = (1 : Int32) → Q (some (.int (u2.1 12 35))) u2))) ∧ (x1 = (0 : Int32) → Q (some (.int (u2.1 12 34))) u2))))) ∧ (r1 = (0 : Int32) → Q (some (.int (-1000001 : Int32))) u1))))) : Go g iX12_agree 0 [some (.ref (gd g 12)), some (.int x1)] [] u Q := by
  refine go_aload_n dX12_agree_0 rfl rfl ?_
  refine go_iconst (v := 0) dX12_agree_1 (by decide) ?_
  refine go_put (k := 0) dX12_agree_2 ob_12 (by decide) qf_X12_1 rfl rfl pf_I ?_
  refine go_iload_n dX12_agree_5 rfl rfl ?_
  refine go_i2l dX12_agree_6 ?_
  refine go_lconst (v := 0) dX12_agree_7 (by decide) ?_
  refine go_ldc2 dX12_agree_8 ql_X12_140 ?_
  refine go_cSi (As := [.long (x1.toInt64), .long 0, .long 2]) (st := []) (lc := [some (.long (x1.toInt64)), none, some (.long 0), none, some (.long 2), none]) dX12_agree_11 me_X12_in qm_X12_132 rfl (Nat.le_of_ble_eq_true rfl) rfl ⟨Nat.le_of_ble_eq_true rfl, Nat.le_of_ble_eq_true rfl⟩ rfl (Nat.le_of_ble_eq_true rfl) h (fun r1 u1 h => ?_)
  refine go_if_ne (tgt := 20) dX12_agree_14 (by decide) (fun hc => ?_) (fun hc => ?_)
  · replace h := h.1 hc
    refine go_aload_n dX12_agree_20 rfl rfl ?_
    refine go_cVv (o := 12) (As := []) (st := []) (lc := [some (.ref (gd g 12)), none, none, none, none, none, none, none, none, none]) dX12_agree_21 me_X12_goThrough rfl ob_12 qm_X12_320 rfl (Nat.le_of_ble_eq_true rfl) rfl ⟨Nat.le_of_ble_eq_true rfl, Nat.le_of_ble_eq_true rfl⟩ rfl (Nat.le_of_ble_eq_true rfl) h (fun u2 h => ?_)
    refine go_iload_n dX12_agree_24 rfl rfl ?_
    refine go_if_ne (tgt := 35) dX12_agree_25 (by decide) (fun hc => ?_) (fun hc => ?_)
    · replace h := h.1 hc
      refine go_iload_n dX12_agree_35 rfl rfl ?_
      refine go_iconst (v := 1) dX12_agree_36 (by decide) ?_
      refine go_icmp_ne (tgt := 47) dX12_agree_37 (by decide) (fun hc => ?_) (fun hc => ?_)
      · replace h := h.1 hc
        refine go_aload_n dX12_agree_47 rfl rfl ?_
        refine go_get (k := 36) (v := .int (u2.1 12 36)) dX12_agree_48 ob_12 (by decide) qf_X12_314 rfl ?_
        exact go_iret dX12_agree_51 rfl h
      · replace h := h.2 hc
        refine go_aload_n dX12_agree_40 rfl rfl ?_
        refine go_get (k := 35) (v := .int (u2.1 12 35)) dX12_agree_41 ob_12 (by decide) qf_X12_311 rfl ?_
        refine go_goto (tgt := 51) dX12_agree_44 (by decide) ?_
        exact go_iret dX12_agree_51 rfl h
    · replace h := h.2 hc
      refine go_aload_n dX12_agree_28 rfl rfl ?_
      refine go_get (k := 34) (v := .int (u2.1 12 34)) dX12_agree_29 ob_12 (by decide) qf_X12_308 rfl ?_
      refine go_goto (tgt := 51) dX12_agree_32 (by decide) ?_
      exact go_iret dX12_agree_51 rfl h
  · replace h := h.2 hc
    refine go_ldc dX12_agree_17 qc_X12_142 ?_
    exact go_iret dX12_agree_19 rfl h
set_option maxRecDepth 100000 in
set_option maxHeartbeats 4000000 in
theorem B_X12_amiss_0 {g : gp} {u : sg} {Q : Option Value → sg → Prop} (x1 : Int32) (x2 : Int32) (x3 : Int32) (h : ((x1 = (-1000000 : Int32) → Go g iX12_amiss 18 [some (.ref (gd g 12)), some (.int x1), some (.int x2), some (.int x3), none, none, none] [] (sI u 12 0 (0 : Int32)) Q) ∧ (¬ x1 = (-1000000 : Int32) → Go g iX12_isGate 0 [some (.int x1)] [] (sI u 12 0 (0 : Int32)) (QI (fun r1 u1 => ((r1 = (0 : Int32) → Q (some (.int (-1000001 : Int32))) u1) ∧ (¬ r1 = (0 : Int32) → Go g iX12_amiss 18 [some (.ref (gd g 12)), some (.int x1), some (.int x2), some (.int x3), none, none, none] [] u1 Q))))))) : Go g iX12_amiss 0 [some (.ref (gd g 12)), some (.int x1), some (.int x2), some (.int x3), none, none, none] [] u Q := by
  refine go_aload_n dX12_amiss_0 rfl rfl ?_
  refine go_iconst (v := 0) dX12_amiss_1 (by decide) ?_
  refine go_put (k := 0) dX12_amiss_2 ob_12 (by decide) qf_X12_1 rfl rfl pf_I ?_
  refine go_iload_n dX12_amiss_5 rfl rfl ?_
  refine go_ldc dX12_amiss_6 qc_X12_129 ?_
  refine go_icmp_eq (tgt := 18) dX12_amiss_8 (by decide) (fun hc => ?_) (fun hc => ?_)
  · replace h := h.1 hc
    exact h
  · replace h := h.2 hc
    refine go_iload_n dX12_amiss_11 rfl rfl ?_
    refine go_cSi (As := [.int x1]) (st := []) (lc := [some (.int x1)]) dX12_amiss_12 me_X12_isGate qm_X12_153 rfl (Nat.le_of_ble_eq_true rfl) rfl ⟨Nat.le_of_ble_eq_true rfl, Nat.le_of_ble_eq_true rfl⟩ rfl (Nat.le_of_ble_eq_true rfl) h (fun r1 u1 h => ?_)
    refine go_if_eq (tgt := 38) dX12_amiss_15 (by decide) (fun hc => ?_) (fun hc => ?_)
    · replace h := h.1 hc
      refine go_ldc dX12_amiss_38 qc_X12_142 ?_
      exact go_iret dX12_amiss_40 rfl h
    · replace h := h.2 hc
      exact h
set_option maxRecDepth 100000 in
set_option maxHeartbeats 4000000 in
theorem B_X12_amiss_18 {g : gp} {u : sg} {Q : Option Value → sg → Prop} (x1 : Int32) (x2 : Int32) (x3 : Int32) (h : Go g iX12_isDay 0 [some (.int x2)] [] u (QI (fun r1 u1 => ((r1 = (0 : Int32) → Q (some (.int (-1000001 : Int32))) u1) ∧ (¬ r1 = (0 : Int32) → Go g iX12_in 0 [some (.long (x3.toInt64)), none, some (.long (x2.toInt64)), none, some (.long 999), none] [] u1 (QI (fun r2 u2 => ((¬ r2 = (0 : Int32) → Go g iX12_amiss 47 [some (.ref (gd g 12)), some (.int x1), some (.int x2), some (.int x3), some (.int 0), some (.int 0), none] [] u2 Q) ∧ (r2 = (0 : Int32) → Q (some (.int (-1000001 : Int32))) u2))))))))) : Go g iX12_amiss 18 [some (.ref (gd g 12)), some (.int x1), some (.int x2), some (.int x3), none, none, none] [] u Q := by
  refine go_iload_n dX12_amiss_18 rfl rfl ?_
  refine go_cSi (As := [.int x2]) (st := []) (lc := [some (.int x2)]) dX12_amiss_19 me_X12_isDay qm_X12_258 rfl (Nat.le_of_ble_eq_true rfl) rfl ⟨Nat.le_of_ble_eq_true rfl, Nat.le_of_ble_eq_true rfl⟩ rfl (Nat.le_of_ble_eq_true rfl) h (fun r1 u1 h => ?_)
  refine go_if_eq (tgt := 38) dX12_amiss_22 (by decide) (fun hc => ?_) (fun hc => ?_)
  · replace h := h.1 hc
    refine go_ldc dX12_amiss_38 qc_X12_142 ?_
    exact go_iret dX12_amiss_40 rfl h
  · replace h := h.2 hc
    refine go_iload_n dX12_amiss_25 rfl rfl ?_
    refine go_i2l dX12_amiss_26 ?_
    refine go_iload_n dX12_amiss_27 rfl rfl ?_
    refine go_i2l dX12_amiss_28 ?_
    refine go_ldc2 dX12_amiss_29 ql_X12_149 ?_
    refine go_cSi (As := [.long (x3.toInt64), .long (x2.toInt64), .long 999]) (st := []) (lc := [some (.long (x3.toInt64)), none, some (.long (x2.toInt64)), none, some (.long 999), none]) dX12_amiss_32 me_X12_in qm_X12_132 rfl (Nat.le_of_ble_eq_true rfl) rfl ⟨Nat.le_of_ble_eq_true rfl, Nat.le_of_ble_eq_true rfl⟩ rfl (Nat.le_of_ble_eq_true rfl) h (fun r2 u2 h => ?_)
    refine go_if_ne (tgt := 41) dX12_amiss_35 (by decide) (fun hc => ?_) (fun hc => ?_)
    · replace h := h.1 hc
      refine go_iconst (v := 0) dX12_amiss_41 (by decide) ?_
      refine go_istore (lm := [some (.ref (gd g 12)), some (.int x1), some (.int x2), some (.int x3), some (.int 0), none, none]) dX12_amiss_42 (by decide) rfl rfl ?_
      refine go_iconst (v := 0) dX12_amiss_44 (by decide) ?_
      refine go_istore (lm := [some (.ref (gd g 12)), some (.int x1), some (.int x2), some (.int x3), some (.int 0), some (.int 0), none]) dX12_amiss_45 (by decide) rfl rfl ?_
      exact h
    · replace h := h.2 hc
      refine go_ldc dX12_amiss_38 qc_X12_142 ?_
      exact go_iret dX12_amiss_40 rfl h
set_option maxRecDepth 100000 in
set_option maxHeartbeats 4000000 in
theorem B_X12_amiss_47 {g : gp} {u : sg} {Q : Option Value → sg → Prop} (x1 : Int32) (x2 : Int32) (x3 : Int32) (x4 : Int32) (x5 : Int32) (h : (((u.1 12 28) ≤ x5 → Q (some (.int x4)) u) ∧ (¬ (u.1 12 28) ≤ x5 → (vp_in x5 60 ∧ (vp_in x5 60 ∧ ((¬ (u.2 67 x5.toNatClampNeg) = (1 : Int32) → Go g iX12_amiss 47 [some (.ref (gd g 12)), some (.int x1), some (.int x2), some (.int x3), some (.int x4), some (.int (x5 + 1)), none] [] u Q) ∧ ((u.2 67 x5.toNatClampNeg) = (1 : Int32) → ((x1 = (-1000000 : Int32) → Go g iX12_amiss 97 [some (.ref (gd g 12)), some (.int x1), some (.int x2), some (.int x3), some (.int x4), some (.int x5), some (.int ((u.2 69 x5.toNatClampNeg) / 1440))] [] u Q) ∧ (¬ x1 = (-1000000 : Int32) → (vp_in x5 60 ∧ ((¬ (u.2 68 x5.toNatClampNeg) = x1 → Go g iX12_amiss 47 [some (.ref (gd g 12)), some (.int x1), some (.int x2), some (.int x3), some (.int x4), some (.int (x5 + 1)), none] [] u Q) ∧ ((u.2 68 x5.toNatClampNeg) = x1 → Go g iX12_amiss 97 [some (.ref (gd g 12)), some (.int x1), some (.int x2), some (.int x3), some (.int x4), some (.int x5), some (.int ((u.2 69 x5.toNatClampNeg) / 1440))] [] u Q)))))))))))) : Go g iX12_amiss 47 [some (.ref (gd g 12)), some (.int x1), some (.int x2), some (.int x3), some (.int x4), some (.int x5), none] [] u Q := by
  refine go_iload dX12_amiss_47 rfl ?_
  refine go_aload_n dX12_amiss_49 rfl rfl ?_
  refine go_get (k := 28) (v := .int (u.1 12 28)) dX12_amiss_50 ob_12 (by decide) qf_X12_305 rfl ?_
  refine go_icmp_ge (tgt := 148) dX12_amiss_53 (by decide) (fun hc => ?_) (fun hc => ?_)
  · replace h := h.1 hc
    refine go_iload dX12_amiss_148 rfl ?_
    exact go_iret dX12_amiss_150 rfl h
  · replace h := h.2 hc
    refine go_aload_n dX12_amiss_56 rfl rfl ?_
    refine go_get (k := 32) (v := .ref (gd g 69)) dX12_amiss_57 ob_12 (by decide) qf_X12_69 rfl ?_
    refine go_iload dX12_amiss_60 rfl ?_
    obtain ⟨hi, h⟩ := h
    refine go_ild (a := 69) (n := 60) dX12_amiss_62 (by decide) (by decide) rfl hi ?_
    refine go_sipush (v := 1440) dX12_amiss_63 (by decide) ?_
    refine go_idiv dX12_amiss_66 (by decide) ?_
    refine go_istore (lm := [some (.ref (gd g 12)), some (.int x1), some (.int x2), some (.int x3), some (.int x4), some (.int x5), some (.int ((u.2 69 x5.toNatClampNeg) / 1440))]) dX12_amiss_67 (by decide) rfl rfl ?_
    refine go_aload_n dX12_amiss_69 rfl rfl ?_
    refine go_get (k := 30) (v := .ref (gd g 67)) dX12_amiss_70 ob_12 (by decide) qf_X12_63 rfl ?_
    refine go_iload dX12_amiss_73 rfl ?_
    obtain ⟨hi, h⟩ := h
    refine go_ild (a := 67) (n := 60) dX12_amiss_75 (by decide) (by decide) rfl hi ?_
    refine go_iconst (v := 1) dX12_amiss_76 (by decide) ?_
    refine go_icmp_ne (tgt := 142) dX12_amiss_77 (by decide) (fun hc => ?_) (fun hc => ?_)
    · replace h := h.1 hc
      refine go_iinc (v := x5 + 1) (lm := [some (.ref (gd g 12)), some (.int x1), some (.int x2), some (.int x3), some (.int x4), some (.int (x5 + 1)), some (.int ((u.2 69 x5.toNatClampNeg) / 1440))]) dX12_amiss_142 rfl rfl (by decide) rfl rfl ?_
      refine go_goto (tgt := 47) dX12_amiss_145 (by decide) ?_
      refine go_mask [true, true, true, true, true, true, false] rfl ?_
      exact h
    · replace h := h.2 hc
      refine go_iload_n dX12_amiss_80 rfl rfl ?_
      refine go_ldc dX12_amiss_81 qc_X12_129 ?_
      refine go_icmp_eq (tgt := 97) dX12_amiss_83 (by decide) (fun hc => ?_) (fun hc => ?_)
      · replace h := h.1 hc
        exact h
      · replace h := h.2 hc
        refine go_aload_n dX12_amiss_86 rfl rfl ?_
        refine go_get (k := 31) (v := .ref (gd g 68)) dX12_amiss_87 ob_12 (by decide) qf_X12_66 rfl ?_
        refine go_iload dX12_amiss_90 rfl ?_
        obtain ⟨hi, h⟩ := h
        refine go_ild (a := 68) (n := 60) dX12_amiss_92 (by decide) (by decide) rfl hi ?_
        refine go_iload_n dX12_amiss_93 rfl rfl ?_
        refine go_icmp_ne (tgt := 142) dX12_amiss_94 (by decide) (fun hc => ?_) (fun hc => ?_)
        · replace h := h.1 hc
          refine go_iinc (v := x5 + 1) (lm := [some (.ref (gd g 12)), some (.int x1), some (.int x2), some (.int x3), some (.int x4), some (.int (x5 + 1)), some (.int ((u.2 69 x5.toNatClampNeg) / 1440))]) dX12_amiss_142 rfl rfl (by decide) rfl rfl ?_
          refine go_goto (tgt := 47) dX12_amiss_145 (by decide) ?_
          refine go_mask [true, true, true, true, true, true, false] rfl ?_
          exact h
        · replace h := h.2 hc
          exact h
set_option maxRecDepth 100000 in
set_option maxHeartbeats 4000000 in
theorem B_X12_amiss_97 {g : gp} {u : sg} {Q : Option Value → sg → Prop} (x1 : Int32) (x2 : Int32) (x3 : Int32) (x4 : Int32) (x5 : Int32) (x6 : Int32) (h : ((x6 < x2 → Go g iX12_amiss 47 [some (.ref (gd g 12)), some (.int x1), some (.int x2), some (.int x3), some (.int x4), some (.int (x5 + 1)), none] [] u Q) ∧ (¬ x6 < x2 → ((x3 < x6 → Go g iX12_amiss 47 [some (.ref (gd g 12)), some (.int x1), some (.int x2), some (.int x3), some (.int x4), some (.int (x5 + 1)), none] [] u Q) ∧ (¬ x3 < x6 → (vp_in x5 60 ∧ (vp_in x5 60 ∧ Go g iX12_owedBy 0 [some (.ref (gd g 12)), some (.int (u.2 66 x5.toNatClampNeg)), some (.int (u.2 68 x5.toNatClampNeg)), some (.int x6), none, none, none] [] u (QI (fun r1 u1 => (vp_in x5 60 ∧ Go g iX12_amiss 47 [some (.ref (gd g 12)), some (.int x1), some (.int x2), some (.int x3), some (.int (x4 + (r1 - (u1.2 70 x5.toNatClampNeg)))), some (.int (x5 + 1)), none] [] u1 Q)))))))))) : Go g iX12_amiss 97 [some (.ref (gd g 12)), some (.int x1), some (.int x2), some (.int x3), some (.int x4), some (.int x5), some (.int x6)] [] u Q := by
  refine go_iload dX12_amiss_97 rfl ?_
  refine go_iload_n dX12_amiss_99 rfl rfl ?_
  refine go_icmp_lt (tgt := 142) dX12_amiss_100 (by decide) (fun hc => ?_) (fun hc => ?_)
  · replace h := h.1 hc
    refine go_iinc (v := x5 + 1) (lm := [some (.ref (gd g 12)), some (.int x1), some (.int x2), some (.int x3), some (.int x4), some (.int (x5 + 1)), some (.int x6)]) dX12_amiss_142 rfl rfl (by decide) rfl rfl ?_
    refine go_goto (tgt := 47) dX12_amiss_145 (by decide) ?_
    refine go_mask [true, true, true, true, true, true, false] rfl ?_
    exact h
  · replace h := h.2 hc
    refine go_iload dX12_amiss_103 rfl ?_
    refine go_iload_n dX12_amiss_105 rfl rfl ?_
    refine go_icmp_gt (tgt := 142) dX12_amiss_106 (by decide) (fun hc => ?_) (fun hc => ?_)
    · replace h := h.1 hc
      refine go_iinc (v := x5 + 1) (lm := [some (.ref (gd g 12)), some (.int x1), some (.int x2), some (.int x3), some (.int x4), some (.int (x5 + 1)), some (.int x6)]) dX12_amiss_142 rfl rfl (by decide) rfl rfl ?_
      refine go_goto (tgt := 47) dX12_amiss_145 (by decide) ?_
      refine go_mask [true, true, true, true, true, true, false] rfl ?_
      exact h
    · replace h := h.2 hc
      refine go_iload dX12_amiss_109 rfl ?_
      refine go_aload_n dX12_amiss_111 rfl rfl ?_
      refine go_aload_n dX12_amiss_112 rfl rfl ?_
      refine go_get (k := 29) (v := .ref (gd g 66)) dX12_amiss_113 ob_12 (by decide) qf_X12_60 rfl ?_
      refine go_iload dX12_amiss_116 rfl ?_
      obtain ⟨hi, h⟩ := h
      refine go_ild (a := 66) (n := 60) dX12_amiss_118 (by decide) (by decide) rfl hi ?_
      refine go_aload_n dX12_amiss_119 rfl rfl ?_
      refine go_get (k := 31) (v := .ref (gd g 68)) dX12_amiss_120 ob_12 (by decide) qf_X12_66 rfl ?_
      refine go_iload dX12_amiss_123 rfl ?_
      obtain ⟨hi, h⟩ := h
      refine go_ild (a := 68) (n := 60) dX12_amiss_125 (by decide) (by decide) rfl hi ?_
      refine go_iload dX12_amiss_126 rfl ?_
      refine go_cVi (o := 12) (As := [.int (u.2 66 x5.toNatClampNeg), .int (u.2 68 x5.toNatClampNeg), .int x6]) (st := [.int x4]) (lc := [some (.ref (gd g 12)), some (.int (u.2 66 x5.toNatClampNeg)), some (.int (u.2 68 x5.toNatClampNeg)), some (.int x6), none, none, none]) dX12_amiss_128 me_X12_owedBy rfl ob_12 qm_X12_300 rfl (Nat.le_of_ble_eq_true rfl) rfl ⟨Nat.le_of_ble_eq_true rfl, Nat.le_of_ble_eq_true rfl⟩ rfl (Nat.le_of_ble_eq_true rfl) h (fun r1 u1 h => ?_)
      refine go_aload_n dX12_amiss_131 rfl rfl ?_
      refine go_get (k := 33) (v := .ref (gd g 70)) dX12_amiss_132 ob_12 (by decide) qf_X12_72 rfl ?_
      refine go_iload dX12_amiss_135 rfl ?_
      obtain ⟨hi, h⟩ := h
      refine go_ild (a := 70) (n := 60) dX12_amiss_137 (by decide) (by decide) rfl hi ?_
      refine go_isub dX12_amiss_138 ?_
      refine go_iadd dX12_amiss_139 ?_
      refine go_istore (lm := [some (.ref (gd g 12)), some (.int x1), some (.int x2), some (.int x3), some (.int (x4 + (r1 - (u1.2 70 x5.toNatClampNeg)))), some (.int x5), some (.int x6)]) dX12_amiss_140 (by decide) rfl rfl ?_
      refine go_iinc (v := x5 + 1) (lm := [some (.ref (gd g 12)), some (.int x1), some (.int x2), some (.int x3), some (.int (x4 + (r1 - (u1.2 70 x5.toNatClampNeg)))), some (.int (x5 + 1)), some (.int x6)]) dX12_amiss_142 rfl rfl (by decide) rfl rfl ?_
      refine go_goto (tgt := 47) dX12_amiss_145 (by decide) ?_
      refine go_mask [true, true, true, true, true, true, false] rfl ?_
      exact h
set_option maxRecDepth 100000 in
set_option maxHeartbeats 4000000 in
theorem B_X12_isTown_0 {g : gp} {u : sg} {Q : Option Value → sg → Prop} (x0 : Int32) (h : Go g iX12_in 0 [some (.long (x0.toInt64)), none, some (.long 0), none, some (.long 7), none] [] u (QI (fun r1 u1 => (narrow .boolean (.int r1) = .int r1 ∧ Q (some (.int r1)) u1)))) : Go g iX12_isTown 0 [some (.int x0)] [] u Q := by
  refine go_iload_n dX12_isTown_0 rfl rfl ?_
  refine go_i2l dX12_isTown_1 ?_
  refine go_lconst (v := 0) dX12_isTown_2 (by decide) ?_
  refine go_ldc2 dX12_isTown_3 ql_X12_130 ?_
  refine go_cSi (As := [.long (x0.toInt64), .long 0, .long 7]) (st := []) (lc := [some (.long (x0.toInt64)), none, some (.long 0), none, some (.long 7), none]) dX12_isTown_6 me_X12_in qm_X12_132 rfl (Nat.le_of_ble_eq_true rfl) rfl ⟨Nat.le_of_ble_eq_true rfl, Nat.le_of_ble_eq_true rfl⟩ rfl (Nat.le_of_ble_eq_true rfl) h (fun r1 u1 h => ?_)
  exact go_zret dX12_isTown_9 rfl h.1 h.2
set_option maxRecDepth 100000 in
set_option maxHeartbeats 4000000 in
theorem B_X12_isPerson_0 {g : gp} {u : sg} {Q : Option Value → sg → Prop} (x0 : Int32) (h : Go g iX12_in 0 [some (.long (x0.toInt64)), none, some (.long 0), none, some (.long 11), none] [] u (QI (fun r1 u1 => (narrow .boolean (.int r1) = .int r1 ∧ Q (some (.int r1)) u1)))) : Go g iX12_isPerson 0 [some (.int x0)] [] u Q := by
  refine go_iload_n dX12_isPerson_0 rfl rfl ?_
  refine go_i2l dX12_isPerson_1 ?_
  refine go_lconst (v := 0) dX12_isPerson_2 (by decide) ?_
  refine go_ldc2 dX12_isPerson_3 ql_X12_323 ?_
  refine go_cSi (As := [.long (x0.toInt64), .long 0, .long 11]) (st := []) (lc := [some (.long (x0.toInt64)), none, some (.long 0), none, some (.long 11), none]) dX12_isPerson_6 me_X12_in qm_X12_132 rfl (Nat.le_of_ble_eq_true rfl) rfl ⟨Nat.le_of_ble_eq_true rfl, Nat.le_of_ble_eq_true rfl⟩ rfl (Nat.le_of_ble_eq_true rfl) h (fun r1 u1 h => ?_)
  exact go_zret dX12_isPerson_9 rfl h.1 h.2
set_option maxRecDepth 100000 in
set_option maxHeartbeats 4000000 in
theorem B_X12_road_0 {g : gp} {u : sg} {Q : Option Value → sg → Prop} (x1 : Int32) (x2 : Int32) (x3 : Int32) (h : Go g iX12_isTown 0 [some (.int x1)] [] (sI u 12 0 (0 : Int32)) (QI (fun r1 u1 => ((r1 = (0 : Int32) → Q (some (.int (-1000001 : Int32))) u1) ∧ (¬ r1 = (0 : Int32) → ((x2 = (-1000000 : Int32) → Go g iX12_road 25 [some (.ref (gd g 12)), some (.int x1), some (.int x2), some (.int x3), none, none] [] u1 Q) ∧ (¬ x2 = (-1000000 : Int32) → Go g iX12_isTown 0 [some (.int x2)] [] u1 (QI (fun r2 u2 => ((r2 = (0 : Int32) → Q (some (.int (-1000001 : Int32))) u2) ∧ (¬ r2 = (0 : Int32) → Go g iX12_road 25 [some (.ref (gd g 12)), some (.int x1), some (.int x2), some (.int x3), none, none] [] u2 Q))))))))))) : Go g iX12_road 0 [some (.ref (gd g 12)), some (.int x1), some (.int x2), some (.int x3), none, none] [] u Q := by
  refine go_aload_n dX12_road_0 rfl rfl ?_
  refine go_iconst (v := 0) dX12_road_1 (by decide) ?_
  refine go_put (k := 0) dX12_road_2 ob_12 (by decide) qf_X12_1 rfl rfl pf_I ?_
  refine go_iload_n dX12_road_5 rfl rfl ?_
  refine go_cSi (As := [.int x1]) (st := []) (lc := [some (.int x1)]) dX12_road_6 me_X12_isTown qm_X12_325 rfl (Nat.le_of_ble_eq_true rfl) rfl ⟨Nat.le_of_ble_eq_true rfl, Nat.le_of_ble_eq_true rfl⟩ rfl (Nat.le_of_ble_eq_true rfl) h (fun r1 u1 h => ?_)
  refine go_if_eq (tgt := 42) dX12_road_9 (by decide) (fun hc => ?_) (fun hc => ?_)
  · replace h := h.1 hc
    refine go_ldc dX12_road_42 qc_X12_142 ?_
    exact go_iret dX12_road_44 rfl h
  · replace h := h.2 hc
    refine go_iload_n dX12_road_12 rfl rfl ?_
    refine go_ldc dX12_road_13 qc_X12_129 ?_
    refine go_icmp_eq (tgt := 25) dX12_road_15 (by decide) (fun hc => ?_) (fun hc => ?_)
    · replace h := h.1 hc
      exact h
    · replace h := h.2 hc
      refine go_iload_n dX12_road_18 rfl rfl ?_
      refine go_cSi (As := [.int x2]) (st := []) (lc := [some (.int x2)]) dX12_road_19 me_X12_isTown qm_X12_325 rfl (Nat.le_of_ble_eq_true rfl) rfl ⟨Nat.le_of_ble_eq_true rfl, Nat.le_of_ble_eq_true rfl⟩ rfl (Nat.le_of_ble_eq_true rfl) h (fun r2 u2 h => ?_)
      refine go_if_eq (tgt := 42) dX12_road_22 (by decide) (fun hc => ?_) (fun hc => ?_)
      · replace h := h.1 hc
        refine go_ldc dX12_road_42 qc_X12_142 ?_
        exact go_iret dX12_road_44 rfl h
      · replace h := h.2 hc
        exact h
set_option maxRecDepth 100000 in
set_option maxHeartbeats 4000000 in
theorem B_X12_road_25 {g : gp} {u : sg} {Q : Option Value → sg → Prop} (x1 : Int32) (x2 : Int32) (x3 : Int32) (h : ((x1 = x2 → Q (some (.int (-1000001 : Int32))) u) ∧ (¬ x1 = x2 → Go g iX12_in 0 [some (.long (x3.toInt64)), none, some (.long 1), none, some (.long 60), none] [] u (QI (fun r1 u1 => ((¬ r1 = (0 : Int32) → ((¬ x2 = (-1000000 : Int32) → Go g iX12_road 64 [some (.ref (gd g 12)), some (.int x1), some (.int x2), some (.int x3), none, none] [.int ((8 * x1) + x2)] u1 Q) ∧ (x2 = (-1000000 : Int32) → Go g iX12_road 64 [some (.ref (gd g 12)), some (.int x1), some (.int x2), some (.int x3), none, none] [.int (64 + x1)] u1 Q))) ∧ (r1 = (0 : Int32) → Q (some (.int (-1000001 : Int32))) u1))))))) : Go g iX12_road 25 [some (.ref (gd g 12)), some (.int x1), some (.int x2), some (.int x3), none, none] [] u Q := by
  refine go_iload_n dX12_road_25 rfl rfl ?_
  refine go_iload_n dX12_road_26 rfl rfl ?_
  refine go_icmp_eq (tgt := 42) dX12_road_27 (by decide) (fun hc => ?_) (fun hc => ?_)
  · replace h := h.1 hc
    refine go_ldc dX12_road_42 qc_X12_142 ?_
    exact go_iret dX12_road_44 rfl h
  · replace h := h.2 hc
    refine go_iload_n dX12_road_30 rfl rfl ?_
    refine go_i2l dX12_road_31 ?_
    refine go_lconst (v := 1) dX12_road_32 (by decide) ?_
    refine go_ldc2 dX12_road_33 ql_X12_328 ?_
    refine go_cSi (As := [.long (x3.toInt64), .long 1, .long 60]) (st := []) (lc := [some (.long (x3.toInt64)), none, some (.long 1), none, some (.long 60), none]) dX12_road_36 me_X12_in qm_X12_132 rfl (Nat.le_of_ble_eq_true rfl) rfl ⟨Nat.le_of_ble_eq_true rfl, Nat.le_of_ble_eq_true rfl⟩ rfl (Nat.le_of_ble_eq_true rfl) h (fun r1 u1 h => ?_)
    refine go_if_ne (tgt := 45) dX12_road_39 (by decide) (fun hc => ?_) (fun hc => ?_)
    · replace h := h.1 hc
      refine go_iload_n dX12_road_45 rfl rfl ?_
      refine go_ldc dX12_road_46 qc_X12_129 ?_
      refine go_icmp_ne (tgt := 58) dX12_road_48 (by decide) (fun hc => ?_) (fun hc => ?_)
      · replace h := h.1 hc
        refine go_bipush (v := 8) dX12_road_58 (by decide) ?_
        refine go_iload_n dX12_road_60 rfl rfl ?_
        refine go_imul dX12_road_61 ?_
        refine go_iload_n dX12_road_62 rfl rfl ?_
        refine go_iadd dX12_road_63 ?_
        exact h
      · replace h := h.2 hc
        refine go_bipush (v := 64) dX12_road_51 (by decide) ?_
        refine go_iload_n dX12_road_53 rfl rfl ?_
        refine go_iadd dX12_road_54 ?_
        refine go_goto (tgt := 64) dX12_road_55 (by decide) ?_
        exact h
    · replace h := h.2 hc
      refine go_ldc dX12_road_42 qc_X12_142 ?_
      exact go_iret dX12_road_44 rfl h
set_option maxRecDepth 100000 in
set_option maxHeartbeats 4000000 in
theorem B_X12_road_64 {g : gp} {u : sg} {Q : Option Value → sg → Prop} (x1 : Int32) (x2 : Int32) (x3 : Int32) (t0 : Int32) (h : (vp_in t0 72 ∧ (vp_in t0 72 ∧ ((x2 = (-1000000 : Int32) → Q (some (.int (u.2 71 t0.toNatClampNeg))) (sA u 71 t0.toNatClampNeg x3)) ∧ (¬ x2 = (-1000000 : Int32) → (vp_in ((8 * x2) + x1) 72 ∧ Q (some (.int (u.2 71 t0.toNatClampNeg))) (sA (sA u 71 t0.toNatClampNeg x3) 71 ((8 * x2) + x1).toNatClampNeg x3))))))) : Go g iX12_road 64 [some (.ref (gd g 12)), some (.int x1), some (.int x2), some (.int x3), none, none] [.int t0] u Q := by
  refine go_istore (lm := [some (.ref (gd g 12)), some (.int x1), some (.int x2), some (.int x3), some (.int t0), none]) dX12_road_64 (by decide) rfl rfl ?_
  refine go_aload_n dX12_road_66 rfl rfl ?_
  refine go_get (k := 37) (v := .ref (gd g 71)) dX12_road_67 ob_12 (by decide) qf_X12_75 rfl ?_
  refine go_iload dX12_road_70 rfl ?_
  obtain ⟨hi, h⟩ := h
  refine go_ild (a := 71) (n := 72) dX12_road_72 (by decide) (by decide) rfl hi ?_
  refine go_istore (lm := [some (.ref (gd g 12)), some (.int x1), some (.int x2), some (.int x3), some (.int t0), some (.int (u.2 71 t0.toNatClampNeg))]) dX12_road_73 (by decide) rfl rfl ?_
  refine go_aload_n dX12_road_75 rfl rfl ?_
  refine go_get (k := 37) (v := .ref (gd g 71)) dX12_road_76 ob_12 (by decide) qf_X12_75 rfl ?_
  refine go_iload dX12_road_79 rfl ?_
  refine go_iload_n dX12_road_81 rfl rfl ?_
  obtain ⟨hi, h⟩ := h
  refine go_ist (a := 71) (n := 72) dX12_road_82 (by decide) (by decide) rfl hi ?_
  refine go_iload_n dX12_road_83 rfl rfl ?_
  refine go_ldc dX12_road_84 qc_X12_129 ?_
  refine go_icmp_eq (tgt := 101) dX12_road_86 (by decide) (fun hc => ?_) (fun hc => ?_)
  · replace h := h.1 hc
    refine go_iload dX12_road_101 rfl ?_
    exact go_iret dX12_road_103 rfl h
  · replace h := h.2 hc
    refine go_aload_n dX12_road_89 rfl rfl ?_
    refine go_get (k := 37) (v := .ref (gd g 71)) dX12_road_90 ob_12 (by decide) qf_X12_75 rfl ?_
    refine go_bipush (v := 8) dX12_road_93 (by decide) ?_
    refine go_iload_n dX12_road_95 rfl rfl ?_
    refine go_imul dX12_road_96 ?_
    refine go_iload_n dX12_road_97 rfl rfl ?_
    refine go_iadd dX12_road_98 ?_
    refine go_iload_n dX12_road_99 rfl rfl ?_
    obtain ⟨hi, h⟩ := h
    refine go_ist (a := 71) (n := 72) dX12_road_100 (by decide) (by decide) rfl hi ?_
    refine go_iload dX12_road_101 rfl ?_
    exact go_iret dX12_road_103 rfl h
set_option maxRecDepth 100000 in
set_option maxHeartbeats 4000000 in
theorem B_X12_sick_0 {g : gp} {u : sg} {Q : Option Value → sg → Prop} (x1 : Int32) (x2 : Int32) (x3 : Int32) (h : Go g iX12_isTown 0 [some (.int x1)] [] (sI u 12 0 (0 : Int32)) (QI (fun r1 u1 => ((r1 = (0 : Int32) → Q (some (.int (-1000001 : Int32))) u1) ∧ (¬ r1 = (0 : Int32) → Go g iX12_isDay 0 [some (.int x2)] [] u1 (QI (fun r2 u2 => ((r2 = (0 : Int32) → Q (some (.int (-1000001 : Int32))) u2) ∧ (¬ r2 = (0 : Int32) → Go g iX12_in 0 [some (.long (x3.toInt64)), none, some (.long (x2.toInt64)), none, some (.long 999), none] [] u2 (QI (fun r3 u3 => ((¬ r3 = (0 : Int32) → ((¬ (u3.1 12 38) = (20 : Int32) → (vp_in (u3.1 12 38) 20 ∧ (vp_in (u3.1 12 38) 20 ∧ (vp_in (u3.1 12 38) 20 ∧ Q (some (.int ((u3.1 12 38) + 1))) (sI (sA (sA (sA u3 72 (u3.1 12 38).toNatClampNeg x1) 73 (u3.1 12 38).toNatClampNeg x2) 74 (u3.1 12 38).toNatClampNeg x3) 12 38 ((u3.1 12 38) + 1)))))) ∧ ((u3.1 12 38) = (20 : Int32) → Q (some (.int (-1000003 : Int32))) u3))) ∧ (r3 = (0 : Int32) → Q (some (.int (-1000001 : Int32))) u3))))))))))))) : Go g iX12_sick 0 [some (.ref (gd g 12)), some (.int x1), some (.int x2), some (.int x3)] [] u Q := by
  refine go_aload_n dX12_sick_0 rfl rfl ?_
  refine go_iconst (v := 0) dX12_sick_1 (by decide) ?_
  refine go_put (k := 0) dX12_sick_2 ob_12 (by decide) qf_X12_1 rfl rfl pf_I ?_
  refine go_iload_n dX12_sick_5 rfl rfl ?_
  refine go_cSi (As := [.int x1]) (st := []) (lc := [some (.int x1)]) dX12_sick_6 me_X12_isTown qm_X12_325 rfl (Nat.le_of_ble_eq_true rfl) rfl ⟨Nat.le_of_ble_eq_true rfl, Nat.le_of_ble_eq_true rfl⟩ rfl (Nat.le_of_ble_eq_true rfl) h (fun r1 u1 h => ?_)
  refine go_if_eq (tgt := 32) dX12_sick_9 (by decide) (fun hc => ?_) (fun hc => ?_)
  · replace h := h.1 hc
    refine go_ldc dX12_sick_32 qc_X12_142 ?_
    exact go_iret dX12_sick_34 rfl h
  · replace h := h.2 hc
    refine go_iload_n dX12_sick_12 rfl rfl ?_
    refine go_cSi (As := [.int x2]) (st := []) (lc := [some (.int x2)]) dX12_sick_13 me_X12_isDay qm_X12_258 rfl (Nat.le_of_ble_eq_true rfl) rfl ⟨Nat.le_of_ble_eq_true rfl, Nat.le_of_ble_eq_true rfl⟩ rfl (Nat.le_of_ble_eq_true rfl) h (fun r2 u2 h => ?_)
    refine go_if_eq (tgt := 32) dX12_sick_16 (by decide) (fun hc => ?_) (fun hc => ?_)
    · replace h := h.1 hc
      refine go_ldc dX12_sick_32 qc_X12_142 ?_
      exact go_iret dX12_sick_34 rfl h
    · replace h := h.2 hc
      refine go_iload_n dX12_sick_19 rfl rfl ?_
      refine go_i2l dX12_sick_20 ?_
      refine go_iload_n dX12_sick_21 rfl rfl ?_
      refine go_i2l dX12_sick_22 ?_
      refine go_ldc2 dX12_sick_23 ql_X12_149 ?_
      refine go_cSi (As := [.long (x3.toInt64), .long (x2.toInt64), .long 999]) (st := []) (lc := [some (.long (x3.toInt64)), none, some (.long (x2.toInt64)), none, some (.long 999), none]) dX12_sick_26 me_X12_in qm_X12_132 rfl (Nat.le_of_ble_eq_true rfl) rfl ⟨Nat.le_of_ble_eq_true rfl, Nat.le_of_ble_eq_true rfl⟩ rfl (Nat.le_of_ble_eq_true rfl) h (fun r3 u3 h => ?_)
      refine go_if_ne (tgt := 35) dX12_sick_29 (by decide) (fun hc => ?_) (fun hc => ?_)
      · replace h := h.1 hc
        refine go_aload_n dX12_sick_35 rfl rfl ?_
        refine go_get (k := 38) (v := .int (u3.1 12 38)) dX12_sick_36 ob_12 (by decide) qf_X12_330 rfl ?_
        refine go_bipush (v := 20) dX12_sick_39 (by decide) ?_
        refine go_icmp_ne (tgt := 47) dX12_sick_41 (by decide) (fun hc => ?_) (fun hc => ?_)
        · replace h := h.1 hc
          refine go_aload_n dX12_sick_47 rfl rfl ?_
          refine go_get (k := 39) (v := .ref (gd g 72)) dX12_sick_48 ob_12 (by decide) qf_X12_78 rfl ?_
          refine go_aload_n dX12_sick_51 rfl rfl ?_
          refine go_get (k := 38) (v := .int (u3.1 12 38)) dX12_sick_52 ob_12 (by decide) qf_X12_330 rfl ?_
          refine go_iload_n dX12_sick_55 rfl rfl ?_
          obtain ⟨hi, h⟩ := h
          refine go_ist (a := 72) (n := 20) dX12_sick_56 (by decide) (by decide) rfl hi ?_
          refine go_aload_n dX12_sick_57 rfl rfl ?_
          refine go_get (k := 40) (v := .ref (gd g 73)) dX12_sick_58 ob_12 (by decide) qf_X12_81 rfl ?_
          refine go_aload_n dX12_sick_61 rfl rfl ?_
          refine go_get (k := 38) (v := .int (u3.1 12 38)) dX12_sick_62 ob_12 (by decide) qf_X12_330 rfl ?_
          refine go_iload_n dX12_sick_65 rfl rfl ?_
          obtain ⟨hi, h⟩ := h
          refine go_ist (a := 73) (n := 20) dX12_sick_66 (by decide) (by decide) rfl hi ?_
          refine go_aload_n dX12_sick_67 rfl rfl ?_
          refine go_get (k := 41) (v := .ref (gd g 74)) dX12_sick_68 ob_12 (by decide) qf_X12_84 rfl ?_
          refine go_aload_n dX12_sick_71 rfl rfl ?_
          refine go_get (k := 38) (v := .int (u3.1 12 38)) dX12_sick_72 ob_12 (by decide) qf_X12_330 rfl ?_
          refine go_iload_n dX12_sick_75 rfl rfl ?_
          obtain ⟨hi, h⟩ := h
          refine go_ist (a := 74) (n := 20) dX12_sick_76 (by decide) (by decide) rfl hi ?_
          refine go_aload_n dX12_sick_77 rfl rfl ?_
          refine go_dup dX12_sick_78 rfl ?_
          refine go_get (k := 38) (v := .int (u3.1 12 38)) dX12_sick_79 ob_12 (by decide) qf_X12_330 rfl ?_
          refine go_iconst (v := 1) dX12_sick_82 (by decide) ?_
          refine go_iadd dX12_sick_83 ?_
          refine go_put (k := 38) dX12_sick_84 ob_12 (by decide) qf_X12_330 rfl rfl pf_I ?_
          refine go_aload_n dX12_sick_87 rfl rfl ?_
          refine go_get (k := 38) (v := .int ((u3.1 12 38) + 1)) dX12_sick_88 ob_12 (by decide) qf_X12_330 rfl ?_
          exact go_iret dX12_sick_91 rfl h
        · replace h := h.2 hc
          refine go_ldc dX12_sick_44 qc_X12_170 ?_
          exact go_iret dX12_sick_46 rfl h
      · replace h := h.2 hc
        refine go_ldc dX12_sick_32 qc_X12_142 ?_
        exact go_iret dX12_sick_34 rfl h
set_option maxRecDepth 100000 in
set_option maxHeartbeats 4000000 in
theorem B_X12_seal_0 {g : gp} {u : sg} {Q : Option Value → sg → Prop} (x1 : Int32) (x2 : Int32) (h : Go g iX12_isSheet 0 [some (.int x1)] [] (sI u 12 0 (0 : Int32)) (QI (fun r1 u1 => ((¬ r1 = (0 : Int32) → ((¬ (u1.1 12 42) = (16 : Int32) → Go g iX12_lookItems 0 [some (.ref (gd g 12)), some (.int x1), some (.int x2), some (.int 7)] [] u1 (QI (fun r2 u2 => (((0 : Int32) ≤ r2 → (vp_in ((64 * x1) + x2) 512 ∧ Go g iX12_in 0 [some (.long ((u2.2 54 ((64 * x1) + x2).toNatClampNeg).toInt64)), none, some (.long 0), none, some (.long 3), none] [] u2 (QI (fun r3 u3 => ((r3 = (0 : Int32) → Q (some (.int (-1000001 : Int32))) u3) ∧ (¬ r3 = (0 : Int32) → (vp_in (((64 * x1) + x2) + 1) 512 ∧ Go g iX12_isPerson 0 [some (.int (u3.2 54 (((64 * x1) + x2) + 1).toNatClampNeg))] [] u3 (QI (fun r4 u4 => ((r4 = (0 : Int32) → Q (some (.int (-1000001 : Int32))) u4) ∧ (¬ r4 = (0 : Int32) → (vp_in (((64 * x1) + x2) + 2) 512 ∧ Go g iX12_in 0 [some (.long ((u4.2 54 (((64 * x1) + x2) + 2).toNatClampNeg).toInt64)), none, some (.long 0), none, some (.long 99), none] [] u4 (QI (fun r5 u5 => ((r5 = (0 : Int32) → Q (some (.int (-1000001 : Int32))) u5) ∧ (¬ r5 = (0 : Int32) → (vp_in (((64 * x1) + x2) + 3) 512 ∧ Go g iX12_in 0 [some (.long ((u5.2 54 (((64 * x1) + x2) + 3).toNatClampNeg).toInt64)), none, some (.long 0), none, some (.long 9), none] [] u5 (QI (fun r6 u6 => ((r6 = (0 : Int32) → Q (some (.int (-1000001 : Int32))) u6) ∧ (¬ r6 = (0 : Int32) → (vp_in (((64 * x1) + x2) + 4) 512 ∧ Go g iX12_isTown 0 [some (.int (u6.2 54 (((64 * x1) + x2) + 4).toNatClampNeg))] [] u6 (QI (fun r7 u7 => ((r7 = (0 : Int32) → Q (some (.int (-1000001 : Int32))) u7) ∧ (¬ r7 = (0 : Int32) → (vp_in (((64 * x1) + x2) + 5) 512 ∧ Go g iX12_isDay 0 [some (.int (u7.2 54 (((64 * x1) + x2) + 5).toNatClampNeg))] [] u7 (QI (fun r8 u8 => ((r8 = (0 : Int32) → Q (some (.int (-1000001 : Int32))) u8) ∧ (¬ r8 = (0 : Int32) → (vp_in (((64 * x1) + x2) + 6) 512 ∧ (vp_in (((64 * x1) + x2) + 5) 512 ∧ Go g iX12_in 0 [some (.long ((u8.2 54 (((64 * x1) + x2) + 6).toNatClampNeg).toInt64)), none, some (.long ((u8.2 54 (((64 * x1) + x2) + 5).toNatClampNeg).toInt64)), none, some (.long 999), none] [] u8 (QI (fun r9 u9 => ((¬ r9 = (0 : Int32) → Go g iX12_seal 194 [some (.ref (gd g 12)), none, none, none, some (.int ((64 * x1) + x2)), some (.int 0)] [] (sI u9 12 1 (0 : Int32)) Q) ∧ (r9 = (0 : Int32) → Q (some (.int (-1000001 : Int32))) u9))))))))))))))))))))))))))))))))))))) ∧ (¬ (0 : Int32) ≤ r2 → Q (some (.int r2)) u2))))) ∧ ((u1.1 12 42) = (16 : Int32) → Q (some (.int (-1000003 : Int32))) u1))) ∧ (r1 = (0 : Int32) → Q (some (.int (-1000001 : Int32))) u1))))) : Go g iX12_seal 0 [some (.ref (gd g 12)), some (.int x1), some (.int x2), none, none, none] [] u Q := by
  refine go_aload_n dX12_seal_0 rfl rfl ?_
  refine go_iconst (v := 0) dX12_seal_1 (by decide) ?_
  refine go_put (k := 0) dX12_seal_2 ob_12 (by decide) qf_X12_1 rfl rfl pf_I ?_
  refine go_iload_n dX12_seal_5 rfl rfl ?_
  refine go_cSi (As := [.int x1]) (st := []) (lc := [some (.int x1)]) dX12_seal_6 me_X12_isSheet qm_X12_136 rfl (Nat.le_of_ble_eq_true rfl) rfl ⟨Nat.le_of_ble_eq_true rfl, Nat.le_of_ble_eq_true rfl⟩ rfl (Nat.le_of_ble_eq_true rfl) h (fun r1 u1 h => ?_)
  refine go_if_ne (tgt := 15) dX12_seal_9 (by decide) (fun hc => ?_) (fun hc => ?_)
  · replace h := h.1 hc
    refine go_aload_n dX12_seal_15 rfl rfl ?_
    refine go_get (k := 42) (v := .int (u1.1 12 42)) dX12_seal_16 ob_12 (by decide) qf_X12_333 rfl ?_
    refine go_bipush (v := 16) dX12_seal_19 (by decide) ?_
    refine go_icmp_ne (tgt := 27) dX12_seal_21 (by decide) (fun hc => ?_) (fun hc => ?_)
    · replace h := h.1 hc
      refine go_aload_n dX12_seal_27 rfl rfl ?_
      refine go_iload_n dX12_seal_28 rfl rfl ?_
      refine go_iload_n dX12_seal_29 rfl rfl ?_
      refine go_bipush (v := 7) dX12_seal_30 (by decide) ?_
      refine go_cVi (o := 12) (As := [.int x1, .int x2, .int 7]) (st := []) (lc := [some (.ref (gd g 12)), some (.int x1), some (.int x2), some (.int 7)]) dX12_seal_32 me_X12_lookItems rfl ob_12 qm_X12_290 rfl (Nat.le_of_ble_eq_true rfl) rfl ⟨Nat.le_of_ble_eq_true rfl, Nat.le_of_ble_eq_true rfl⟩ rfl (Nat.le_of_ble_eq_true rfl) h (fun r2 u2 h => ?_)
      refine go_istore_n (lm := [some (.ref (gd g 12)), some (.int x1), some (.int x2), some (.int r2), none, none]) dX12_seal_35 rfl (by decide) rfl rfl ?_
      refine go_iload_n dX12_seal_36 rfl rfl ?_
      refine go_if_ge (tgt := 42) dX12_seal_37 (by decide) (fun hc => ?_) (fun hc => ?_)
      · replace h := h.1 hc
        refine go_bipush (v := 64) dX12_seal_42 (by decide) ?_
        refine go_iload_n dX12_seal_44 rfl rfl ?_
        refine go_imul dX12_seal_45 ?_
        refine go_iload_n dX12_seal_46 rfl rfl ?_
        refine go_iadd dX12_seal_47 ?_
        refine go_istore (lm := [some (.ref (gd g 12)), some (.int x1), some (.int x2), some (.int r2), some (.int ((64 * x1) + x2)), none]) dX12_seal_48 (by decide) rfl rfl ?_
        refine go_aload_n dX12_seal_50 rfl rfl ?_
        refine go_get (k := 4) (v := .ref (gd g 54)) dX12_seal_51 ob_12 (by decide) qf_X12_24 rfl ?_
        refine go_iload dX12_seal_54 rfl ?_
        obtain ⟨hi, h⟩ := h
        refine go_ild (a := 54) (n := 512) dX12_seal_56 (by decide) (by decide) rfl hi ?_
        refine go_i2l dX12_seal_57 ?_
        refine go_lconst (v := 0) dX12_seal_58 (by decide) ?_
        refine go_ldc2 dX12_seal_59 ql_X12_336 ?_
        refine go_cSi (As := [.long ((u2.2 54 ((64 * x1) + x2).toNatClampNeg).toInt64), .long 0, .long 3]) (st := []) (lc := [some (.long ((u2.2 54 ((64 * x1) + x2).toNatClampNeg).toInt64)), none, some (.long 0), none, some (.long 3), none]) dX12_seal_62 me_X12_in qm_X12_132 rfl (Nat.le_of_ble_eq_true rfl) rfl ⟨Nat.le_of_ble_eq_true rfl, Nat.le_of_ble_eq_true rfl⟩ rfl (Nat.le_of_ble_eq_true rfl) h (fun r3 u3 h => ?_)
        refine go_if_eq (tgt := 183) dX12_seal_65 (by decide) (fun hc => ?_) (fun hc => ?_)
        · replace h := h.1 hc
          refine go_ldc dX12_seal_183 qc_X12_142 ?_
          exact go_iret dX12_seal_185 rfl h
        · replace h := h.2 hc
          refine go_aload_n dX12_seal_68 rfl rfl ?_
          refine go_get (k := 4) (v := .ref (gd g 54)) dX12_seal_69 ob_12 (by decide) qf_X12_24 rfl ?_
          refine go_iload dX12_seal_72 rfl ?_
          refine go_iconst (v := 1) dX12_seal_74 (by decide) ?_
          refine go_iadd dX12_seal_75 ?_
          obtain ⟨hi, h⟩ := h
          refine go_ild (a := 54) (n := 512) dX12_seal_76 (by decide) (by decide) rfl hi ?_
          refine go_cSi (As := [.int (u3.2 54 (((64 * x1) + x2) + 1).toNatClampNeg)]) (st := []) (lc := [some (.int (u3.2 54 (((64 * x1) + x2) + 1).toNatClampNeg))]) dX12_seal_77 me_X12_isPerson qm_X12_338 rfl (Nat.le_of_ble_eq_true rfl) rfl ⟨Nat.le_of_ble_eq_true rfl, Nat.le_of_ble_eq_true rfl⟩ rfl (Nat.le_of_ble_eq_true rfl) h (fun r4 u4 h => ?_)
          refine go_if_eq (tgt := 183) dX12_seal_80 (by decide) (fun hc => ?_) (fun hc => ?_)
          · replace h := h.1 hc
            refine go_ldc dX12_seal_183 qc_X12_142 ?_
            exact go_iret dX12_seal_185 rfl h
          · replace h := h.2 hc
            refine go_aload_n dX12_seal_83 rfl rfl ?_
            refine go_get (k := 4) (v := .ref (gd g 54)) dX12_seal_84 ob_12 (by decide) qf_X12_24 rfl ?_
            refine go_iload dX12_seal_87 rfl ?_
            refine go_iconst (v := 2) dX12_seal_89 (by decide) ?_
            refine go_iadd dX12_seal_90 ?_
            obtain ⟨hi, h⟩ := h
            refine go_ild (a := 54) (n := 512) dX12_seal_91 (by decide) (by decide) rfl hi ?_
            refine go_i2l dX12_seal_92 ?_
            refine go_lconst (v := 0) dX12_seal_93 (by decide) ?_
            refine go_ldc2 dX12_seal_94 ql_X12_295 ?_
            refine go_cSi (As := [.long ((u4.2 54 (((64 * x1) + x2) + 2).toNatClampNeg).toInt64), .long 0, .long 99]) (st := []) (lc := [some (.long ((u4.2 54 (((64 * x1) + x2) + 2).toNatClampNeg).toInt64)), none, some (.long 0), none, some (.long 99), none]) dX12_seal_97 me_X12_in qm_X12_132 rfl (Nat.le_of_ble_eq_true rfl) rfl ⟨Nat.le_of_ble_eq_true rfl, Nat.le_of_ble_eq_true rfl⟩ rfl (Nat.le_of_ble_eq_true rfl) h (fun r5 u5 h => ?_)
            refine go_if_eq (tgt := 183) dX12_seal_100 (by decide) (fun hc => ?_) (fun hc => ?_)
            · replace h := h.1 hc
              refine go_ldc dX12_seal_183 qc_X12_142 ?_
              exact go_iret dX12_seal_185 rfl h
            · replace h := h.2 hc
              refine go_aload_n dX12_seal_103 rfl rfl ?_
              refine go_get (k := 4) (v := .ref (gd g 54)) dX12_seal_104 ob_12 (by decide) qf_X12_24 rfl ?_
              refine go_iload dX12_seal_107 rfl ?_
              refine go_iconst (v := 3) dX12_seal_109 (by decide) ?_
              refine go_iadd dX12_seal_110 ?_
              obtain ⟨hi, h⟩ := h
              refine go_ild (a := 54) (n := 512) dX12_seal_111 (by decide) (by decide) rfl hi ?_
              refine go_i2l dX12_seal_112 ?_
              refine go_lconst (v := 0) dX12_seal_113 (by decide) ?_
              refine go_ldc2 dX12_seal_114 ql_X12_341 ?_
              refine go_cSi (As := [.long ((u5.2 54 (((64 * x1) + x2) + 3).toNatClampNeg).toInt64), .long 0, .long 9]) (st := []) (lc := [some (.long ((u5.2 54 (((64 * x1) + x2) + 3).toNatClampNeg).toInt64)), none, some (.long 0), none, some (.long 9), none]) dX12_seal_117 me_X12_in qm_X12_132 rfl (Nat.le_of_ble_eq_true rfl) rfl ⟨Nat.le_of_ble_eq_true rfl, Nat.le_of_ble_eq_true rfl⟩ rfl (Nat.le_of_ble_eq_true rfl) h (fun r6 u6 h => ?_)
              refine go_if_eq (tgt := 183) dX12_seal_120 (by decide) (fun hc => ?_) (fun hc => ?_)
              · replace h := h.1 hc
                refine go_ldc dX12_seal_183 qc_X12_142 ?_
                exact go_iret dX12_seal_185 rfl h
              · replace h := h.2 hc
                refine go_aload_n dX12_seal_123 rfl rfl ?_
                refine go_get (k := 4) (v := .ref (gd g 54)) dX12_seal_124 ob_12 (by decide) qf_X12_24 rfl ?_
                refine go_iload dX12_seal_127 rfl ?_
                refine go_iconst (v := 4) dX12_seal_129 (by decide) ?_
                refine go_iadd dX12_seal_130 ?_
                obtain ⟨hi, h⟩ := h
                refine go_ild (a := 54) (n := 512) dX12_seal_131 (by decide) (by decide) rfl hi ?_
                refine go_cSi (As := [.int (u6.2 54 (((64 * x1) + x2) + 4).toNatClampNeg)]) (st := []) (lc := [some (.int (u6.2 54 (((64 * x1) + x2) + 4).toNatClampNeg))]) dX12_seal_132 me_X12_isTown qm_X12_325 rfl (Nat.le_of_ble_eq_true rfl) rfl ⟨Nat.le_of_ble_eq_true rfl, Nat.le_of_ble_eq_true rfl⟩ rfl (Nat.le_of_ble_eq_true rfl) h (fun r7 u7 h => ?_)
                refine go_if_eq (tgt := 183) dX12_seal_135 (by decide) (fun hc => ?_) (fun hc => ?_)
                · replace h := h.1 hc
                  refine go_ldc dX12_seal_183 qc_X12_142 ?_
                  exact go_iret dX12_seal_185 rfl h
                · replace h := h.2 hc
                  refine go_aload_n dX12_seal_138 rfl rfl ?_
                  refine go_get (k := 4) (v := .ref (gd g 54)) dX12_seal_139 ob_12 (by decide) qf_X12_24 rfl ?_
                  refine go_iload dX12_seal_142 rfl ?_
                  refine go_iconst (v := 5) dX12_seal_144 (by decide) ?_
                  refine go_iadd dX12_seal_145 ?_
                  obtain ⟨hi, h⟩ := h
                  refine go_ild (a := 54) (n := 512) dX12_seal_146 (by decide) (by decide) rfl hi ?_
                  refine go_cSi (As := [.int (u7.2 54 (((64 * x1) + x2) + 5).toNatClampNeg)]) (st := []) (lc := [some (.int (u7.2 54 (((64 * x1) + x2) + 5).toNatClampNeg))]) dX12_seal_147 me_X12_isDay qm_X12_258 rfl (Nat.le_of_ble_eq_true rfl) rfl ⟨Nat.le_of_ble_eq_true rfl, Nat.le_of_ble_eq_true rfl⟩ rfl (Nat.le_of_ble_eq_true rfl) h (fun r8 u8 h => ?_)
                  refine go_if_eq (tgt := 183) dX12_seal_150 (by decide) (fun hc => ?_) (fun hc => ?_)
                  · replace h := h.1 hc
                    refine go_ldc dX12_seal_183 qc_X12_142 ?_
                    exact go_iret dX12_seal_185 rfl h
                  · replace h := h.2 hc
                    refine go_aload_n dX12_seal_153 rfl rfl ?_
                    refine go_get (k := 4) (v := .ref (gd g 54)) dX12_seal_154 ob_12 (by decide) qf_X12_24 rfl ?_
                    refine go_iload dX12_seal_157 rfl ?_
                    refine go_bipush (v := 6) dX12_seal_159 (by decide) ?_
                    refine go_iadd dX12_seal_161 ?_
                    obtain ⟨hi, h⟩ := h
                    refine go_ild (a := 54) (n := 512) dX12_seal_162 (by decide) (by decide) rfl hi ?_
                    refine go_i2l dX12_seal_163 ?_
                    refine go_aload_n dX12_seal_164 rfl rfl ?_
                    refine go_get (k := 4) (v := .ref (gd g 54)) dX12_seal_165 ob_12 (by decide) qf_X12_24 rfl ?_
                    refine go_iload dX12_seal_168 rfl ?_
                    refine go_iconst (v := 5) dX12_seal_170 (by decide) ?_
                    refine go_iadd dX12_seal_171 ?_
                    obtain ⟨hi, h⟩ := h
                    refine go_ild (a := 54) (n := 512) dX12_seal_172 (by decide) (by decide) rfl hi ?_
                    refine go_i2l dX12_seal_173 ?_
                    refine go_ldc2 dX12_seal_174 ql_X12_149 ?_
                    refine go_cSi (As := [.long ((u8.2 54 (((64 * x1) + x2) + 6).toNatClampNeg).toInt64), .long ((u8.2 54 (((64 * x1) + x2) + 5).toNatClampNeg).toInt64), .long 999]) (st := []) (lc := [some (.long ((u8.2 54 (((64 * x1) + x2) + 6).toNatClampNeg).toInt64)), none, some (.long ((u8.2 54 (((64 * x1) + x2) + 5).toNatClampNeg).toInt64)), none, some (.long 999), none]) dX12_seal_177 me_X12_in qm_X12_132 rfl (Nat.le_of_ble_eq_true rfl) rfl ⟨Nat.le_of_ble_eq_true rfl, Nat.le_of_ble_eq_true rfl⟩ rfl (Nat.le_of_ble_eq_true rfl) h (fun r9 u9 h => ?_)
                    refine go_if_ne (tgt := 186) dX12_seal_180 (by decide) (fun hc => ?_) (fun hc => ?_)
                    · replace h := h.1 hc
                      refine go_aload_n dX12_seal_186 rfl rfl ?_
                      refine go_iconst (v := 0) dX12_seal_187 (by decide) ?_
                      refine go_put (k := 1) dX12_seal_188 ob_12 (by decide) qf_X12_7 rfl rfl pf_I ?_
                      refine go_iconst (v := 0) dX12_seal_191 (by decide) ?_
                      refine go_istore (lm := [some (.ref (gd g 12)), some (.int x1), some (.int x2), some (.int r2), some (.int ((64 * x1) + x2)), some (.int 0)]) dX12_seal_192 (by decide) rfl rfl ?_
                      refine go_mask [true, false, false, false, true, true] rfl ?_
                      exact h
                    · replace h := h.2 hc
                      refine go_ldc dX12_seal_183 qc_X12_142 ?_
                      exact go_iret dX12_seal_185 rfl h
      · replace h := h.2 hc
        refine go_iload_n dX12_seal_40 rfl rfl ?_
        exact go_iret dX12_seal_41 rfl h
    · replace h := h.2 hc
      refine go_ldc dX12_seal_24 qc_X12_170 ?_
      exact go_iret dX12_seal_26 rfl h
  · replace h := h.2 hc
    refine go_ldc dX12_seal_12 qc_X12_142 ?_
    exact go_iret dX12_seal_14 rfl h
set_option maxRecDepth 100000 in
set_option maxHeartbeats 4000000 in
theorem B_X12_seal_194 {g : gp} {u : sg} {Q : Option Value → sg → Prop} (x4 : Int32) (x5 : Int32) (h : (((7 : Int32) ≤ x5 → Q (some (.int (((u.1 12 42) + 1) - 1))) (sI u 12 42 ((u.1 12 42) + 1))) ∧ (¬ (7 : Int32) ≤ x5 → (vp_in (x4 + x5) 512 ∧ (vp_in ((7 * (u.1 12 42)) + x5) 112 ∧ Go g iX12_seal 194 [some (.ref (gd g 12)), none, none, none, some (.int x4), some (.int (x5 + 1))] [] (sA u 75 ((7 * (u.1 12 42)) + x5).toNatClampNeg (u.2 54 (x4 + x5).toNatClampNeg)) Q))))) : Go g iX12_seal 194 [some (.ref (gd g 12)), none, none, none, some (.int x4), some (.int x5)] [] u Q := by
  refine go_iload dX12_seal_194 rfl ?_
  refine go_bipush (v := 7) dX12_seal_196 (by decide) ?_
  refine go_icmp_ge (tgt := 232) dX12_seal_198 (by decide) (fun hc => ?_) (fun hc => ?_)
  · replace h := h.1 hc
    refine go_aload_n dX12_seal_232 rfl rfl ?_
    refine go_dup dX12_seal_233 rfl ?_
    refine go_get (k := 42) (v := .int (u.1 12 42)) dX12_seal_234 ob_12 (by decide) qf_X12_333 rfl ?_
    refine go_iconst (v := 1) dX12_seal_237 (by decide) ?_
    refine go_iadd dX12_seal_238 ?_
    refine go_put (k := 42) dX12_seal_239 ob_12 (by decide) qf_X12_333 rfl rfl pf_I ?_
    refine go_aload_n dX12_seal_242 rfl rfl ?_
    refine go_get (k := 42) (v := .int ((u.1 12 42) + 1)) dX12_seal_243 ob_12 (by decide) qf_X12_333 rfl ?_
    refine go_iconst (v := 1) dX12_seal_246 (by decide) ?_
    refine go_isub dX12_seal_247 ?_
    exact go_iret dX12_seal_248 rfl h
  · replace h := h.2 hc
    refine go_aload_n dX12_seal_201 rfl rfl ?_
    refine go_get (k := 43) (v := .ref (gd g 75)) dX12_seal_202 ob_12 (by decide) qf_X12_87 rfl ?_
    refine go_bipush (v := 7) dX12_seal_205 (by decide) ?_
    refine go_aload_n dX12_seal_207 rfl rfl ?_
    refine go_get (k := 42) (v := .int (u.1 12 42)) dX12_seal_208 ob_12 (by decide) qf_X12_333 rfl ?_
    refine go_imul dX12_seal_211 ?_
    refine go_iload dX12_seal_212 rfl ?_
    refine go_iadd dX12_seal_214 ?_
    refine go_aload_n dX12_seal_215 rfl rfl ?_
    refine go_get (k := 4) (v := .ref (gd g 54)) dX12_seal_216 ob_12 (by decide) qf_X12_24 rfl ?_
    refine go_iload dX12_seal_219 rfl ?_
    refine go_iload dX12_seal_221 rfl ?_
    refine go_iadd dX12_seal_223 ?_
    obtain ⟨hi, h⟩ := h
    refine go_ild (a := 54) (n := 512) dX12_seal_224 (by decide) (by decide) rfl hi ?_
    obtain ⟨hi, h⟩ := h
    refine go_ist (a := 75) (n := 112) dX12_seal_225 (by decide) (by decide) rfl hi ?_
    refine go_iinc (v := x5 + 1) (lm := [some (.ref (gd g 12)), none, none, none, some (.int x4), some (.int (x5 + 1))]) dX12_seal_226 rfl rfl (by decide) rfl rfl ?_
    refine go_goto (tgt := 194) dX12_seal_229 (by decide) ?_
    exact h
