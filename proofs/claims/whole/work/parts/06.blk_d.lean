theorem dX6_clear_0 : decode cX6_clear 0 = .ok (.aload_n 0, 1) := by decide +kernel
theorem dX6_clear_1 : decode cX6_clear 1 = .ok (.iconst 0, 1) := by decide +kernel
theorem dX6_clear_2 : decode cX6_clear 2 = .ok (.putfield 25, 3) := by decide +kernel
theorem dX6_clear_5 : decode cX6_clear 5 = .ok (.return_, 1) := by decide +kernel
theorem dX6_comes_0 : decode cX6_comes 0 = .ok (.aload_n 0, 1) := by decide +kernel
theorem dX6_comes_1 : decode cX6_comes 1 = .ok (.getfield 25, 3) := by decide +kernel
theorem dX6_comes_4 : decode cX6_comes 4 = .ok (.bipush 20, 2) := by decide +kernel
theorem dX6_comes_6 : decode cX6_comes 6 = .ok (.if_icmp .lt 4, 3) := by decide +kernel
theorem dX6_comes_9 : decode cX6_comes 9 = .ok (.return_, 1) := by decide +kernel
theorem dX6_comes_10 : decode cX6_comes 10 = .ok (.aload_n 0, 1) := by decide +kernel
theorem dX6_comes_11 : decode cX6_comes 11 = .ok (.getfield 25, 3) := by decide +kernel
theorem dX6_comes_14 : decode cX6_comes 14 = .ok (.istore_n 3, 1) := by decide +kernel
theorem dX6_comes_15 : decode cX6_comes 15 = .ok (.iload_n 3, 1) := by decide +kernel
theorem dX6_comes_16 : decode cX6_comes 16 = .ok (.ifCond .le 49, 3) := by decide +kernel
theorem dX6_comes_19 : decode cX6_comes 19 = .ok (.aload_n 0, 1) := by decide +kernel
theorem dX6_comes_20 : decode cX6_comes 20 = .ok (.getfield 9, 3) := by decide +kernel
theorem dX6_comes_23 : decode cX6_comes 23 = .ok (.iload_n 3, 1) := by decide +kernel
theorem dX6_comes_24 : decode cX6_comes 24 = .ok (.iconst 1, 1) := by decide +kernel
theorem dX6_comes_25 : decode cX6_comes 25 = .ok (.isub, 1) := by decide +kernel
theorem dX6_comes_26 : decode cX6_comes 26 = .ok (.iaload, 1) := by decide +kernel
theorem dX6_comes_27 : decode cX6_comes 27 = .ok (.iload_n 2, 1) := by decide +kernel
theorem dX6_comes_28 : decode cX6_comes 28 = .ok (.if_icmp .le 37, 3) := by decide +kernel
theorem dX6_comes_31 : decode cX6_comes 31 = .ok (.aload_n 0, 1) := by decide +kernel
theorem dX6_comes_32 : decode cX6_comes 32 = .ok (.getfield 9, 3) := by decide +kernel
theorem dX6_comes_35 : decode cX6_comes 35 = .ok (.iload_n 3, 1) := by decide +kernel
theorem dX6_comes_36 : decode cX6_comes 36 = .ok (.aload_n 0, 1) := by decide +kernel
theorem dX6_comes_37 : decode cX6_comes 37 = .ok (.getfield 9, 3) := by decide +kernel
theorem dX6_comes_40 : decode cX6_comes 40 = .ok (.iload_n 3, 1) := by decide +kernel
theorem dX6_comes_41 : decode cX6_comes 41 = .ok (.iconst 1, 1) := by decide +kernel
theorem dX6_comes_42 : decode cX6_comes 42 = .ok (.isub, 1) := by decide +kernel
theorem dX6_comes_43 : decode cX6_comes 43 = .ok (.iaload, 1) := by decide +kernel
theorem dX6_comes_44 : decode cX6_comes 44 = .ok (.iastore, 1) := by decide +kernel
theorem dX6_comes_45 : decode cX6_comes 45 = .ok (.aload_n 0, 1) := by decide +kernel
theorem dX6_comes_46 : decode cX6_comes 46 = .ok (.getfield 13, 3) := by decide +kernel
theorem dX6_comes_49 : decode cX6_comes 49 = .ok (.iload_n 3, 1) := by decide +kernel
theorem dX6_comes_50 : decode cX6_comes 50 = .ok (.aload_n 0, 1) := by decide +kernel
theorem dX6_comes_51 : decode cX6_comes 51 = .ok (.getfield 13, 3) := by decide +kernel
theorem dX6_comes_54 : decode cX6_comes 54 = .ok (.iload_n 3, 1) := by decide +kernel
theorem dX6_comes_55 : decode cX6_comes 55 = .ok (.iconst 1, 1) := by decide +kernel
theorem dX6_comes_56 : decode cX6_comes 56 = .ok (.isub, 1) := by decide +kernel
theorem dX6_comes_57 : decode cX6_comes 57 = .ok (.iaload, 1) := by decide +kernel
theorem dX6_comes_58 : decode cX6_comes 58 = .ok (.iastore, 1) := by decide +kernel
theorem dX6_comes_59 : decode cX6_comes 59 = .ok (.iinc 3 (-1), 3) := by decide +kernel
theorem dX6_comes_62 : decode cX6_comes 62 = .ok (.goto (-47), 3) := by decide +kernel
theorem dX6_comes_65 : decode cX6_comes 65 = .ok (.aload_n 0, 1) := by decide +kernel
theorem dX6_comes_66 : decode cX6_comes 66 = .ok (.getfield 9, 3) := by decide +kernel
theorem dX6_comes_69 : decode cX6_comes 69 = .ok (.iload_n 3, 1) := by decide +kernel
theorem dX6_comes_70 : decode cX6_comes 70 = .ok (.iload_n 2, 1) := by decide +kernel
theorem dX6_comes_71 : decode cX6_comes 71 = .ok (.iastore, 1) := by decide +kernel
theorem dX6_comes_72 : decode cX6_comes 72 = .ok (.aload_n 0, 1) := by decide +kernel
theorem dX6_comes_73 : decode cX6_comes 73 = .ok (.getfield 13, 3) := by decide +kernel
theorem dX6_comes_76 : decode cX6_comes 76 = .ok (.iload_n 3, 1) := by decide +kernel
theorem dX6_comes_77 : decode cX6_comes 77 = .ok (.iload_n 1, 1) := by decide +kernel
theorem dX6_comes_78 : decode cX6_comes 78 = .ok (.iastore, 1) := by decide +kernel
theorem dX6_comes_79 : decode cX6_comes 79 = .ok (.aload_n 0, 1) := by decide +kernel
theorem dX6_comes_80 : decode cX6_comes 80 = .ok (.dup, 1) := by decide +kernel
theorem dX6_comes_81 : decode cX6_comes 81 = .ok (.getfield 25, 3) := by decide +kernel
theorem dX6_comes_84 : decode cX6_comes 84 = .ok (.iconst 1, 1) := by decide +kernel
theorem dX6_comes_85 : decode cX6_comes 85 = .ok (.iadd, 1) := by decide +kernel
theorem dX6_comes_86 : decode cX6_comes 86 = .ok (.putfield 25, 3) := by decide +kernel
theorem dX6_comes_89 : decode cX6_comes 89 = .ok (.return_, 1) := by decide +kernel
theorem dX6_shareOut_0 : decode cX6_shareOut 0 = .ok (.iconst 0, 1) := by decide +kernel
theorem dX6_shareOut_1 : decode cX6_shareOut 1 = .ok (.istore_n 3, 1) := by decide +kernel
theorem dX6_shareOut_2 : decode cX6_shareOut 2 = .ok (.iload_n 3, 1) := by decide +kernel
theorem dX6_shareOut_3 : decode cX6_shareOut 3 = .ok (.iconst 4, 1) := by decide +kernel
theorem dX6_shareOut_4 : decode cX6_shareOut 4 = .ok (.if_icmp .ge 44, 3) := by decide +kernel
theorem dX6_shareOut_7 : decode cX6_shareOut 7 = .ok (.iconst 0, 1) := by decide +kernel
theorem dX6_shareOut_8 : decode cX6_shareOut 8 = .ok (.istore 4, 2) := by decide +kernel
theorem dX6_shareOut_10 : decode cX6_shareOut 10 = .ok (.iload 4, 2) := by decide +kernel
theorem dX6_shareOut_12 : decode cX6_shareOut 12 = .ok (.iload_n 2, 1) := by decide +kernel
theorem dX6_shareOut_13 : decode cX6_shareOut 13 = .ok (.if_icmp .gt 29, 3) := by decide +kernel
theorem dX6_shareOut_16 : decode cX6_shareOut 16 = .ok (.aload_n 0, 1) := by decide +kernel
theorem dX6_shareOut_17 : decode cX6_shareOut 17 = .ok (.getfield 19, 3) := by decide +kernel
theorem dX6_shareOut_20 : decode cX6_shareOut 20 = .ok (.iload_n 3, 1) := by decide +kernel
theorem dX6_shareOut_21 : decode cX6_shareOut 21 = .ok (.bipush 9, 2) := by decide +kernel
theorem dX6_shareOut_23 : decode cX6_shareOut 23 = .ok (.imul, 1) := by decide +kernel
theorem dX6_shareOut_24 : decode cX6_shareOut 24 = .ok (.iload 4, 2) := by decide +kernel
theorem dX6_shareOut_26 : decode cX6_shareOut 26 = .ok (.iadd, 1) := by decide +kernel
theorem dX6_shareOut_27 : decode cX6_shareOut 27 = .ok (.aload_n 0, 1) := by decide +kernel
theorem dX6_shareOut_28 : decode cX6_shareOut 28 = .ok (.iload_n 3, 1) := by decide +kernel
theorem dX6_shareOut_29 : decode cX6_shareOut 29 = .ok (.iload 4, 2) := by decide +kernel
theorem dX6_shareOut_31 : decode cX6_shareOut 31 = .ok (.iload_n 1, 1) := by decide +kernel
theorem dX6_shareOut_32 : decode cX6_shareOut 32 = .ok (.invokevirtual 29, 3) := by decide +kernel
theorem dX6_shareOut_35 : decode cX6_shareOut 35 = .ok (.iastore, 1) := by decide +kernel
theorem dX6_shareOut_36 : decode cX6_shareOut 36 = .ok (.iinc 4 1, 3) := by decide +kernel
theorem dX6_shareOut_39 : decode cX6_shareOut 39 = .ok (.goto (-29), 3) := by decide +kernel
theorem dX6_shareOut_42 : decode cX6_shareOut 42 = .ok (.iinc 3 1, 3) := by decide +kernel
theorem dX6_shareOut_45 : decode cX6_shareOut 45 = .ok (.goto (-43), 3) := by decide +kernel
theorem dX6_shareOut_48 : decode cX6_shareOut 48 = .ok (.aload_n 0, 1) := by decide +kernel
theorem dX6_shareOut_49 : decode cX6_shareOut 49 = .ok (.iconst (-1), 1) := by decide +kernel
theorem dX6_shareOut_50 : decode cX6_shareOut 50 = .ok (.putfield 33, 3) := by decide +kernel
theorem dX6_shareOut_53 : decode cX6_shareOut 53 = .ok (.iload_n 2, 1) := by decide +kernel
theorem dX6_shareOut_54 : decode cX6_shareOut 54 = .ok (.istore_n 3, 1) := by decide +kernel
theorem dX6_shareOut_55 : decode cX6_shareOut 55 = .ok (.iload_n 3, 1) := by decide +kernel
theorem dX6_shareOut_56 : decode cX6_shareOut 56 = .ok (.ifCond .lt 62, 3) := by decide +kernel
theorem dX6_shareOut_59 : decode cX6_shareOut 59 = .ok (.iload_n 2, 1) := by decide +kernel
theorem dX6_shareOut_60 : decode cX6_shareOut 60 = .ok (.iload_n 3, 1) := by decide +kernel
theorem dX6_shareOut_61 : decode cX6_shareOut 61 = .ok (.isub, 1) := by decide +kernel
theorem dX6_shareOut_62 : decode cX6_shareOut 62 = .ok (.istore 4, 2) := by decide +kernel
theorem dX6_shareOut_64 : decode cX6_shareOut 64 = .ok (.iload 4, 2) := by decide +kernel
theorem dX6_shareOut_66 : decode cX6_shareOut 66 = .ok (.ifCond .lt 46, 3) := by decide +kernel
theorem dX6_shareOut_69 : decode cX6_shareOut 69 = .ok (.iload_n 2, 1) := by decide +kernel
theorem dX6_shareOut_70 : decode cX6_shareOut 70 = .ok (.iload_n 3, 1) := by decide +kernel
theorem dX6_shareOut_71 : decode cX6_shareOut 71 = .ok (.isub, 1) := by decide +kernel
theorem dX6_shareOut_72 : decode cX6_shareOut 72 = .ok (.iload 4, 2) := by decide +kernel
theorem dX6_shareOut_74 : decode cX6_shareOut 74 = .ok (.isub, 1) := by decide +kernel
theorem dX6_shareOut_75 : decode cX6_shareOut 75 = .ok (.istore 5, 2) := by decide +kernel
theorem dX6_shareOut_77 : decode cX6_shareOut 77 = .ok (.iload 5, 2) := by decide +kernel
theorem dX6_shareOut_79 : decode cX6_shareOut 79 = .ok (.ifCond .lt 27, 3) := by decide +kernel
theorem dX6_shareOut_82 : decode cX6_shareOut 82 = .ok (.aload_n 0, 1) := by decide +kernel
theorem dX6_shareOut_83 : decode cX6_shareOut 83 = .ok (.iload_n 3, 1) := by decide +kernel
theorem dX6_shareOut_84 : decode cX6_shareOut 84 = .ok (.iload 4, 2) := by decide +kernel
theorem dX6_shareOut_86 : decode cX6_shareOut 86 = .ok (.iload 5, 2) := by decide +kernel
theorem dX6_shareOut_88 : decode cX6_shareOut 88 = .ok (.iload_n 2, 1) := by decide +kernel
theorem dX6_shareOut_89 : decode cX6_shareOut 89 = .ok (.iload_n 3, 1) := by decide +kernel
theorem dX6_shareOut_90 : decode cX6_shareOut 90 = .ok (.isub, 1) := by decide +kernel
theorem dX6_shareOut_91 : decode cX6_shareOut 91 = .ok (.iload 4, 2) := by decide +kernel
theorem dX6_shareOut_93 : decode cX6_shareOut 93 = .ok (.isub, 1) := by decide +kernel
theorem dX6_shareOut_94 : decode cX6_shareOut 94 = .ok (.iload 5, 2) := by decide +kernel
theorem dX6_shareOut_96 : decode cX6_shareOut 96 = .ok (.isub, 1) := by decide +kernel
theorem dX6_shareOut_97 : decode cX6_shareOut 97 = .ok (.invokevirtual 36, 3) := by decide +kernel
theorem dX6_shareOut_100 : decode cX6_shareOut 100 = .ok (.iinc 5 (-1), 3) := by decide +kernel
theorem dX6_shareOut_103 : decode cX6_shareOut 103 = .ok (.goto (-26), 3) := by decide +kernel
theorem dX6_shareOut_106 : decode cX6_shareOut 106 = .ok (.iinc 4 (-1), 3) := by decide +kernel
theorem dX6_shareOut_109 : decode cX6_shareOut 109 = .ok (.goto (-45), 3) := by decide +kernel
theorem dX6_shareOut_112 : decode cX6_shareOut 112 = .ok (.iinc 3 (-1), 3) := by decide +kernel
theorem dX6_shareOut_115 : decode cX6_shareOut 115 = .ok (.goto (-60), 3) := by decide +kernel
theorem dX6_shareOut_118 : decode cX6_shareOut 118 = .ok (.aload_n 0, 1) := by decide +kernel
theorem dX6_shareOut_119 : decode cX6_shareOut 119 = .ok (.getfield 33, 3) := by decide +kernel
theorem dX6_shareOut_122 : decode cX6_shareOut 122 = .ok (.iconst (-1), 1) := by decide +kernel
theorem dX6_shareOut_123 : decode cX6_shareOut 123 = .ok (.if_icmp .eq 7, 3) := by decide +kernel
theorem dX6_shareOut_126 : decode cX6_shareOut 126 = .ok (.iconst 1, 1) := by decide +kernel
theorem dX6_shareOut_127 : decode cX6_shareOut 127 = .ok (.goto 4, 3) := by decide +kernel
theorem dX6_shareOut_130 : decode cX6_shareOut 130 = .ok (.iconst 0, 1) := by decide +kernel
theorem dX6_shareOut_131 : decode cX6_shareOut 131 = .ok (.ireturn, 1) := by decide +kernel
theorem dX6_tryWay_0 : decode cX6_tryWay 0 = .ok (.aload_n 0, 1) := by decide +kernel
theorem dX6_tryWay_1 : decode cX6_tryWay 1 = .ok (.getfield 19, 3) := by decide +kernel
theorem dX6_tryWay_4 : decode cX6_tryWay 4 = .ok (.iload_n 1, 1) := by decide +kernel
theorem dX6_tryWay_5 : decode cX6_tryWay 5 = .ok (.iaload, 1) := by decide +kernel
theorem dX6_tryWay_6 : decode cX6_tryWay 6 = .ok (.istore 5, 2) := by decide +kernel
theorem dX6_tryWay_8 : decode cX6_tryWay 8 = .ok (.aload_n 0, 1) := by decide +kernel
theorem dX6_tryWay_9 : decode cX6_tryWay 9 = .ok (.getfield 19, 3) := by decide +kernel
theorem dX6_tryWay_12 : decode cX6_tryWay 12 = .ok (.bipush 9, 2) := by decide +kernel
theorem dX6_tryWay_14 : decode cX6_tryWay 14 = .ok (.iload_n 2, 1) := by decide +kernel
theorem dX6_tryWay_15 : decode cX6_tryWay 15 = .ok (.iadd, 1) := by decide +kernel
theorem dX6_tryWay_16 : decode cX6_tryWay 16 = .ok (.iaload, 1) := by decide +kernel
theorem dX6_tryWay_17 : decode cX6_tryWay 17 = .ok (.istore 6, 2) := by decide +kernel
theorem dX6_tryWay_19 : decode cX6_tryWay 19 = .ok (.aload_n 0, 1) := by decide +kernel
theorem dX6_tryWay_20 : decode cX6_tryWay 20 = .ok (.getfield 19, 3) := by decide +kernel
theorem dX6_tryWay_23 : decode cX6_tryWay 23 = .ok (.bipush 18, 2) := by decide +kernel
theorem dX6_tryWay_25 : decode cX6_tryWay 25 = .ok (.iload_n 3, 1) := by decide +kernel
theorem dX6_tryWay_26 : decode cX6_tryWay 26 = .ok (.iadd, 1) := by decide +kernel
theorem dX6_tryWay_27 : decode cX6_tryWay 27 = .ok (.iaload, 1) := by decide +kernel
theorem dX6_tryWay_28 : decode cX6_tryWay 28 = .ok (.istore 7, 2) := by decide +kernel
theorem dX6_tryWay_30 : decode cX6_tryWay 30 = .ok (.aload_n 0, 1) := by decide +kernel
theorem dX6_tryWay_31 : decode cX6_tryWay 31 = .ok (.getfield 19, 3) := by decide +kernel
theorem dX6_tryWay_34 : decode cX6_tryWay 34 = .ok (.bipush 27, 2) := by decide +kernel
theorem dX6_tryWay_36 : decode cX6_tryWay 36 = .ok (.iload 4, 2) := by decide +kernel
theorem dX6_tryWay_38 : decode cX6_tryWay 38 = .ok (.iadd, 1) := by decide +kernel
theorem dX6_tryWay_39 : decode cX6_tryWay 39 = .ok (.iaload, 1) := by decide +kernel
theorem dX6_tryWay_40 : decode cX6_tryWay 40 = .ok (.istore 8, 2) := by decide +kernel
theorem dX6_tryWay_42 : decode cX6_tryWay 42 = .ok (.iload 5, 2) := by decide +kernel
theorem dX6_tryWay_44 : decode cX6_tryWay 44 = .ok (.iconst (-1), 1) := by decide +kernel
theorem dX6_tryWay_45 : decode cX6_tryWay 45 = .ok (.if_icmp .eq 21, 3) := by decide +kernel
theorem dX6_tryWay_48 : decode cX6_tryWay 48 = .ok (.iload 6, 2) := by decide +kernel
theorem dX6_tryWay_50 : decode cX6_tryWay 50 = .ok (.iconst (-1), 1) := by decide +kernel
theorem dX6_tryWay_51 : decode cX6_tryWay 51 = .ok (.if_icmp .eq 15, 3) := by decide +kernel
theorem dX6_tryWay_54 : decode cX6_tryWay 54 = .ok (.iload 7, 2) := by decide +kernel
theorem dX6_tryWay_56 : decode cX6_tryWay 56 = .ok (.iconst (-1), 1) := by decide +kernel
theorem dX6_tryWay_57 : decode cX6_tryWay 57 = .ok (.if_icmp .eq 9, 3) := by decide +kernel
theorem dX6_tryWay_60 : decode cX6_tryWay 60 = .ok (.iload 8, 2) := by decide +kernel
theorem dX6_tryWay_62 : decode cX6_tryWay 62 = .ok (.iconst (-1), 1) := by decide +kernel
theorem dX6_tryWay_63 : decode cX6_tryWay 63 = .ok (.if_icmp .ne 4, 3) := by decide +kernel
theorem dX6_tryWay_66 : decode cX6_tryWay 66 = .ok (.return_, 1) := by decide +kernel
theorem dX6_tryWay_67 : decode cX6_tryWay 67 = .ok (.iload 5, 2) := by decide +kernel
theorem dX6_tryWay_69 : decode cX6_tryWay 69 = .ok (.iload 6, 2) := by decide +kernel
theorem dX6_tryWay_71 : decode cX6_tryWay 71 = .ok (.iadd, 1) := by decide +kernel
theorem dX6_tryWay_72 : decode cX6_tryWay 72 = .ok (.iload 7, 2) := by decide +kernel
theorem dX6_tryWay_74 : decode cX6_tryWay 74 = .ok (.iadd, 1) := by decide +kernel
theorem dX6_tryWay_75 : decode cX6_tryWay 75 = .ok (.iload 8, 2) := by decide +kernel
theorem dX6_tryWay_77 : decode cX6_tryWay 77 = .ok (.iadd, 1) := by decide +kernel
theorem dX6_tryWay_78 : decode cX6_tryWay 78 = .ok (.istore 9, 2) := by decide +kernel
theorem dX6_tryWay_80 : decode cX6_tryWay 80 = .ok (.aload_n 0, 1) := by decide +kernel
theorem dX6_tryWay_81 : decode cX6_tryWay 81 = .ok (.getfield 33, 3) := by decide +kernel
theorem dX6_tryWay_84 : decode cX6_tryWay 84 = .ok (.iconst (-1), 1) := by decide +kernel
theorem dX6_tryWay_85 : decode cX6_tryWay 85 = .ok (.if_icmp .eq 12, 3) := by decide +kernel
theorem dX6_tryWay_88 : decode cX6_tryWay 88 = .ok (.iload 9, 2) := by decide +kernel
theorem dX6_tryWay_90 : decode cX6_tryWay 90 = .ok (.aload_n 0, 1) := by decide +kernel
theorem dX6_tryWay_91 : decode cX6_tryWay 91 = .ok (.getfield 33, 3) := by decide +kernel
theorem dX6_tryWay_94 : decode cX6_tryWay 94 = .ok (.if_icmp .ge 38, 3) := by decide +kernel
theorem dX6_tryWay_97 : decode cX6_tryWay 97 = .ok (.aload_n 0, 1) := by decide +kernel
theorem dX6_tryWay_98 : decode cX6_tryWay 98 = .ok (.iload 9, 2) := by decide +kernel
theorem dX6_tryWay_100 : decode cX6_tryWay 100 = .ok (.putfield 33, 3) := by decide +kernel
theorem dX6_tryWay_103 : decode cX6_tryWay 103 = .ok (.aload_n 0, 1) := by decide +kernel
theorem dX6_tryWay_104 : decode cX6_tryWay 104 = .ok (.getfield 22, 3) := by decide +kernel
theorem dX6_tryWay_107 : decode cX6_tryWay 107 = .ok (.iconst 0, 1) := by decide +kernel
theorem dX6_tryWay_108 : decode cX6_tryWay 108 = .ok (.iload_n 1, 1) := by decide +kernel
theorem dX6_tryWay_109 : decode cX6_tryWay 109 = .ok (.iastore, 1) := by decide +kernel
theorem dX6_tryWay_110 : decode cX6_tryWay 110 = .ok (.aload_n 0, 1) := by decide +kernel
theorem dX6_tryWay_111 : decode cX6_tryWay 111 = .ok (.getfield 22, 3) := by decide +kernel
theorem dX6_tryWay_114 : decode cX6_tryWay 114 = .ok (.iconst 1, 1) := by decide +kernel
theorem dX6_tryWay_115 : decode cX6_tryWay 115 = .ok (.iload_n 2, 1) := by decide +kernel
theorem dX6_tryWay_116 : decode cX6_tryWay 116 = .ok (.iastore, 1) := by decide +kernel
theorem dX6_tryWay_117 : decode cX6_tryWay 117 = .ok (.aload_n 0, 1) := by decide +kernel
theorem dX6_tryWay_118 : decode cX6_tryWay 118 = .ok (.getfield 22, 3) := by decide +kernel
theorem dX6_tryWay_121 : decode cX6_tryWay 121 = .ok (.iconst 2, 1) := by decide +kernel
theorem dX6_tryWay_122 : decode cX6_tryWay 122 = .ok (.iload_n 3, 1) := by decide +kernel
theorem dX6_tryWay_123 : decode cX6_tryWay 123 = .ok (.iastore, 1) := by decide +kernel
theorem dX6_tryWay_124 : decode cX6_tryWay 124 = .ok (.aload_n 0, 1) := by decide +kernel
theorem dX6_tryWay_125 : decode cX6_tryWay 125 = .ok (.getfield 22, 3) := by decide +kernel
theorem dX6_tryWay_128 : decode cX6_tryWay 128 = .ok (.iconst 3, 1) := by decide +kernel
theorem dX6_tryWay_129 : decode cX6_tryWay 129 = .ok (.iload 4, 2) := by decide +kernel
theorem dX6_tryWay_131 : decode cX6_tryWay 131 = .ok (.iastore, 1) := by decide +kernel
theorem dX6_tryWay_132 : decode cX6_tryWay 132 = .ok (.return_, 1) := by decide +kernel
theorem dX6_waitedAt_0 : decode cX6_waitedAt 0 = .ok (.iconst 0, 1) := by decide +kernel
theorem dX6_waitedAt_1 : decode cX6_waitedAt 1 = .ok (.istore 4, 2) := by decide +kernel
theorem dX6_waitedAt_3 : decode cX6_waitedAt 3 = .ok (.iload 4, 2) := by decide +kernel
theorem dX6_waitedAt_5 : decode cX6_waitedAt 5 = .ok (.iload_n 2, 1) := by decide +kernel
theorem dX6_waitedAt_6 : decode cX6_waitedAt 6 = .ok (.if_icmp .ge 17, 3) := by decide +kernel
theorem dX6_waitedAt_9 : decode cX6_waitedAt 9 = .ok (.aload_n 0, 1) := by decide +kernel
theorem dX6_waitedAt_10 : decode cX6_waitedAt 10 = .ok (.getfield 16, 3) := by decide +kernel
theorem dX6_waitedAt_13 : decode cX6_waitedAt 13 = .ok (.iload 4, 2) := by decide +kernel
theorem dX6_waitedAt_15 : decode cX6_waitedAt 15 = .ok (.iconst 0, 1) := by decide +kernel
theorem dX6_waitedAt_16 : decode cX6_waitedAt 16 = .ok (.iastore, 1) := by decide +kernel
theorem dX6_waitedAt_17 : decode cX6_waitedAt 17 = .ok (.iinc 4 1, 3) := by decide +kernel
theorem dX6_waitedAt_20 : decode cX6_waitedAt 20 = .ok (.goto (-17), 3) := by decide +kernel
theorem dX6_waitedAt_23 : decode cX6_waitedAt 23 = .ok (.iconst 0, 1) := by decide +kernel
theorem dX6_waitedAt_24 : decode cX6_waitedAt 24 = .ok (.istore 4, 2) := by decide +kernel
theorem dX6_waitedAt_26 : decode cX6_waitedAt 26 = .ok (.iconst 0, 1) := by decide +kernel
theorem dX6_waitedAt_27 : decode cX6_waitedAt 27 = .ok (.istore 5, 2) := by decide +kernel
theorem dX6_waitedAt_29 : decode cX6_waitedAt 29 = .ok (.iload 5, 2) := by decide +kernel
theorem dX6_waitedAt_31 : decode cX6_waitedAt 31 = .ok (.aload_n 0, 1) := by decide +kernel
theorem dX6_waitedAt_32 : decode cX6_waitedAt 32 = .ok (.getfield 25, 3) := by decide +kernel
theorem dX6_waitedAt_35 : decode cX6_waitedAt 35 = .ok (.if_icmp .ge 78, 3) := by decide +kernel
theorem dX6_waitedAt_38 : decode cX6_waitedAt 38 = .ok (.aload_n 0, 1) := by decide +kernel
theorem dX6_waitedAt_39 : decode cX6_waitedAt 39 = .ok (.getfield 13, 3) := by decide +kernel
theorem dX6_waitedAt_42 : decode cX6_waitedAt 42 = .ok (.iload 5, 2) := by decide +kernel
theorem dX6_waitedAt_44 : decode cX6_waitedAt 44 = .ok (.iaload, 1) := by decide +kernel
theorem dX6_waitedAt_45 : decode cX6_waitedAt 45 = .ok (.iload_n 1, 1) := by decide +kernel
theorem dX6_waitedAt_46 : decode cX6_waitedAt 46 = .ok (.if_icmp .ne 61, 3) := by decide +kernel
theorem dX6_waitedAt_49 : decode cX6_waitedAt 49 = .ok (.iload_n 2, 1) := by decide +kernel
theorem dX6_waitedAt_50 : decode cX6_waitedAt 50 = .ok (.ifCond .ne 5, 3) := by decide +kernel
theorem dX6_waitedAt_53 : decode cX6_waitedAt 53 = .ok (.iconst (-1), 1) := by decide +kernel
theorem dX6_waitedAt_54 : decode cX6_waitedAt 54 = .ok (.ireturn, 1) := by decide +kernel
theorem dX6_waitedAt_55 : decode cX6_waitedAt 55 = .ok (.aload_n 0, 1) := by decide +kernel
theorem dX6_waitedAt_56 : decode cX6_waitedAt 56 = .ok (.iload_n 2, 1) := by decide +kernel
theorem dX6_waitedAt_57 : decode cX6_waitedAt 57 = .ok (.invokevirtual 40, 3) := by decide +kernel
theorem dX6_waitedAt_60 : decode cX6_waitedAt 60 = .ok (.istore 6, 2) := by decide +kernel
theorem dX6_waitedAt_62 : decode cX6_waitedAt 62 = .ok (.aload_n 0, 1) := by decide +kernel
theorem dX6_waitedAt_63 : decode cX6_waitedAt 63 = .ok (.getfield 9, 3) := by decide +kernel
theorem dX6_waitedAt_66 : decode cX6_waitedAt 66 = .ok (.iload 5, 2) := by decide +kernel
theorem dX6_waitedAt_68 : decode cX6_waitedAt 68 = .ok (.iaload, 1) := by decide +kernel
theorem dX6_waitedAt_69 : decode cX6_waitedAt 69 = .ok (.aload_n 0, 1) := by decide +kernel
theorem dX6_waitedAt_70 : decode cX6_waitedAt 70 = .ok (.getfield 16, 3) := by decide +kernel
theorem dX6_waitedAt_73 : decode cX6_waitedAt 73 = .ok (.iload 6, 2) := by decide +kernel
theorem dX6_waitedAt_75 : decode cX6_waitedAt 75 = .ok (.iaload, 1) := by decide +kernel
theorem dX6_waitedAt_76 : decode cX6_waitedAt 76 = .ok (.invokestatic 44, 3) := by decide +kernel
theorem dX6_waitedAt_79 : decode cX6_waitedAt 79 = .ok (.istore 7, 2) := by decide +kernel
theorem dX6_waitedAt_81 : decode cX6_waitedAt 81 = .ok (.iload 4, 2) := by decide +kernel
theorem dX6_waitedAt_83 : decode cX6_waitedAt 83 = .ok (.iload 7, 2) := by decide +kernel
theorem dX6_waitedAt_85 : decode cX6_waitedAt 85 = .ok (.aload_n 0, 1) := by decide +kernel
theorem dX6_waitedAt_86 : decode cX6_waitedAt 86 = .ok (.getfield 9, 3) := by decide +kernel
theorem dX6_waitedAt_89 : decode cX6_waitedAt 89 = .ok (.iload 5, 2) := by decide +kernel
theorem dX6_waitedAt_91 : decode cX6_waitedAt 91 = .ok (.iaload, 1) := by decide +kernel
theorem dX6_waitedAt_92 : decode cX6_waitedAt 92 = .ok (.isub, 1) := by decide +kernel
theorem dX6_waitedAt_93 : decode cX6_waitedAt 93 = .ok (.iadd, 1) := by decide +kernel
theorem dX6_waitedAt_94 : decode cX6_waitedAt 94 = .ok (.istore 4, 2) := by decide +kernel
theorem dX6_waitedAt_96 : decode cX6_waitedAt 96 = .ok (.aload_n 0, 1) := by decide +kernel
theorem dX6_waitedAt_97 : decode cX6_waitedAt 97 = .ok (.getfield 16, 3) := by decide +kernel
theorem dX6_waitedAt_100 : decode cX6_waitedAt 100 = .ok (.iload 6, 2) := by decide +kernel
theorem dX6_waitedAt_102 : decode cX6_waitedAt 102 = .ok (.iload 7, 2) := by decide +kernel
theorem dX6_waitedAt_104 : decode cX6_waitedAt 104 = .ok (.iload_n 3, 1) := by decide +kernel
theorem dX6_waitedAt_105 : decode cX6_waitedAt 105 = .ok (.iadd, 1) := by decide +kernel
theorem dX6_waitedAt_106 : decode cX6_waitedAt 106 = .ok (.iastore, 1) := by decide +kernel
theorem dX6_waitedAt_107 : decode cX6_waitedAt 107 = .ok (.iinc 5 1, 3) := by decide +kernel
theorem dX6_waitedAt_110 : decode cX6_waitedAt 110 = .ok (.goto (-81), 3) := by decide +kernel
theorem dX6_waitedAt_113 : decode cX6_waitedAt 113 = .ok (.iload 4, 2) := by decide +kernel
theorem dX6_waitedAt_115 : decode cX6_waitedAt 115 = .ok (.ireturn, 1) := by decide +kernel
theorem dX6_firstFree_0 : decode cX6_firstFree 0 = .ok (.iconst 0, 1) := by decide +kernel
theorem dX6_firstFree_1 : decode cX6_firstFree 1 = .ok (.istore_n 2, 1) := by decide +kernel
theorem dX6_firstFree_2 : decode cX6_firstFree 2 = .ok (.iconst 1, 1) := by decide +kernel
theorem dX6_firstFree_3 : decode cX6_firstFree 3 = .ok (.istore_n 3, 1) := by decide +kernel
theorem dX6_firstFree_4 : decode cX6_firstFree 4 = .ok (.iload_n 3, 1) := by decide +kernel
theorem dX6_firstFree_5 : decode cX6_firstFree 5 = .ok (.iload_n 1, 1) := by decide +kernel
theorem dX6_firstFree_6 : decode cX6_firstFree 6 = .ok (.if_icmp .ge 26, 3) := by decide +kernel
theorem dX6_firstFree_9 : decode cX6_firstFree 9 = .ok (.aload_n 0, 1) := by decide +kernel
theorem dX6_firstFree_10 : decode cX6_firstFree 10 = .ok (.getfield 16, 3) := by decide +kernel
theorem dX6_firstFree_13 : decode cX6_firstFree 13 = .ok (.iload_n 3, 1) := by decide +kernel
theorem dX6_firstFree_14 : decode cX6_firstFree 14 = .ok (.iaload, 1) := by decide +kernel
theorem dX6_firstFree_15 : decode cX6_firstFree 15 = .ok (.aload_n 0, 1) := by decide +kernel
theorem dX6_firstFree_16 : decode cX6_firstFree 16 = .ok (.getfield 16, 3) := by decide +kernel
theorem dX6_firstFree_19 : decode cX6_firstFree 19 = .ok (.iload_n 2, 1) := by decide +kernel
theorem dX6_firstFree_20 : decode cX6_firstFree 20 = .ok (.iaload, 1) := by decide +kernel
theorem dX6_firstFree_21 : decode cX6_firstFree 21 = .ok (.if_icmp .ge 5, 3) := by decide +kernel
theorem dX6_firstFree_24 : decode cX6_firstFree 24 = .ok (.iload_n 3, 1) := by decide +kernel
theorem dX6_firstFree_25 : decode cX6_firstFree 25 = .ok (.istore_n 2, 1) := by decide +kernel
theorem dX6_firstFree_26 : decode cX6_firstFree 26 = .ok (.iinc 3 1, 3) := by decide +kernel
theorem dX6_firstFree_29 : decode cX6_firstFree 29 = .ok (.goto (-25), 3) := by decide +kernel
theorem dX6_firstFree_32 : decode cX6_firstFree 32 = .ok (.iload_n 2, 1) := by decide +kernel
theorem dX6_firstFree_33 : decode cX6_firstFree 33 = .ok (.ireturn, 1) := by decide +kernel
theorem dX9_addGuest_0 : decode cX9_addGuest 0 = .ok (.aload_n 0, 1) := by decide +kernel
theorem dX9_addGuest_1 : decode cX9_addGuest 1 = .ok (.getfield 11, 3) := by decide +kernel
theorem dX9_addGuest_4 : decode cX9_addGuest 4 = .ok (.aload_n 0, 1) := by decide +kernel
theorem dX9_addGuest_5 : decode cX9_addGuest 5 = .ok (.getfield 27, 3) := by decide +kernel
theorem dX9_addGuest_8 : decode cX9_addGuest 8 = .ok (.iload_n 1, 1) := by decide +kernel
theorem dX9_addGuest_9 : decode cX9_addGuest 9 = .ok (.iastore, 1) := by decide +kernel
theorem dX9_addGuest_10 : decode cX9_addGuest 10 = .ok (.aload_n 0, 1) := by decide +kernel
theorem dX9_addGuest_11 : decode cX9_addGuest 11 = .ok (.getfield 15, 3) := by decide +kernel
theorem dX9_addGuest_14 : decode cX9_addGuest 14 = .ok (.aload_n 0, 1) := by decide +kernel
theorem dX9_addGuest_15 : decode cX9_addGuest 15 = .ok (.getfield 27, 3) := by decide +kernel
theorem dX9_addGuest_18 : decode cX9_addGuest 18 = .ok (.iload_n 2, 1) := by decide +kernel
theorem dX9_addGuest_19 : decode cX9_addGuest 19 = .ok (.iastore, 1) := by decide +kernel
theorem dX9_addGuest_20 : decode cX9_addGuest 20 = .ok (.aload_n 0, 1) := by decide +kernel
theorem dX9_addGuest_21 : decode cX9_addGuest 21 = .ok (.getfield 18, 3) := by decide +kernel
theorem dX9_addGuest_24 : decode cX9_addGuest 24 = .ok (.aload_n 0, 1) := by decide +kernel
theorem dX9_addGuest_25 : decode cX9_addGuest 25 = .ok (.getfield 27, 3) := by decide +kernel
theorem dX9_addGuest_28 : decode cX9_addGuest 28 = .ok (.iload_n 3, 1) := by decide +kernel
theorem dX9_addGuest_29 : decode cX9_addGuest 29 = .ok (.iastore, 1) := by decide +kernel
theorem dX9_addGuest_30 : decode cX9_addGuest 30 = .ok (.aload_n 0, 1) := by decide +kernel
theorem dX9_addGuest_31 : decode cX9_addGuest 31 = .ok (.getfield 21, 3) := by decide +kernel
theorem dX9_addGuest_34 : decode cX9_addGuest 34 = .ok (.aload_n 0, 1) := by decide +kernel
theorem dX9_addGuest_35 : decode cX9_addGuest 35 = .ok (.getfield 27, 3) := by decide +kernel
theorem dX9_addGuest_38 : decode cX9_addGuest 38 = .ok (.iload 4, 2) := by decide +kernel
theorem dX9_addGuest_40 : decode cX9_addGuest 40 = .ok (.iastore, 1) := by decide +kernel
theorem dX9_addGuest_41 : decode cX9_addGuest 41 = .ok (.aload_n 0, 1) := by decide +kernel
theorem dX9_addGuest_42 : decode cX9_addGuest 42 = .ok (.dup, 1) := by decide +kernel
theorem dX9_addGuest_43 : decode cX9_addGuest 43 = .ok (.getfield 27, 3) := by decide +kernel
theorem dX9_addGuest_46 : decode cX9_addGuest 46 = .ok (.iconst 1, 1) := by decide +kernel
theorem dX9_addGuest_47 : decode cX9_addGuest 47 = .ok (.iadd, 1) := by decide +kernel
theorem dX9_addGuest_48 : decode cX9_addGuest 48 = .ok (.putfield 27, 3) := by decide +kernel
theorem dX9_addGuest_51 : decode cX9_addGuest 51 = .ok (.aload_n 0, 1) := by decide +kernel
theorem dX9_addGuest_52 : decode cX9_addGuest 52 = .ok (.getfield 27, 3) := by decide +kernel
theorem dX9_addGuest_55 : decode cX9_addGuest 55 = .ok (.ireturn, 1) := by decide +kernel
theorem dX9_addCase_0 : decode cX9_addCase 0 = .ok (.aload_n 0, 1) := by decide +kernel
theorem dX9_addCase_1 : decode cX9_addCase 1 = .ok (.getfield 24, 3) := by decide +kernel
theorem dX9_addCase_4 : decode cX9_addCase 4 = .ok (.iload_n 1, 1) := by decide +kernel
theorem dX9_addCase_5 : decode cX9_addCase 5 = .ok (.iaload, 1) := by decide +kernel
theorem dX9_addCase_6 : decode cX9_addCase 6 = .ok (.iconst (-1), 1) := by decide +kernel
theorem dX9_addCase_7 : decode cX9_addCase 7 = .ok (.if_icmp .eq 15, 3) := by decide +kernel
theorem dX9_addCase_10 : decode cX9_addCase 10 = .ok (.aload_n 0, 1) := by decide +kernel
theorem dX9_addCase_11 : decode cX9_addCase 11 = .ok (.getfield 24, 3) := by decide +kernel
theorem dX9_addCase_14 : decode cX9_addCase 14 = .ok (.iload_n 1, 1) := by decide +kernel
theorem dX9_addCase_15 : decode cX9_addCase 15 = .ok (.iaload, 1) := by decide +kernel
theorem dX9_addCase_16 : decode cX9_addCase 16 = .ok (.iload_n 2, 1) := by decide +kernel
theorem dX9_addCase_17 : decode cX9_addCase 17 = .ok (.if_icmp .gt 5, 3) := by decide +kernel
theorem dX9_addCase_20 : decode cX9_addCase 20 = .ok (.iconst 0, 1) := by decide +kernel
theorem dX9_addCase_21 : decode cX9_addCase 21 = .ok (.ireturn, 1) := by decide +kernel
theorem dX9_addCase_22 : decode cX9_addCase 22 = .ok (.aload_n 0, 1) := by decide +kernel
theorem dX9_addCase_23 : decode cX9_addCase 23 = .ok (.getfield 24, 3) := by decide +kernel
theorem dX9_addCase_26 : decode cX9_addCase 26 = .ok (.iload_n 1, 1) := by decide +kernel
theorem dX9_addCase_27 : decode cX9_addCase 27 = .ok (.iload_n 2, 1) := by decide +kernel
theorem dX9_addCase_28 : decode cX9_addCase 28 = .ok (.iastore, 1) := by decide +kernel
theorem dX9_addCase_29 : decode cX9_addCase 29 = .ok (.iconst 1, 1) := by decide +kernel
theorem dX9_addCase_30 : decode cX9_addCase 30 = .ok (.ireturn, 1) := by decide +kernel
theorem dX9_housesWithCases_0 : decode cX9_housesWithCases 0 = .ok (.iconst 0, 1) := by decide +kernel
theorem dX9_housesWithCases_1 : decode cX9_housesWithCases 1 = .ok (.istore_n 1, 1) := by decide +kernel
theorem dX9_housesWithCases_2 : decode cX9_housesWithCases 2 = .ok (.iconst 0, 1) := by decide +kernel
theorem dX9_housesWithCases_3 : decode cX9_housesWithCases 3 = .ok (.istore_n 2, 1) := by decide +kernel
theorem dX9_housesWithCases_4 : decode cX9_housesWithCases 4 = .ok (.iload_n 2, 1) := by decide +kernel
theorem dX9_housesWithCases_5 : decode cX9_housesWithCases 5 = .ok (.bipush 8, 2) := by decide +kernel
theorem dX9_housesWithCases_7 : decode cX9_housesWithCases 7 = .ok (.if_icmp .ge 25, 3) := by decide +kernel
theorem dX9_housesWithCases_10 : decode cX9_housesWithCases 10 = .ok (.aload_n 0, 1) := by decide +kernel
theorem dX9_housesWithCases_11 : decode cX9_housesWithCases 11 = .ok (.getfield 24, 3) := by decide +kernel
theorem dX9_housesWithCases_14 : decode cX9_housesWithCases 14 = .ok (.iload_n 2, 1) := by decide +kernel
theorem dX9_housesWithCases_15 : decode cX9_housesWithCases 15 = .ok (.iaload, 1) := by decide +kernel
theorem dX9_housesWithCases_16 : decode cX9_housesWithCases 16 = .ok (.iconst (-1), 1) := by decide +kernel
theorem dX9_housesWithCases_17 : decode cX9_housesWithCases 17 = .ok (.if_icmp .eq 9, 3) := by decide +kernel
theorem dX9_housesWithCases_20 : decode cX9_housesWithCases 20 = .ok (.iload_n 1, 1) := by decide +kernel
theorem dX9_housesWithCases_21 : decode cX9_housesWithCases 21 = .ok (.iconst 1, 1) := by decide +kernel
theorem dX9_housesWithCases_22 : decode cX9_housesWithCases 22 = .ok (.iload_n 2, 1) := by decide +kernel
theorem dX9_housesWithCases_23 : decode cX9_housesWithCases 23 = .ok (.ishl, 1) := by decide +kernel
theorem dX9_housesWithCases_24 : decode cX9_housesWithCases 24 = .ok (.ior, 1) := by decide +kernel
theorem dX9_housesWithCases_25 : decode cX9_housesWithCases 25 = .ok (.istore_n 1, 1) := by decide +kernel
theorem dX9_housesWithCases_26 : decode cX9_housesWithCases 26 = .ok (.iinc 2 1, 3) := by decide +kernel
theorem dX9_housesWithCases_29 : decode cX9_housesWithCases 29 = .ok (.goto (-25), 3) := by decide +kernel
theorem dX9_housesWithCases_32 : decode cX9_housesWithCases 32 = .ok (.iload_n 1, 1) := by decide +kernel
theorem dX9_housesWithCases_33 : decode cX9_housesWithCases 33 = .ok (.ireturn, 1) := by decide +kernel
theorem dX9_tellWhoMay_0 : decode cX9_tellWhoMay 0 = .ok (.iconst 0, 1) := by decide +kernel
theorem dX9_tellWhoMay_1 : decode cX9_tellWhoMay 1 = .ok (.istore_n 2, 1) := by decide +kernel
theorem dX9_tellWhoMay_2 : decode cX9_tellWhoMay 2 = .ok (.iload_n 2, 1) := by decide +kernel
theorem dX9_tellWhoMay_3 : decode cX9_tellWhoMay 3 = .ok (.bipush 12, 2) := by decide +kernel
theorem dX9_tellWhoMay_5 : decode cX9_tellWhoMay 5 = .ok (.if_icmp .ge 13, 3) := by decide +kernel
theorem dX9_tellWhoMay_8 : decode cX9_tellWhoMay 8 = .ok (.aload_n 1, 1) := by decide +kernel
theorem dX9_tellWhoMay_9 : decode cX9_tellWhoMay 9 = .ok (.iload_n 2, 1) := by decide +kernel
theorem dX9_tellWhoMay_10 : decode cX9_tellWhoMay 10 = .ok (.iconst 0, 1) := by decide +kernel
theorem dX9_tellWhoMay_11 : decode cX9_tellWhoMay 11 = .ok (.iastore, 1) := by decide +kernel
theorem dX9_tellWhoMay_12 : decode cX9_tellWhoMay 12 = .ok (.iinc 2 1, 3) := by decide +kernel
theorem dX9_tellWhoMay_15 : decode cX9_tellWhoMay 15 = .ok (.goto (-13), 3) := by decide +kernel
theorem dX9_tellWhoMay_18 : decode cX9_tellWhoMay 18 = .ok (.iconst 0, 1) := by decide +kernel
theorem dX9_tellWhoMay_19 : decode cX9_tellWhoMay 19 = .ok (.istore_n 2, 1) := by decide +kernel
theorem dX9_tellWhoMay_20 : decode cX9_tellWhoMay 20 = .ok (.iload_n 2, 1) := by decide +kernel
theorem dX9_tellWhoMay_21 : decode cX9_tellWhoMay 21 = .ok (.aload_n 0, 1) := by decide +kernel
theorem dX9_tellWhoMay_22 : decode cX9_tellWhoMay 22 = .ok (.getfield 27, 3) := by decide +kernel
theorem dX9_tellWhoMay_25 : decode cX9_tellWhoMay 25 = .ok (.if_icmp .ge 70, 3) := by decide +kernel
theorem dX9_tellWhoMay_28 : decode cX9_tellWhoMay 28 = .ok (.aload_n 0, 1) := by decide +kernel
theorem dX9_tellWhoMay_29 : decode cX9_tellWhoMay 29 = .ok (.getfield 24, 3) := by decide +kernel
theorem dX9_tellWhoMay_32 : decode cX9_tellWhoMay 32 = .ok (.aload_n 0, 1) := by decide +kernel
theorem dX9_tellWhoMay_33 : decode cX9_tellWhoMay 33 = .ok (.getfield 15, 3) := by decide +kernel
theorem dX9_tellWhoMay_36 : decode cX9_tellWhoMay 36 = .ok (.iload_n 2, 1) := by decide +kernel
theorem dX9_tellWhoMay_37 : decode cX9_tellWhoMay 37 = .ok (.iaload, 1) := by decide +kernel
theorem dX9_tellWhoMay_38 : decode cX9_tellWhoMay 38 = .ok (.iaload, 1) := by decide +kernel
theorem dX9_tellWhoMay_39 : decode cX9_tellWhoMay 39 = .ok (.istore_n 3, 1) := by decide +kernel
theorem dX9_tellWhoMay_40 : decode cX9_tellWhoMay 40 = .ok (.iload_n 3, 1) := by decide +kernel
theorem dX9_tellWhoMay_41 : decode cX9_tellWhoMay 41 = .ok (.iconst (-1), 1) := by decide +kernel
theorem dX9_tellWhoMay_42 : decode cX9_tellWhoMay 42 = .ok (.if_icmp .eq 47, 3) := by decide +kernel
theorem dX9_tellWhoMay_45 : decode cX9_tellWhoMay 45 = .ok (.aload_n 0, 1) := by decide +kernel
theorem dX9_tellWhoMay_46 : decode cX9_tellWhoMay 46 = .ok (.getfield 18, 3) := by decide +kernel
theorem dX9_tellWhoMay_49 : decode cX9_tellWhoMay 49 = .ok (.iload_n 2, 1) := by decide +kernel
theorem dX9_tellWhoMay_50 : decode cX9_tellWhoMay 50 = .ok (.iaload, 1) := by decide +kernel
theorem dX9_tellWhoMay_51 : decode cX9_tellWhoMay 51 = .ok (.iload_n 3, 1) := by decide +kernel
theorem dX9_tellWhoMay_52 : decode cX9_tellWhoMay 52 = .ok (.iconst 2, 1) := by decide +kernel
theorem dX9_tellWhoMay_53 : decode cX9_tellWhoMay 53 = .ok (.isub, 1) := by decide +kernel
theorem dX9_tellWhoMay_54 : decode cX9_tellWhoMay 54 = .ok (.if_icmp .gt 35, 3) := by decide +kernel
theorem dX9_tellWhoMay_57 : decode cX9_tellWhoMay 57 = .ok (.aload_n 0, 1) := by decide +kernel
theorem dX9_tellWhoMay_58 : decode cX9_tellWhoMay 58 = .ok (.getfield 21, 3) := by decide +kernel
theorem dX9_tellWhoMay_61 : decode cX9_tellWhoMay 61 = .ok (.iload_n 2, 1) := by decide +kernel
theorem dX9_tellWhoMay_62 : decode cX9_tellWhoMay 62 = .ok (.iaload, 1) := by decide +kernel
theorem dX9_tellWhoMay_63 : decode cX9_tellWhoMay 63 = .ok (.iload_n 3, 1) := by decide +kernel
theorem dX9_tellWhoMay_64 : decode cX9_tellWhoMay 64 = .ok (.bipush 10, 2) := by decide +kernel
theorem dX9_tellWhoMay_66 : decode cX9_tellWhoMay 66 = .ok (.isub, 1) := by decide +kernel
theorem dX9_tellWhoMay_67 : decode cX9_tellWhoMay 67 = .ok (.if_icmp .lt 22, 3) := by decide +kernel
theorem dX9_tellWhoMay_70 : decode cX9_tellWhoMay 70 = .ok (.aload_n 1, 1) := by decide +kernel
theorem dX9_tellWhoMay_71 : decode cX9_tellWhoMay 71 = .ok (.aload_n 0, 1) := by decide +kernel
theorem dX9_tellWhoMay_72 : decode cX9_tellWhoMay 72 = .ok (.getfield 11, 3) := by decide +kernel
theorem dX9_tellWhoMay_75 : decode cX9_tellWhoMay 75 = .ok (.iload_n 2, 1) := by decide +kernel
theorem dX9_tellWhoMay_76 : decode cX9_tellWhoMay 76 = .ok (.iaload, 1) := by decide +kernel
theorem dX9_tellWhoMay_77 : decode cX9_tellWhoMay 77 = .ok (.dup2, 1) := by decide +kernel
theorem dX9_tellWhoMay_78 : decode cX9_tellWhoMay 78 = .ok (.iaload, 1) := by decide +kernel
theorem dX9_tellWhoMay_79 : decode cX9_tellWhoMay 79 = .ok (.iconst 1, 1) := by decide +kernel
theorem dX9_tellWhoMay_80 : decode cX9_tellWhoMay 80 = .ok (.aload_n 0, 1) := by decide +kernel
theorem dX9_tellWhoMay_81 : decode cX9_tellWhoMay 81 = .ok (.getfield 15, 3) := by decide +kernel
theorem dX9_tellWhoMay_84 : decode cX9_tellWhoMay 84 = .ok (.iload_n 2, 1) := by decide +kernel
theorem dX9_tellWhoMay_85 : decode cX9_tellWhoMay 85 = .ok (.iaload, 1) := by decide +kernel
theorem dX9_tellWhoMay_86 : decode cX9_tellWhoMay 86 = .ok (.ishl, 1) := by decide +kernel
theorem dX9_tellWhoMay_87 : decode cX9_tellWhoMay 87 = .ok (.ior, 1) := by decide +kernel
theorem dX9_tellWhoMay_88 : decode cX9_tellWhoMay 88 = .ok (.iastore, 1) := by decide +kernel
theorem dX9_tellWhoMay_89 : decode cX9_tellWhoMay 89 = .ok (.iinc 2 1, 3) := by decide +kernel
theorem dX9_tellWhoMay_92 : decode cX9_tellWhoMay 92 = .ok (.goto (-72), 3) := by decide +kernel
theorem dX9_tellWhoMay_95 : decode cX9_tellWhoMay 95 = .ok (.return_, 1) := by decide +kernel
set_option maxRecDepth 100000 in
set_option maxHeartbeats 4000000 in
theorem B_X6_clear_0 {g : gp} {u : sg} {Q : Option Value → sg → Prop}  (h : Q none (sI u 7 2 (0 : Int32))) : Go g iX6_clear 0 [some (.ref (gd g 7))] [] u Q := by
  refine go_aload_n dX6_clear_0 rfl rfl ?_
  refine go_iconst (v := 0) dX6_clear_1 (by decide) ?_
  refine go_put (k := 2) dX6_clear_2 ob_7 (by decide) qf_X6_25 rfl rfl pf_I ?_
  exact go_vret dX6_clear_5 rfl h
set_option maxRecDepth 100000 in
set_option maxHeartbeats 4000000 in
theorem B_X6_comes_0 {g : gp} {u : sg} {Q : Option Value → sg → Prop} (x1 : Int32) (x2 : Int32) (h : (((u.1 7 2) < (20 : Int32) → Go g iX6_comes 15 [some (.ref (gd g 7)), some (.int x1), some (.int x2), some (.int (u.1 7 2))] [] u Q) ∧ (¬ (u.1 7 2) < (20 : Int32) → Q none u))) : Go g iX6_comes 0 [some (.ref (gd g 7)), some (.int x1), some (.int x2), none] [] u Q := by
  refine go_aload_n dX6_comes_0 rfl rfl ?_
  refine go_get (k := 2) (v := .int (u.1 7 2)) dX6_comes_1 ob_7 (by decide) qf_X6_25 rfl ?_
  refine go_bipush (v := 20) dX6_comes_4 (by decide) ?_
  refine go_icmp_lt (tgt := 10) dX6_comes_6 (by decide) (fun hc => ?_) (fun hc => ?_)
  · replace h := h.1 hc
    refine go_aload_n dX6_comes_10 rfl rfl ?_
    refine go_get (k := 2) (v := .int (u.1 7 2)) dX6_comes_11 ob_7 (by decide) qf_X6_25 rfl ?_
    refine go_istore_n (lm := [some (.ref (gd g 7)), some (.int x1), some (.int x2), some (.int (u.1 7 2))]) dX6_comes_14 rfl (by decide) rfl rfl ?_
    exact h
  · replace h := h.2 hc
    exact go_vret dX6_comes_9 rfl h
set_option maxRecDepth 100000 in
set_option maxHeartbeats 4000000 in
theorem B_X6_comes_15 {g : gp} {u : sg} {Q : Option Value → sg → Prop} (x1 : Int32) (x2 : Int32) (x3 : Int32) (h : ((x3 ≤ (0 : Int32) → Go g iX6_comes 65 [some (.ref (gd g 7)), some (.int x1), some (.int x2), some (.int x3)] [] u Q) ∧ (¬ x3 ≤ (0 : Int32) → (vp_in (x3 - 1) 20 ∧ (((u.2 35 (x3 - 1).toNatClampNeg) ≤ x2 → Go g iX6_comes 65 [some (.ref (gd g 7)), some (.int x1), some (.int x2), some (.int x3)] [] u Q) ∧ (¬ (u.2 35 (x3 - 1).toNatClampNeg) ≤ x2 → (vp_in (x3 - 1) 20 ∧ (vp_in x3 20 ∧ (vp_in (x3 - 1) 20 ∧ (vp_in x3 20 ∧ Go g iX6_comes 15 [some (.ref (gd g 7)), some (.int x1), some (.int x2), some (.int (x3 + (-1)))] [] (sA (sA u 35 x3.toNatClampNeg (u.2 35 (x3 - 1).toNatClampNeg)) 36 x3.toNatClampNeg (u.2 36 (x3 - 1).toNatClampNeg)) Q)))))))))) : Go g iX6_comes 15 [some (.ref (gd g 7)), some (.int x1), some (.int x2), some (.int x3)] [] u Q := by
  refine go_iload_n dX6_comes_15 rfl rfl ?_
  refine go_if_le (tgt := 65) dX6_comes_16 (by decide) (fun hc => ?_) (fun hc => ?_)
  · replace h := h.1 hc
    exact h
  · replace h := h.2 hc
    refine go_aload_n dX6_comes_19 rfl rfl ?_
    refine go_get (k := 0) (v := .ref (gd g 35)) dX6_comes_20 ob_7 (by decide) qf_X6_9 rfl ?_
    refine go_iload_n dX6_comes_23 rfl rfl ?_
    refine go_iconst (v := 1) dX6_comes_24 (by decide) ?_
    refine go_isub dX6_comes_25 ?_
    obtain ⟨hi, h⟩ := h
    refine go_ild (a := 35) (n := 20) dX6_comes_26 (by decide) (by decide) rfl hi ?_
    refine go_iload_n dX6_comes_27 rfl rfl ?_
    refine go_icmp_le (tgt := 65) dX6_comes_28 (by decide) (fun hc => ?_) (fun hc => ?_)
    · replace h := h.1 hc
      exact h
    · replace h := h.2 hc
      refine go_aload_n dX6_comes_31 rfl rfl ?_
      refine go_get (k := 0) (v := .ref (gd g 35)) dX6_comes_32 ob_7 (by decide) qf_X6_9 rfl ?_
      refine go_iload_n dX6_comes_35 rfl rfl ?_
      refine go_aload_n dX6_comes_36 rfl rfl ?_
      refine go_get (k := 0) (v := .ref (gd g 35)) dX6_comes_37 ob_7 (by decide) qf_X6_9 rfl ?_
      refine go_iload_n dX6_comes_40 rfl rfl ?_
      refine go_iconst (v := 1) dX6_comes_41 (by decide) ?_
      refine go_isub dX6_comes_42 ?_
      obtain ⟨hi, h⟩ := h
      refine go_ild (a := 35) (n := 20) dX6_comes_43 (by decide) (by decide) rfl hi ?_
      obtain ⟨hi, h⟩ := h
      refine go_ist (a := 35) (n := 20) dX6_comes_44 (by decide) (by decide) rfl hi ?_
      refine go_aload_n dX6_comes_45 rfl rfl ?_
      refine go_get (k := 1) (v := .ref (gd g 36)) dX6_comes_46 ob_7 (by decide) qf_X6_13 rfl ?_
      refine go_iload_n dX6_comes_49 rfl rfl ?_
      refine go_aload_n dX6_comes_50 rfl rfl ?_
      refine go_get (k := 1) (v := .ref (gd g 36)) dX6_comes_51 ob_7 (by decide) qf_X6_13 rfl ?_
      refine go_iload_n dX6_comes_54 rfl rfl ?_
      refine go_iconst (v := 1) dX6_comes_55 (by decide) ?_
      refine go_isub dX6_comes_56 ?_
      obtain ⟨hi, h⟩ := h
      refine go_ild (a := 36) (n := 20) dX6_comes_57 (by decide) (by decide) rfl hi ?_
      obtain ⟨hi, h⟩ := h
      refine go_ist (a := 36) (n := 20) dX6_comes_58 (by decide) (by decide) rfl hi ?_
      refine go_iinc (v := x3 + (-1)) (lm := [some (.ref (gd g 7)), some (.int x1), some (.int x2), some (.int (x3 + (-1)))]) dX6_comes_59 rfl rfl (by decide) rfl rfl ?_
      refine go_goto (tgt := 15) dX6_comes_62 (by decide) ?_
      exact h
set_option maxRecDepth 100000 in
set_option maxHeartbeats 4000000 in
theorem B_X6_comes_65 {g : gp} {u : sg} {Q : Option Value → sg → Prop} (x1 : Int32) (x2 : Int32) (x3 : Int32) (h : (vp_in x3 20 ∧ (vp_in x3 20 ∧ Q none (sI (sA (sA u 35 x3.toNatClampNeg x2) 36 x3.toNatClampNeg x1) 7 2 ((u.1 7 2) + 1))))) : Go g iX6_comes 65 [some (.ref (gd g 7)), some (.int x1), some (.int x2), some (.int x3)] [] u Q := by
  refine go_aload_n dX6_comes_65 rfl rfl ?_
  refine go_get (k := 0) (v := .ref (gd g 35)) dX6_comes_66 ob_7 (by decide) qf_X6_9 rfl ?_
  refine go_iload_n dX6_comes_69 rfl rfl ?_
  refine go_iload_n dX6_comes_70 rfl rfl ?_
  obtain ⟨hi, h⟩ := h
  refine go_ist (a := 35) (n := 20) dX6_comes_71 (by decide) (by decide) rfl hi ?_
  refine go_aload_n dX6_comes_72 rfl rfl ?_
  refine go_get (k := 1) (v := .ref (gd g 36)) dX6_comes_73 ob_7 (by decide) qf_X6_13 rfl ?_
  refine go_iload_n dX6_comes_76 rfl rfl ?_
  refine go_iload_n dX6_comes_77 rfl rfl ?_
  obtain ⟨hi, h⟩ := h
  refine go_ist (a := 36) (n := 20) dX6_comes_78 (by decide) (by decide) rfl hi ?_
  refine go_aload_n dX6_comes_79 rfl rfl ?_
  refine go_dup dX6_comes_80 rfl ?_
  refine go_get (k := 2) (v := .int (u.1 7 2)) dX6_comes_81 ob_7 (by decide) qf_X6_25 rfl ?_
  refine go_iconst (v := 1) dX6_comes_84 (by decide) ?_
  refine go_iadd dX6_comes_85 ?_
  refine go_put (k := 2) dX6_comes_86 ob_7 (by decide) qf_X6_25 rfl rfl pf_I ?_
  exact go_vret dX6_comes_89 rfl h
set_option maxRecDepth 100000 in
set_option maxHeartbeats 4000000 in
theorem B_X6_shareOut_0 {g : gp} {u : sg} {Q : Option Value → sg → Prop} (x1 : Int32) (x2 : Int32) (h : Go g iX6_shareOut 2 [some (.ref (gd g 7)), some (.int x1), some (.int x2), some (.int 0), none, none] [] u Q) : Go g iX6_shareOut 0 [some (.ref (gd g 7)), some (.int x1), some (.int x2), none, none, none] [] u Q := by
  refine go_iconst (v := 0) dX6_shareOut_0 (by decide) ?_
  refine go_istore_n (lm := [some (.ref (gd g 7)), some (.int x1), some (.int x2), some (.int 0), none, none]) dX6_shareOut_1 rfl (by decide) rfl rfl ?_
  exact h
set_option maxRecDepth 100000 in
set_option maxHeartbeats 4000000 in
theorem B_X6_shareOut_2 {g : gp} {u : sg} {Q : Option Value → sg → Prop} (x1 : Int32) (x2 : Int32) (x3 : Int32) (h : (((4 : Int32) ≤ x3 → Go g iX6_shareOut 55 [some (.ref (gd g 7)), none, some (.int x2), some (.int x2), none, none] [] (sI u 7 6 (-1 : Int32)) Q) ∧ (¬ (4 : Int32) ≤ x3 → Go g iX6_shareOut 10 [some (.ref (gd g 7)), some (.int x1), some (.int x2), some (.int x3), some (.int 0), none] [] u Q))) : Go g iX6_shareOut 2 [some (.ref (gd g 7)), some (.int x1), some (.int x2), some (.int x3), none, none] [] u Q := by
  refine go_iload_n dX6_shareOut_2 rfl rfl ?_
  refine go_iconst (v := 4) dX6_shareOut_3 (by decide) ?_
  refine go_icmp_ge (tgt := 48) dX6_shareOut_4 (by decide) (fun hc => ?_) (fun hc => ?_)
  · replace h := h.1 hc
    refine go_aload_n dX6_shareOut_48 rfl rfl ?_
    refine go_iconst (v := (-1)) dX6_shareOut_49 (by decide) ?_
    refine go_put (k := 6) dX6_shareOut_50 ob_7 (by decide) qf_X6_33 rfl rfl pf_I ?_
    refine go_iload_n dX6_shareOut_53 rfl rfl ?_
    refine go_istore_n (lm := [some (.ref (gd g 7)), some (.int x1), some (.int x2), some (.int x2), none, none]) dX6_shareOut_54 rfl (by decide) rfl rfl ?_
    refine go_mask [true, false, true, true, true, true] rfl ?_
    exact h
  · replace h := h.2 hc
    refine go_iconst (v := 0) dX6_shareOut_7 (by decide) ?_
    refine go_istore (lm := [some (.ref (gd g 7)), some (.int x1), some (.int x2), some (.int x3), some (.int 0), none]) dX6_shareOut_8 (by decide) rfl rfl ?_
    exact h
set_option maxRecDepth 100000 in
set_option maxHeartbeats 4000000 in
theorem B_X6_shareOut_10 {g : gp} {u : sg} {Q : Option Value → sg → Prop} (x1 : Int32) (x2 : Int32) (x3 : Int32) (x4 : Int32) (h : ((x2 < x4 → Go g iX6_shareOut 2 [some (.ref (gd g 7)), some (.int x1), some (.int x2), some (.int (x3 + 1)), none, none] [] u Q) ∧ (¬ x2 < x4 → Go g iX6_waitedAt 0 [some (.ref (gd g 7)), some (.int x3), some (.int x4), some (.int x1), none, none, none, none] [] u (QI (fun r1 u1 => (vp_in ((x3 * 9) + x4) 36 ∧ Go g iX6_shareOut 10 [some (.ref (gd g 7)), some (.int x1), some (.int x2), some (.int x3), some (.int (x4 + 1)), none] [] (sA u1 38 ((x3 * 9) + x4).toNatClampNeg r1) Q)))))) : Go g iX6_shareOut 10 [some (.ref (gd g 7)), some (.int x1), some (.int x2), some (.int x3), some (.int x4), none] [] u Q := by
  refine go_iload dX6_shareOut_10 rfl ?_
  refine go_iload_n dX6_shareOut_12 rfl rfl ?_
  refine go_icmp_gt (tgt := 42) dX6_shareOut_13 (by decide) (fun hc => ?_) (fun hc => ?_)
  · replace h := h.1 hc
    refine go_iinc (v := x3 + 1) (lm := [some (.ref (gd g 7)), some (.int x1), some (.int x2), some (.int (x3 + 1)), some (.int x4), none]) dX6_shareOut_42 rfl rfl (by decide) rfl rfl ?_
    refine go_goto (tgt := 2) dX6_shareOut_45 (by decide) ?_
    refine go_mask [true, true, true, true, false, true] rfl ?_
    exact h
  · replace h := h.2 hc
    refine go_aload_n dX6_shareOut_16 rfl rfl ?_
    refine go_get (k := 4) (v := .ref (gd g 38)) dX6_shareOut_17 ob_7 (by decide) qf_X6_19 rfl ?_
    refine go_iload_n dX6_shareOut_20 rfl rfl ?_
    refine go_bipush (v := 9) dX6_shareOut_21 (by decide) ?_
    refine go_imul dX6_shareOut_23 ?_
    refine go_iload dX6_shareOut_24 rfl ?_
    refine go_iadd dX6_shareOut_26 ?_
    refine go_aload_n dX6_shareOut_27 rfl rfl ?_
    refine go_iload_n dX6_shareOut_28 rfl rfl ?_
    refine go_iload dX6_shareOut_29 rfl ?_
    refine go_iload_n dX6_shareOut_31 rfl rfl ?_
    refine go_cVi (o := 7) (As := [.int x3, .int x4, .int x1]) (st := [.int ((x3 * 9) + x4), .ref (gd g 38)]) (lc := [some (.ref (gd g 7)), some (.int x3), some (.int x4), some (.int x1), none, none, none, none]) dX6_shareOut_32 me_X6_waitedAt rfl ob_7 qm_X6_29 rfl (Nat.le_of_ble_eq_true rfl) rfl ⟨Nat.le_of_ble_eq_true rfl, Nat.le_of_ble_eq_true rfl⟩ rfl (Nat.le_of_ble_eq_true rfl) h (fun r1 u1 h => ?_)
    obtain ⟨hi, h⟩ := h
    refine go_ist (a := 38) (n := 36) dX6_shareOut_35 (by decide) (by decide) rfl hi ?_
    refine go_iinc (v := x4 + 1) (lm := [some (.ref (gd g 7)), some (.int x1), some (.int x2), some (.int x3), some (.int (x4 + 1)), none]) dX6_shareOut_36 rfl rfl (by decide) rfl rfl ?_
    refine go_goto (tgt := 10) dX6_shareOut_39 (by decide) ?_
    exact h
set_option maxRecDepth 100000 in
set_option maxHeartbeats 4000000 in
theorem B_X6_shareOut_55 {g : gp} {u : sg} {Q : Option Value → sg → Prop} (x2 : Int32) (x3 : Int32) (h : ((x3 < (0 : Int32) → (((u.1 7 6) = (-1 : Int32) → Q (some (.int (0 : Int32))) u) ∧ (¬ (u.1 7 6) = (-1 : Int32) → Q (some (.int (1 : Int32))) u))) ∧ (¬ x3 < (0 : Int32) → Go g iX6_shareOut 64 [some (.ref (gd g 7)), none, some (.int x2), some (.int x3), some (.int (x2 - x3)), none] [] u Q))) : Go g iX6_shareOut 55 [some (.ref (gd g 7)), none, some (.int x2), some (.int x3), none, none] [] u Q := by
  refine go_iload_n dX6_shareOut_55 rfl rfl ?_
  refine go_if_lt (tgt := 118) dX6_shareOut_56 (by decide) (fun hc => ?_) (fun hc => ?_)
  · replace h := h.1 hc
    refine go_aload_n dX6_shareOut_118 rfl rfl ?_
    refine go_get (k := 6) (v := .int (u.1 7 6)) dX6_shareOut_119 ob_7 (by decide) qf_X6_33 rfl ?_
    refine go_iconst (v := (-1)) dX6_shareOut_122 (by decide) ?_
    refine go_icmp_eq (tgt := 130) dX6_shareOut_123 (by decide) (fun hc => ?_) (fun hc => ?_)
    · replace h := h.1 hc
      refine go_iconst (v := 0) dX6_shareOut_130 (by decide) ?_
      exact go_zret dX6_shareOut_131 rfl (by decide) h
    · replace h := h.2 hc
      refine go_iconst (v := 1) dX6_shareOut_126 (by decide) ?_
      refine go_goto (tgt := 131) dX6_shareOut_127 (by decide) ?_
      exact go_zret dX6_shareOut_131 rfl (by decide) h
  · replace h := h.2 hc
    refine go_iload_n dX6_shareOut_59 rfl rfl ?_
    refine go_iload_n dX6_shareOut_60 rfl rfl ?_
    refine go_isub dX6_shareOut_61 ?_
    refine go_istore (lm := [some (.ref (gd g 7)), none, some (.int x2), some (.int x3), some (.int (x2 - x3)), none]) dX6_shareOut_62 (by decide) rfl rfl ?_
    exact h
set_option maxRecDepth 100000 in
set_option maxHeartbeats 4000000 in
theorem B_X6_shareOut_64 {g : gp} {u : sg} {Q : Option Value → sg → Prop} (x2 : Int32) (x3 : Int32) (x4 : Int32) (h : ((x4 < (0 : Int32) → Go g iX6_shareOut 55 [some (.ref (gd g 7)), none, some (.int x2), some (.int (x3 + (-1))), none, none] [] u Q) ∧ (¬ x4 < (0 : Int32) → Go g iX6_shareOut 77 [some (.ref (gd g 7)), none, some (.int x2), some (.int x3), some (.int x4), some (.int ((x2 - x3) - x4))] [] u Q))) : Go g iX6_shareOut 64 [some (.ref (gd g 7)), none, some (.int x2), some (.int x3), some (.int x4), none] [] u Q := by
  refine go_iload dX6_shareOut_64 rfl ?_
  refine go_if_lt (tgt := 112) dX6_shareOut_66 (by decide) (fun hc => ?_) (fun hc => ?_)
  · replace h := h.1 hc
    refine go_iinc (v := x3 + (-1)) (lm := [some (.ref (gd g 7)), none, some (.int x2), some (.int (x3 + (-1))), some (.int x4), none]) dX6_shareOut_112 rfl rfl (by decide) rfl rfl ?_
    refine go_goto (tgt := 55) dX6_shareOut_115 (by decide) ?_
    refine go_mask [true, true, true, true, false, true] rfl ?_
    exact h
  · replace h := h.2 hc
    refine go_iload_n dX6_shareOut_69 rfl rfl ?_
    refine go_iload_n dX6_shareOut_70 rfl rfl ?_
    refine go_isub dX6_shareOut_71 ?_
    refine go_iload dX6_shareOut_72 rfl ?_
    refine go_isub dX6_shareOut_74 ?_
    refine go_istore (lm := [some (.ref (gd g 7)), none, some (.int x2), some (.int x3), some (.int x4), some (.int ((x2 - x3) - x4))]) dX6_shareOut_75 (by decide) rfl rfl ?_
    exact h
set_option maxRecDepth 100000 in
set_option maxHeartbeats 4000000 in
theorem B_X6_shareOut_77 {g : gp} {u : sg} {Q : Option Value → sg → Prop} (x2 : Int32) (x3 : Int32) (x4 : Int32) (x5 : Int32) (h : ((x5 < (0 : Int32) → Go g iX6_shareOut 64 [some (.ref (gd g 7)), none, some (.int x2), some (.int x3), some (.int (x4 + (-1))), none] [] u Q) ∧ (¬ x5 < (0 : Int32) → Go g iX6_tryWay 0 [some (.ref (gd g 7)), some (.int x3), some (.int x4), some (.int x5), some (.int (((x2 - x3) - x4) - x5)), none, none, none, none, none] [] u (QV (fun u1 => Go g iX6_shareOut 77 [some (.ref (gd g 7)), none, some (.int x2), some (.int x3), some (.int x4), some (.int (x5 + (-1)))] [] u1 Q))))) : Go g iX6_shareOut 77 [some (.ref (gd g 7)), none, some (.int x2), some (.int x3), some (.int x4), some (.int x5)] [] u Q := by
  refine go_iload dX6_shareOut_77 rfl ?_
  refine go_if_lt (tgt := 106) dX6_shareOut_79 (by decide) (fun hc => ?_) (fun hc => ?_)
  · replace h := h.1 hc
    refine go_iinc (v := x4 + (-1)) (lm := [some (.ref (gd g 7)), none, some (.int x2), some (.int x3), some (.int (x4 + (-1))), some (.int x5)]) dX6_shareOut_106 rfl rfl (by decide) rfl rfl ?_
    refine go_goto (tgt := 64) dX6_shareOut_109 (by decide) ?_
    refine go_mask [true, true, true, true, true, false] rfl ?_
    exact h
  · replace h := h.2 hc
    refine go_aload_n dX6_shareOut_82 rfl rfl ?_
    refine go_iload_n dX6_shareOut_83 rfl rfl ?_
    refine go_iload dX6_shareOut_84 rfl ?_
    refine go_iload dX6_shareOut_86 rfl ?_
    refine go_iload_n dX6_shareOut_88 rfl rfl ?_
    refine go_iload_n dX6_shareOut_89 rfl rfl ?_
    refine go_isub dX6_shareOut_90 ?_
    refine go_iload dX6_shareOut_91 rfl ?_
    refine go_isub dX6_shareOut_93 ?_
    refine go_iload dX6_shareOut_94 rfl ?_
    refine go_isub dX6_shareOut_96 ?_
    refine go_cVv (o := 7) (As := [.int x3, .int x4, .int x5, .int (((x2 - x3) - x4) - x5)]) (st := []) (lc := [some (.ref (gd g 7)), some (.int x3), some (.int x4), some (.int x5), some (.int (((x2 - x3) - x4) - x5)), none, none, none, none, none]) dX6_shareOut_97 me_X6_tryWay rfl ob_7 qm_X6_36 rfl (Nat.le_of_ble_eq_true rfl) rfl ⟨Nat.le_of_ble_eq_true rfl, Nat.le_of_ble_eq_true rfl⟩ rfl (Nat.le_of_ble_eq_true rfl) h (fun u1 h => ?_)
    refine go_iinc (v := x5 + (-1)) (lm := [some (.ref (gd g 7)), none, some (.int x2), some (.int x3), some (.int x4), some (.int (x5 + (-1)))]) dX6_shareOut_100 rfl rfl (by decide) rfl rfl ?_
    refine go_goto (tgt := 77) dX6_shareOut_103 (by decide) ?_
    exact h
set_option maxRecDepth 100000 in
set_option maxHeartbeats 4000000 in
theorem B_X6_tryWay_0 {g : gp} {u : sg} {Q : Option Value → sg → Prop} (x1 : Int32) (x2 : Int32) (x3 : Int32) (x4 : Int32) (h : (vp_in x1 36 ∧ (vp_in (9 + x2) 36 ∧ (vp_in (18 + x3) 36 ∧ (vp_in (27 + x4) 36 ∧ (((u.2 38 x1.toNatClampNeg) = (-1 : Int32) → Q none u) ∧ (¬ (u.2 38 x1.toNatClampNeg) = (-1 : Int32) → (((u.2 38 (9 + x2).toNatClampNeg) = (-1 : Int32) → Q none u) ∧ (¬ (u.2 38 (9 + x2).toNatClampNeg) = (-1 : Int32) → (((u.2 38 (18 + x3).toNatClampNeg) = (-1 : Int32) → Q none u) ∧ (¬ (u.2 38 (18 + x3).toNatClampNeg) = (-1 : Int32) → ((¬ (u.2 38 (27 + x4).toNatClampNeg) = (-1 : Int32) → (((u.1 7 6) = (-1 : Int32) → Go g iX6_tryWay 97 [some (.ref (gd g 7)), some (.int x1), some (.int x2), some (.int x3), some (.int x4), none, none, none, none, some (.int ((((u.2 38 x1.toNatClampNeg) + (u.2 38 (9 + x2).toNatClampNeg)) + (u.2 38 (18 + x3).toNatClampNeg)) + (u.2 38 (27 + x4).toNatClampNeg)))] [] u Q) ∧ (¬ (u.1 7 6) = (-1 : Int32) → (((u.1 7 6) ≤ ((((u.2 38 x1.toNatClampNeg) + (u.2 38 (9 + x2).toNatClampNeg)) + (u.2 38 (18 + x3).toNatClampNeg)) + (u.2 38 (27 + x4).toNatClampNeg)) → Q none u) ∧ (¬ (u.1 7 6) ≤ ((((u.2 38 x1.toNatClampNeg) + (u.2 38 (9 + x2).toNatClampNeg)) + (u.2 38 (18 + x3).toNatClampNeg)) + (u.2 38 (27 + x4).toNatClampNeg)) → Go g iX6_tryWay 97 [some (.ref (gd g 7)), some (.int x1), some (.int x2), some (.int x3), some (.int x4), none, none, none, none, some (.int ((((u.2 38 x1.toNatClampNeg) + (u.2 38 (9 + x2).toNatClampNeg)) + (u.2 38 (18 + x3).toNatClampNeg)) + (u.2 38 (27 + x4).toNatClampNeg)))] [] u Q))))) ∧ ((u.2 38 (27 + x4).toNatClampNeg) = (-1 : Int32) → Q none u))))))))))))) : Go g iX6_tryWay 0 [some (.ref (gd g 7)), some (.int x1), some (.int x2), some (.int x3), some (.int x4), none, none, none, none, none] [] u Q := by
  refine go_aload_n dX6_tryWay_0 rfl rfl ?_
  refine go_get (k := 4) (v := .ref (gd g 38)) dX6_tryWay_1 ob_7 (by decide) qf_X6_19 rfl ?_
  refine go_iload_n dX6_tryWay_4 rfl rfl ?_
  obtain ⟨hi, h⟩ := h
  refine go_ild (a := 38) (n := 36) dX6_tryWay_5 (by decide) (by decide) rfl hi ?_
  refine go_istore (lm := [some (.ref (gd g 7)), some (.int x1), some (.int x2), some (.int x3), some (.int x4), some (.int (u.2 38 x1.toNatClampNeg)), none, none, none, none]) dX6_tryWay_6 (by decide) rfl rfl ?_
  refine go_aload_n dX6_tryWay_8 rfl rfl ?_
  refine go_get (k := 4) (v := .ref (gd g 38)) dX6_tryWay_9 ob_7 (by decide) qf_X6_19 rfl ?_
  refine go_bipush (v := 9) dX6_tryWay_12 (by decide) ?_
  refine go_iload_n dX6_tryWay_14 rfl rfl ?_
  refine go_iadd dX6_tryWay_15 ?_
  obtain ⟨hi, h⟩ := h
  refine go_ild (a := 38) (n := 36) dX6_tryWay_16 (by decide) (by decide) rfl hi ?_
  refine go_istore (lm := [some (.ref (gd g 7)), some (.int x1), some (.int x2), some (.int x3), some (.int x4), some (.int (u.2 38 x1.toNatClampNeg)), some (.int (u.2 38 (9 + x2).toNatClampNeg)), none, none, none]) dX6_tryWay_17 (by decide) rfl rfl ?_
  refine go_aload_n dX6_tryWay_19 rfl rfl ?_
  refine go_get (k := 4) (v := .ref (gd g 38)) dX6_tryWay_20 ob_7 (by decide) qf_X6_19 rfl ?_
  refine go_bipush (v := 18) dX6_tryWay_23 (by decide) ?_
  refine go_iload_n dX6_tryWay_25 rfl rfl ?_
  refine go_iadd dX6_tryWay_26 ?_
  obtain ⟨hi, h⟩ := h
  refine go_ild (a := 38) (n := 36) dX6_tryWay_27 (by decide) (by decide) rfl hi ?_
  refine go_istore (lm := [some (.ref (gd g 7)), some (.int x1), some (.int x2), some (.int x3), some (.int x4), some (.int (u.2 38 x1.toNatClampNeg)), some (.int (u.2 38 (9 + x2).toNatClampNeg)), some (.int (u.2 38 (18 + x3).toNatClampNeg)), none, none]) dX6_tryWay_28 (by decide) rfl rfl ?_
  refine go_aload_n dX6_tryWay_30 rfl rfl ?_
  refine go_get (k := 4) (v := .ref (gd g 38)) dX6_tryWay_31 ob_7 (by decide) qf_X6_19 rfl ?_
  refine go_bipush (v := 27) dX6_tryWay_34 (by decide) ?_
  refine go_iload dX6_tryWay_36 rfl ?_
  refine go_iadd dX6_tryWay_38 ?_
  obtain ⟨hi, h⟩ := h
  refine go_ild (a := 38) (n := 36) dX6_tryWay_39 (by decide) (by decide) rfl hi ?_
  refine go_istore (lm := [some (.ref (gd g 7)), some (.int x1), some (.int x2), some (.int x3), some (.int x4), some (.int (u.2 38 x1.toNatClampNeg)), some (.int (u.2 38 (9 + x2).toNatClampNeg)), some (.int (u.2 38 (18 + x3).toNatClampNeg)), some (.int (u.2 38 (27 + x4).toNatClampNeg)), none]) dX6_tryWay_40 (by decide) rfl rfl ?_
  refine go_iload dX6_tryWay_42 rfl ?_
  refine go_iconst (v := (-1)) dX6_tryWay_44 (by decide) ?_
  refine go_icmp_eq (tgt := 66) dX6_tryWay_45 (by decide) (fun hc => ?_) (fun hc => ?_)
  · replace h := h.1 hc
    exact go_vret dX6_tryWay_66 rfl h
  · replace h := h.2 hc
    refine go_iload dX6_tryWay_48 rfl ?_
    refine go_iconst (v := (-1)) dX6_tryWay_50 (by decide) ?_
    refine go_icmp_eq (tgt := 66) dX6_tryWay_51 (by decide) (fun hc => ?_) (fun hc => ?_)
    · replace h := h.1 hc
      exact go_vret dX6_tryWay_66 rfl h
    · replace h := h.2 hc
      refine go_iload dX6_tryWay_54 rfl ?_
      refine go_iconst (v := (-1)) dX6_tryWay_56 (by decide) ?_
      refine go_icmp_eq (tgt := 66) dX6_tryWay_57 (by decide) (fun hc => ?_) (fun hc => ?_)
      · replace h := h.1 hc
        exact go_vret dX6_tryWay_66 rfl h
      · replace h := h.2 hc
        refine go_iload dX6_tryWay_60 rfl ?_
        refine go_iconst (v := (-1)) dX6_tryWay_62 (by decide) ?_
        refine go_icmp_ne (tgt := 67) dX6_tryWay_63 (by decide) (fun hc => ?_) (fun hc => ?_)
        · replace h := h.1 hc
          refine go_iload dX6_tryWay_67 rfl ?_
          refine go_iload dX6_tryWay_69 rfl ?_
          refine go_iadd dX6_tryWay_71 ?_
          refine go_iload dX6_tryWay_72 rfl ?_
          refine go_iadd dX6_tryWay_74 ?_
          refine go_iload dX6_tryWay_75 rfl ?_
          refine go_iadd dX6_tryWay_77 ?_
          refine go_istore (lm := [some (.ref (gd g 7)), some (.int x1), some (.int x2), some (.int x3), some (.int x4), some (.int (u.2 38 x1.toNatClampNeg)), some (.int (u.2 38 (9 + x2).toNatClampNeg)), some (.int (u.2 38 (18 + x3).toNatClampNeg)), some (.int (u.2 38 (27 + x4).toNatClampNeg)), some (.int ((((u.2 38 x1.toNatClampNeg) + (u.2 38 (9 + x2).toNatClampNeg)) + (u.2 38 (18 + x3).toNatClampNeg)) + (u.2 38 (27 + x4).toNatClampNeg)))]) dX6_tryWay_78 (by decide) rfl rfl ?_
          refine go_aload_n dX6_tryWay_80 rfl rfl ?_
          refine go_get (k := 6) (v := .int (u.1 7 6)) dX6_tryWay_81 ob_7 (by decide) qf_X6_33 rfl ?_
          refine go_iconst (v := (-1)) dX6_tryWay_84 (by decide) ?_
          refine go_icmp_eq (tgt := 97) dX6_tryWay_85 (by decide) (fun hc => ?_) (fun hc => ?_)
          · replace h := h.1 hc
            refine go_mask [true, true, true, true, true, false, false, false, false, true] rfl ?_
            exact h
          · replace h := h.2 hc
            refine go_iload dX6_tryWay_88 rfl ?_
            refine go_aload_n dX6_tryWay_90 rfl rfl ?_
            refine go_get (k := 6) (v := .int (u.1 7 6)) dX6_tryWay_91 ob_7 (by decide) qf_X6_33 rfl ?_
            refine go_icmp_ge (tgt := 132) dX6_tryWay_94 (by decide) (fun hc => ?_) (fun hc => ?_)
            · replace h := h.1 hc
              exact go_vret dX6_tryWay_132 rfl h
            · replace h := h.2 hc
              refine go_mask [true, true, true, true, true, false, false, false, false, true] rfl ?_
              exact h
        · replace h := h.2 hc
          exact go_vret dX6_tryWay_66 rfl h
set_option maxRecDepth 100000 in
set_option maxHeartbeats 4000000 in
theorem B_X6_tryWay_97 {g : gp} {u : sg} {Q : Option Value → sg → Prop} (x1 : Int32) (x2 : Int32) (x3 : Int32) (x4 : Int32) (x9 : Int32) (h : (vp_in (0 : Int32) 4 ∧ (vp_in (1 : Int32) 4 ∧ (vp_in (2 : Int32) 4 ∧ (vp_in (3 : Int32) 4 ∧ Q none (sA (sA (sA (sA (sI u 7 6 x9) 39 (0 : Int32).toNatClampNeg x1) 39 (1 : Int32).toNatClampNeg x2) 39 (2 : Int32).toNatClampNeg x3) 39 (3 : Int32).toNatClampNeg x4)))))) : Go g iX6_tryWay 97 [some (.ref (gd g 7)), some (.int x1), some (.int x2), some (.int x3), some (.int x4), none, none, none, none, some (.int x9)] [] u Q := by
  refine go_aload_n dX6_tryWay_97 rfl rfl ?_
  refine go_iload dX6_tryWay_98 rfl ?_
  refine go_put (k := 6) dX6_tryWay_100 ob_7 (by decide) qf_X6_33 rfl rfl pf_I ?_
  refine go_aload_n dX6_tryWay_103 rfl rfl ?_
  refine go_get (k := 5) (v := .ref (gd g 39)) dX6_tryWay_104 ob_7 (by decide) qf_X6_22 rfl ?_
  refine go_iconst (v := 0) dX6_tryWay_107 (by decide) ?_
  refine go_iload_n dX6_tryWay_108 rfl rfl ?_
  obtain ⟨hi, h⟩ := h
  refine go_ist (a := 39) (n := 4) dX6_tryWay_109 (by decide) (by decide) rfl hi ?_
  refine go_aload_n dX6_tryWay_110 rfl rfl ?_
  refine go_get (k := 5) (v := .ref (gd g 39)) dX6_tryWay_111 ob_7 (by decide) qf_X6_22 rfl ?_
  refine go_iconst (v := 1) dX6_tryWay_114 (by decide) ?_
  refine go_iload_n dX6_tryWay_115 rfl rfl ?_
  obtain ⟨hi, h⟩ := h
  refine go_ist (a := 39) (n := 4) dX6_tryWay_116 (by decide) (by decide) rfl hi ?_
  refine go_aload_n dX6_tryWay_117 rfl rfl ?_
  refine go_get (k := 5) (v := .ref (gd g 39)) dX6_tryWay_118 ob_7 (by decide) qf_X6_22 rfl ?_
  refine go_iconst (v := 2) dX6_tryWay_121 (by decide) ?_
  refine go_iload_n dX6_tryWay_122 rfl rfl ?_
  obtain ⟨hi, h⟩ := h
  refine go_ist (a := 39) (n := 4) dX6_tryWay_123 (by decide) (by decide) rfl hi ?_
  refine go_aload_n dX6_tryWay_124 rfl rfl ?_
  refine go_get (k := 5) (v := .ref (gd g 39)) dX6_tryWay_125 ob_7 (by decide) qf_X6_22 rfl ?_
  refine go_iconst (v := 3) dX6_tryWay_128 (by decide) ?_
  refine go_iload dX6_tryWay_129 rfl ?_
  obtain ⟨hi, h⟩ := h
  refine go_ist (a := 39) (n := 4) dX6_tryWay_131 (by decide) (by decide) rfl hi ?_
  exact go_vret dX6_tryWay_132 rfl h
set_option maxRecDepth 100000 in
set_option maxHeartbeats 4000000 in
theorem B_X6_waitedAt_0 {g : gp} {u : sg} {Q : Option Value → sg → Prop} (x1 : Int32) (x2 : Int32) (x3 : Int32) (h : Go g iX6_waitedAt 3 [some (.ref (gd g 7)), some (.int x1), some (.int x2), some (.int x3), some (.int 0), none, none, none] [] u Q) : Go g iX6_waitedAt 0 [some (.ref (gd g 7)), some (.int x1), some (.int x2), some (.int x3), none, none, none, none] [] u Q := by
  refine go_iconst (v := 0) dX6_waitedAt_0 (by decide) ?_
  refine go_istore (lm := [some (.ref (gd g 7)), some (.int x1), some (.int x2), some (.int x3), some (.int 0), none, none, none]) dX6_waitedAt_1 (by decide) rfl rfl ?_
  exact h
set_option maxRecDepth 100000 in
set_option maxHeartbeats 4000000 in
theorem B_X6_waitedAt_3 {g : gp} {u : sg} {Q : Option Value → sg → Prop} (x1 : Int32) (x2 : Int32) (x3 : Int32) (x4 : Int32) (h : ((x2 ≤ x4 → Go g iX6_waitedAt 29 [some (.ref (gd g 7)), some (.int x1), some (.int x2), some (.int x3), some (.int 0), some (.int 0), none, none] [] u Q) ∧ (¬ x2 ≤ x4 → (vp_in x4 8 ∧ Go g iX6_waitedAt 3 [some (.ref (gd g 7)), some (.int x1), some (.int x2), some (.int x3), some (.int (x4 + 1)), none, none, none] [] (sA u 37 x4.toNatClampNeg (0 : Int32)) Q)))) : Go g iX6_waitedAt 3 [some (.ref (gd g 7)), some (.int x1), some (.int x2), some (.int x3), some (.int x4), none, none, none] [] u Q := by
  refine go_iload dX6_waitedAt_3 rfl ?_
  refine go_iload_n dX6_waitedAt_5 rfl rfl ?_
  refine go_icmp_ge (tgt := 23) dX6_waitedAt_6 (by decide) (fun hc => ?_) (fun hc => ?_)
  · replace h := h.1 hc
    refine go_iconst (v := 0) dX6_waitedAt_23 (by decide) ?_
    refine go_istore (lm := [some (.ref (gd g 7)), some (.int x1), some (.int x2), some (.int x3), some (.int 0), none, none, none]) dX6_waitedAt_24 (by decide) rfl rfl ?_
    refine go_iconst (v := 0) dX6_waitedAt_26 (by decide) ?_
    refine go_istore (lm := [some (.ref (gd g 7)), some (.int x1), some (.int x2), some (.int x3), some (.int 0), some (.int 0), none, none]) dX6_waitedAt_27 (by decide) rfl rfl ?_
    exact h
  · replace h := h.2 hc
    refine go_aload_n dX6_waitedAt_9 rfl rfl ?_
    refine go_get (k := 3) (v := .ref (gd g 37)) dX6_waitedAt_10 ob_7 (by decide) qf_X6_16 rfl ?_
    refine go_iload dX6_waitedAt_13 rfl ?_
    refine go_iconst (v := 0) dX6_waitedAt_15 (by decide) ?_
    obtain ⟨hi, h⟩ := h
    refine go_ist (a := 37) (n := 8) dX6_waitedAt_16 (by decide) (by decide) rfl hi ?_
    refine go_iinc (v := x4 + 1) (lm := [some (.ref (gd g 7)), some (.int x1), some (.int x2), some (.int x3), some (.int (x4 + 1)), none, none, none]) dX6_waitedAt_17 rfl rfl (by decide) rfl rfl ?_
    refine go_goto (tgt := 3) dX6_waitedAt_20 (by decide) ?_
    exact h
set_option maxRecDepth 100000 in
set_option maxHeartbeats 4000000 in
theorem B_X6_waitedAt_29 {g : gp} {u : sg} {Q : Option Value → sg → Prop} (x1 : Int32) (x2 : Int32) (x3 : Int32) (x4 : Int32) (x5 : Int32) (h : (((u.1 7 2) ≤ x5 → Q (some (.int x4)) u) ∧ (¬ (u.1 7 2) ≤ x5 → (vp_in x5 20 ∧ ((¬ (u.2 36 x5.toNatClampNeg) = x1 → Go g iX6_waitedAt 29 [some (.ref (gd g 7)), some (.int x1), some (.int x2), some (.int x3), some (.int x4), some (.int (x5 + 1)), none, none] [] u Q) ∧ ((u.2 36 x5.toNatClampNeg) = x1 → ((¬ x2 = (0 : Int32) → Go g iX6_firstFree 0 [some (.ref (gd g 7)), some (.int x2), none, none] [] u (QI (fun r1 u1 => (vp_in x5 20 ∧ (vp_in r1 8 ∧ (vp_in x5 20 ∧ (vp_in r1 8 ∧ Go g iX6_waitedAt 29 [some (.ref (gd g 7)), some (.int x1), some (.int x2), some (.int x3), some (.int (x4 + ((if (u1.2 35 x5.toNatClampNeg) < (u1.2 37 r1.toNatClampNeg) then (u1.2 37 r1.toNatClampNeg) else (u1.2 35 x5.toNatClampNeg)) - (u1.2 35 x5.toNatClampNeg)))), some (.int (x5 + 1)), none, none] [] (sA u1 37 r1.toNatClampNeg ((if (u1.2 35 x5.toNatClampNeg) < (u1.2 37 r1.toNatClampNeg) then (u1.2 37 r1.toNatClampNeg) else (u1.2 35 x5.toNatClampNeg)) + x3)) Q))))))) ∧ (x2 = (0 : Int32) → Q (some (.int (-1 : Int32))) u)))))))) : Go g iX6_waitedAt 29 [some (.ref (gd g 7)), some (.int x1), some (.int x2), some (.int x3), some (.int x4), some (.int x5), none, none] [] u Q := by
  refine go_iload dX6_waitedAt_29 rfl ?_
  refine go_aload_n dX6_waitedAt_31 rfl rfl ?_
  refine go_get (k := 2) (v := .int (u.1 7 2)) dX6_waitedAt_32 ob_7 (by decide) qf_X6_25 rfl ?_
  refine go_icmp_ge (tgt := 113) dX6_waitedAt_35 (by decide) (fun hc => ?_) (fun hc => ?_)
  · replace h := h.1 hc
    refine go_iload dX6_waitedAt_113 rfl ?_
    exact go_iret dX6_waitedAt_115 rfl h
  · replace h := h.2 hc
    refine go_aload_n dX6_waitedAt_38 rfl rfl ?_
    refine go_get (k := 1) (v := .ref (gd g 36)) dX6_waitedAt_39 ob_7 (by decide) qf_X6_13 rfl ?_
    refine go_iload dX6_waitedAt_42 rfl ?_
    obtain ⟨hi, h⟩ := h
    refine go_ild (a := 36) (n := 20) dX6_waitedAt_44 (by decide) (by decide) rfl hi ?_
    refine go_iload_n dX6_waitedAt_45 rfl rfl ?_
    refine go_icmp_ne (tgt := 107) dX6_waitedAt_46 (by decide) (fun hc => ?_) (fun hc => ?_)
    · replace h := h.1 hc
      refine go_iinc (v := x5 + 1) (lm := [some (.ref (gd g 7)), some (.int x1), some (.int x2), some (.int x3), some (.int x4), some (.int (x5 + 1)), none, none]) dX6_waitedAt_107 rfl rfl (by decide) rfl rfl ?_
      refine go_goto (tgt := 29) dX6_waitedAt_110 (by decide) ?_
      exact h
    · replace h := h.2 hc
      refine go_iload_n dX6_waitedAt_49 rfl rfl ?_
      refine go_if_ne (tgt := 55) dX6_waitedAt_50 (by decide) (fun hc => ?_) (fun hc => ?_)
      · replace h := h.1 hc
        refine go_aload_n dX6_waitedAt_55 rfl rfl ?_
        refine go_iload_n dX6_waitedAt_56 rfl rfl ?_
        refine go_cVi (o := 7) (As := [.int x2]) (st := []) (lc := [some (.ref (gd g 7)), some (.int x2), none, none]) dX6_waitedAt_57 me_X6_firstFree rfl ob_7 qm_X6_40 rfl (Nat.le_of_ble_eq_true rfl) rfl ⟨Nat.le_of_ble_eq_true rfl, Nat.le_of_ble_eq_true rfl⟩ rfl (Nat.le_of_ble_eq_true rfl) h (fun r1 u1 h => ?_)
        refine go_istore (lm := [some (.ref (gd g 7)), some (.int x1), some (.int x2), some (.int x3), some (.int x4), some (.int x5), some (.int r1), none]) dX6_waitedAt_60 (by decide) rfl rfl ?_
        refine go_aload_n dX6_waitedAt_62 rfl rfl ?_
        refine go_get (k := 0) (v := .ref (gd g 35)) dX6_waitedAt_63 ob_7 (by decide) qf_X6_9 rfl ?_
        refine go_iload dX6_waitedAt_66 rfl ?_
        obtain ⟨hi, h⟩ := h
        refine go_ild (a := 35) (n := 20) dX6_waitedAt_68 (by decide) (by decide) rfl hi ?_
        refine go_aload_n dX6_waitedAt_69 rfl rfl ?_
        refine go_get (k := 3) (v := .ref (gd g 37)) dX6_waitedAt_70 ob_7 (by decide) qf_X6_16 rfl ?_
        refine go_iload dX6_waitedAt_73 rfl ?_
        obtain ⟨hi, h⟩ := h
        refine go_ild (a := 37) (n := 8) dX6_waitedAt_75 (by decide) (by decide) rfl hi ?_
        refine go_mmax dX6_waitedAt_76 qm_X6_44 ⟨Nat.le_of_ble_eq_true rfl, Nat.le_of_ble_eq_true rfl⟩ ?_
        refine go_istore (lm := [some (.ref (gd g 7)), some (.int x1), some (.int x2), some (.int x3), some (.int x4), some (.int x5), some (.int r1), some (.int (if (u1.2 35 x5.toNatClampNeg) < (u1.2 37 r1.toNatClampNeg) then (u1.2 37 r1.toNatClampNeg) else (u1.2 35 x5.toNatClampNeg)))]) dX6_waitedAt_79 (by decide) rfl rfl ?_
        refine go_iload dX6_waitedAt_81 rfl ?_
        refine go_iload dX6_waitedAt_83 rfl ?_
        refine go_aload_n dX6_waitedAt_85 rfl rfl ?_
        refine go_get (k := 0) (v := .ref (gd g 35)) dX6_waitedAt_86 ob_7 (by decide) qf_X6_9 rfl ?_
        refine go_iload dX6_waitedAt_89 rfl ?_
        obtain ⟨hi, h⟩ := h
        refine go_ild (a := 35) (n := 20) dX6_waitedAt_91 (by decide) (by decide) rfl hi ?_
        refine go_isub dX6_waitedAt_92 ?_
        refine go_iadd dX6_waitedAt_93 ?_
        refine go_istore (lm := [some (.ref (gd g 7)), some (.int x1), some (.int x2), some (.int x3), some (.int (x4 + ((if (u1.2 35 x5.toNatClampNeg) < (u1.2 37 r1.toNatClampNeg) then (u1.2 37 r1.toNatClampNeg) else (u1.2 35 x5.toNatClampNeg)) - (u1.2 35 x5.toNatClampNeg)))), some (.int x5), some (.int r1), some (.int (if (u1.2 35 x5.toNatClampNeg) < (u1.2 37 r1.toNatClampNeg) then (u1.2 37 r1.toNatClampNeg) else (u1.2 35 x5.toNatClampNeg)))]) dX6_waitedAt_94 (by decide) rfl rfl ?_
        refine go_aload_n dX6_waitedAt_96 rfl rfl ?_
        refine go_get (k := 3) (v := .ref (gd g 37)) dX6_waitedAt_97 ob_7 (by decide) qf_X6_16 rfl ?_
        refine go_iload dX6_waitedAt_100 rfl ?_
        refine go_iload dX6_waitedAt_102 rfl ?_
        refine go_iload_n dX6_waitedAt_104 rfl rfl ?_
        refine go_iadd dX6_waitedAt_105 ?_
        obtain ⟨hi, h⟩ := h
        refine go_ist (a := 37) (n := 8) dX6_waitedAt_106 (by decide) (by decide) rfl hi ?_
        refine go_iinc (v := x5 + 1) (lm := [some (.ref (gd g 7)), some (.int x1), some (.int x2), some (.int x3), some (.int (x4 + ((if (u1.2 35 x5.toNatClampNeg) < (u1.2 37 r1.toNatClampNeg) then (u1.2 37 r1.toNatClampNeg) else (u1.2 35 x5.toNatClampNeg)) - (u1.2 35 x5.toNatClampNeg)))), some (.int (x5 + 1)), some (.int r1), some (.int (if (u1.2 35 x5.toNatClampNeg) < (u1.2 37 r1.toNatClampNeg) then (u1.2 37 r1.toNatClampNeg) else (u1.2 35 x5.toNatClampNeg)))]) dX6_waitedAt_107 rfl rfl (by decide) rfl rfl ?_
        refine go_goto (tgt := 29) dX6_waitedAt_110 (by decide) ?_
        refine go_mask [true, true, true, true, true, true, false, false] rfl ?_
        exact h
      · replace h := h.2 hc
        refine go_iconst (v := (-1)) dX6_waitedAt_53 (by decide) ?_
        exact go_iret dX6_waitedAt_54 rfl h
set_option maxRecDepth 100000 in
set_option maxHeartbeats 4000000 in
theorem B_X6_firstFree_0 {g : gp} {u : sg} {Q : Option Value → sg → Prop} (x1 : Int32) (h : Go g iX6_firstFree 4 [some (.ref (gd g 7)), some (.int x1), some (.int 0), some (.int 1)] [] u Q) : Go g iX6_firstFree 0 [some (.ref (gd g 7)), some (.int x1), none, none] [] u Q := by
  refine go_iconst (v := 0) dX6_firstFree_0 (by decide) ?_
  refine go_istore_n (lm := [some (.ref (gd g 7)), some (.int x1), some (.int 0), none]) dX6_firstFree_1 rfl (by decide) rfl rfl ?_
  refine go_iconst (v := 1) dX6_firstFree_2 (by decide) ?_
  refine go_istore_n (lm := [some (.ref (gd g 7)), some (.int x1), some (.int 0), some (.int 1)]) dX6_firstFree_3 rfl (by decide) rfl rfl ?_
  exact h
set_option maxRecDepth 100000 in
set_option maxHeartbeats 4000000 in
theorem B_X6_firstFree_4 {g : gp} {u : sg} {Q : Option Value → sg → Prop} (x1 : Int32) (x2 : Int32) (x3 : Int32) (h : ((x1 ≤ x3 → Q (some (.int x2)) u) ∧ (¬ x1 ≤ x3 → (vp_in x3 8 ∧ (vp_in x2 8 ∧ (((u.2 37 x2.toNatClampNeg) ≤ (u.2 37 x3.toNatClampNeg) → Go g iX6_firstFree 4 [some (.ref (gd g 7)), some (.int x1), some (.int x2), some (.int (x3 + 1))] [] u Q) ∧ (¬ (u.2 37 x2.toNatClampNeg) ≤ (u.2 37 x3.toNatClampNeg) → Go g iX6_firstFree 4 [some (.ref (gd g 7)), some (.int x1), some (.int x3), some (.int (x3 + 1))] [] u Q))))))) : Go g iX6_firstFree 4 [some (.ref (gd g 7)), some (.int x1), some (.int x2), some (.int x3)] [] u Q := by
  refine go_iload_n dX6_firstFree_4 rfl rfl ?_
  refine go_iload_n dX6_firstFree_5 rfl rfl ?_
  refine go_icmp_ge (tgt := 32) dX6_firstFree_6 (by decide) (fun hc => ?_) (fun hc => ?_)
  · replace h := h.1 hc
    refine go_iload_n dX6_firstFree_32 rfl rfl ?_
    exact go_iret dX6_firstFree_33 rfl h
  · replace h := h.2 hc
    refine go_aload_n dX6_firstFree_9 rfl rfl ?_
    refine go_get (k := 3) (v := .ref (gd g 37)) dX6_firstFree_10 ob_7 (by decide) qf_X6_16 rfl ?_
    refine go_iload_n dX6_firstFree_13 rfl rfl ?_
    obtain ⟨hi, h⟩ := h
    refine go_ild (a := 37) (n := 8) dX6_firstFree_14 (by decide) (by decide) rfl hi ?_
    refine go_aload_n dX6_firstFree_15 rfl rfl ?_
    refine go_get (k := 3) (v := .ref (gd g 37)) dX6_firstFree_16 ob_7 (by decide) qf_X6_16 rfl ?_
    refine go_iload_n dX6_firstFree_19 rfl rfl ?_
    obtain ⟨hi, h⟩ := h
    refine go_ild (a := 37) (n := 8) dX6_firstFree_20 (by decide) (by decide) rfl hi ?_
    refine go_icmp_ge (tgt := 26) dX6_firstFree_21 (by decide) (fun hc => ?_) (fun hc => ?_)
    · replace h := h.1 hc
      refine go_iinc (v := x3 + 1) (lm := [some (.ref (gd g 7)), some (.int x1), some (.int x2), some (.int (x3 + 1))]) dX6_firstFree_26 rfl rfl (by decide) rfl rfl ?_
      refine go_goto (tgt := 4) dX6_firstFree_29 (by decide) ?_
      exact h
    · replace h := h.2 hc
      refine go_iload_n dX6_firstFree_24 rfl rfl ?_
      refine go_istore_n (lm := [some (.ref (gd g 7)), some (.int x1), some (.int x3), some (.int x3)]) dX6_firstFree_25 rfl (by decide) rfl rfl ?_
      refine go_iinc (v := x3 + 1) (lm := [some (.ref (gd g 7)), some (.int x1), some (.int x3), some (.int (x3 + 1))]) dX6_firstFree_26 rfl rfl (by decide) rfl rfl ?_
      refine go_goto (tgt := 4) dX6_firstFree_29 (by decide) ?_
      exact h
set_option maxRecDepth 100000 in
set_option maxHeartbeats 4000000 in
theorem B_X9_addGuest_0 {g : gp} {u : sg} {Q : Option Value → sg → Prop} (x1 : Int32) (x2 : Int32) (x3 : Int32) (x4 : Int32) (h : (vp_in (u.1 10 4) 40 ∧ (vp_in (u.1 10 4) 40 ∧ (vp_in (u.1 10 4) 40 ∧ (vp_in (u.1 10 4) 40 ∧ Q (some (.int ((u.1 10 4) + 1))) (sI (sA (sA (sA (sA u 44 (u.1 10 4).toNatClampNeg x1) 45 (u.1 10 4).toNatClampNeg x2) 46 (u.1 10 4).toNatClampNeg x3) 47 (u.1 10 4).toNatClampNeg x4) 10 4 ((u.1 10 4) + 1))))))) : Go g iX9_addGuest 0 [some (.ref (gd g 10)), some (.int x1), some (.int x2), some (.int x3), some (.int x4)] [] u Q := by
  refine go_aload_n dX9_addGuest_0 rfl rfl ?_
  refine go_get (k := 0) (v := .ref (gd g 44)) dX9_addGuest_1 ob_10 (by decide) qf_X9_11 rfl ?_
  refine go_aload_n dX9_addGuest_4 rfl rfl ?_
  refine go_get (k := 4) (v := .int (u.1 10 4)) dX9_addGuest_5 ob_10 (by decide) qf_X9_27 rfl ?_
  refine go_iload_n dX9_addGuest_8 rfl rfl ?_
  obtain ⟨hi, h⟩ := h
  refine go_ist (a := 44) (n := 40) dX9_addGuest_9 (by decide) (by decide) rfl hi ?_
  refine go_aload_n dX9_addGuest_10 rfl rfl ?_
  refine go_get (k := 1) (v := .ref (gd g 45)) dX9_addGuest_11 ob_10 (by decide) qf_X9_15 rfl ?_
  refine go_aload_n dX9_addGuest_14 rfl rfl ?_
  refine go_get (k := 4) (v := .int (u.1 10 4)) dX9_addGuest_15 ob_10 (by decide) qf_X9_27 rfl ?_
  refine go_iload_n dX9_addGuest_18 rfl rfl ?_
  obtain ⟨hi, h⟩ := h
  refine go_ist (a := 45) (n := 40) dX9_addGuest_19 (by decide) (by decide) rfl hi ?_
  refine go_aload_n dX9_addGuest_20 rfl rfl ?_
  refine go_get (k := 2) (v := .ref (gd g 46)) dX9_addGuest_21 ob_10 (by decide) qf_X9_18 rfl ?_
  refine go_aload_n dX9_addGuest_24 rfl rfl ?_
  refine go_get (k := 4) (v := .int (u.1 10 4)) dX9_addGuest_25 ob_10 (by decide) qf_X9_27 rfl ?_
  refine go_iload_n dX9_addGuest_28 rfl rfl ?_
  obtain ⟨hi, h⟩ := h
  refine go_ist (a := 46) (n := 40) dX9_addGuest_29 (by decide) (by decide) rfl hi ?_
  refine go_aload_n dX9_addGuest_30 rfl rfl ?_
  refine go_get (k := 3) (v := .ref (gd g 47)) dX9_addGuest_31 ob_10 (by decide) qf_X9_21 rfl ?_
  refine go_aload_n dX9_addGuest_34 rfl rfl ?_
  refine go_get (k := 4) (v := .int (u.1 10 4)) dX9_addGuest_35 ob_10 (by decide) qf_X9_27 rfl ?_
  refine go_iload dX9_addGuest_38 rfl ?_
  obtain ⟨hi, h⟩ := h
  refine go_ist (a := 47) (n := 40) dX9_addGuest_40 (by decide) (by decide) rfl hi ?_
  refine go_aload_n dX9_addGuest_41 rfl rfl ?_
  refine go_dup dX9_addGuest_42 rfl ?_
  refine go_get (k := 4) (v := .int (u.1 10 4)) dX9_addGuest_43 ob_10 (by decide) qf_X9_27 rfl ?_
  refine go_iconst (v := 1) dX9_addGuest_46 (by decide) ?_
  refine go_iadd dX9_addGuest_47 ?_
  refine go_put (k := 4) dX9_addGuest_48 ob_10 (by decide) qf_X9_27 rfl rfl pf_I ?_
  refine go_aload_n dX9_addGuest_51 rfl rfl ?_
  refine go_get (k := 4) (v := .int ((u.1 10 4) + 1)) dX9_addGuest_52 ob_10 (by decide) qf_X9_27 rfl ?_
  exact go_iret dX9_addGuest_55 rfl h
set_option maxRecDepth 100000 in
set_option maxHeartbeats 4000000 in
theorem B_X9_addCase_0 {g : gp} {u : sg} {Q : Option Value → sg → Prop} (x1 : Int32) (x2 : Int32) (h : (vp_in x1 8 ∧ (((u.2 48 x1.toNatClampNeg) = (-1 : Int32) → (vp_in x1 8 ∧ Q (some (.int (1 : Int32))) (sA u 48 x1.toNatClampNeg x2))) ∧ (¬ (u.2 48 x1.toNatClampNeg) = (-1 : Int32) → (vp_in x1 8 ∧ ((x2 < (u.2 48 x1.toNatClampNeg) → (vp_in x1 8 ∧ Q (some (.int (1 : Int32))) (sA u 48 x1.toNatClampNeg x2))) ∧ (¬ x2 < (u.2 48 x1.toNatClampNeg) → Q (some (.int (0 : Int32))) u))))))) : Go g iX9_addCase 0 [some (.ref (gd g 10)), some (.int x1), some (.int x2)] [] u Q := by
  refine go_aload_n dX9_addCase_0 rfl rfl ?_
  refine go_get (k := 5) (v := .ref (gd g 48)) dX9_addCase_1 ob_10 (by decide) qf_X9_24 rfl ?_
  refine go_iload_n dX9_addCase_4 rfl rfl ?_
  obtain ⟨hi, h⟩ := h
  refine go_ild (a := 48) (n := 8) dX9_addCase_5 (by decide) (by decide) rfl hi ?_
  refine go_iconst (v := (-1)) dX9_addCase_6 (by decide) ?_
  refine go_icmp_eq (tgt := 22) dX9_addCase_7 (by decide) (fun hc => ?_) (fun hc => ?_)
  · replace h := h.1 hc
    refine go_aload_n dX9_addCase_22 rfl rfl ?_
    refine go_get (k := 5) (v := .ref (gd g 48)) dX9_addCase_23 ob_10 (by decide) qf_X9_24 rfl ?_
    refine go_iload_n dX9_addCase_26 rfl rfl ?_
    refine go_iload_n dX9_addCase_27 rfl rfl ?_
    obtain ⟨hi, h⟩ := h
    refine go_ist (a := 48) (n := 8) dX9_addCase_28 (by decide) (by decide) rfl hi ?_
    refine go_iconst (v := 1) dX9_addCase_29 (by decide) ?_
    exact go_zret dX9_addCase_30 rfl (by decide) h
  · replace h := h.2 hc
    refine go_aload_n dX9_addCase_10 rfl rfl ?_
    refine go_get (k := 5) (v := .ref (gd g 48)) dX9_addCase_11 ob_10 (by decide) qf_X9_24 rfl ?_
    refine go_iload_n dX9_addCase_14 rfl rfl ?_
    obtain ⟨hi, h⟩ := h
    refine go_ild (a := 48) (n := 8) dX9_addCase_15 (by decide) (by decide) rfl hi ?_
    refine go_iload_n dX9_addCase_16 rfl rfl ?_
    refine go_icmp_gt (tgt := 22) dX9_addCase_17 (by decide) (fun hc => ?_) (fun hc => ?_)
    · replace h := h.1 hc
      refine go_aload_n dX9_addCase_22 rfl rfl ?_
      refine go_get (k := 5) (v := .ref (gd g 48)) dX9_addCase_23 ob_10 (by decide) qf_X9_24 rfl ?_
      refine go_iload_n dX9_addCase_26 rfl rfl ?_
      refine go_iload_n dX9_addCase_27 rfl rfl ?_
      obtain ⟨hi, h⟩ := h
      refine go_ist (a := 48) (n := 8) dX9_addCase_28 (by decide) (by decide) rfl hi ?_
      refine go_iconst (v := 1) dX9_addCase_29 (by decide) ?_
      exact go_zret dX9_addCase_30 rfl (by decide) h
    · replace h := h.2 hc
      refine go_iconst (v := 0) dX9_addCase_20 (by decide) ?_
      exact go_zret dX9_addCase_21 rfl (by decide) h
set_option maxRecDepth 100000 in
set_option maxHeartbeats 4000000 in
theorem B_X9_housesWithCases_0 {g : gp} {u : sg} {Q : Option Value → sg → Prop}  (h : Go g iX9_housesWithCases 4 [some (.ref (gd g 10)), some (.int 0), some (.int 0)] [] u Q) : Go g iX9_housesWithCases 0 [some (.ref (gd g 10)), none, none] [] u Q := by
  refine go_iconst (v := 0) dX9_housesWithCases_0 (by decide) ?_
  refine go_istore_n (lm := [some (.ref (gd g 10)), some (.int 0), none]) dX9_housesWithCases_1 rfl (by decide) rfl rfl ?_
  refine go_iconst (v := 0) dX9_housesWithCases_2 (by decide) ?_
  refine go_istore_n (lm := [some (.ref (gd g 10)), some (.int 0), some (.int 0)]) dX9_housesWithCases_3 rfl (by decide) rfl rfl ?_
  exact h
set_option maxRecDepth 100000 in
set_option maxHeartbeats 4000000 in
theorem B_X9_housesWithCases_4 {g : gp} {u : sg} {Q : Option Value → sg → Prop} (x1 : Int32) (x2 : Int32) (h : (((8 : Int32) ≤ x2 → Q (some (.int x1)) u) ∧ (¬ (8 : Int32) ≤ x2 → (vp_in x2 8 ∧ (((u.2 48 x2.toNatClampNeg) = (-1 : Int32) → Go g iX9_housesWithCases 4 [some (.ref (gd g 10)), some (.int x1), some (.int (x2 + 1))] [] u Q) ∧ (¬ (u.2 48 x2.toNatClampNeg) = (-1 : Int32) → Go g iX9_housesWithCases 4 [some (.ref (gd g 10)), some (.int (x1 ||| (1 <<< (x2 &&& 31)))), some (.int (x2 + 1))] [] u Q)))))) : Go g iX9_housesWithCases 4 [some (.ref (gd g 10)), some (.int x1), some (.int x2)] [] u Q := by
  refine go_iload_n dX9_housesWithCases_4 rfl rfl ?_
  refine go_bipush (v := 8) dX9_housesWithCases_5 (by decide) ?_
  refine go_icmp_ge (tgt := 32) dX9_housesWithCases_7 (by decide) (fun hc => ?_) (fun hc => ?_)
  · replace h := h.1 hc
    refine go_iload_n dX9_housesWithCases_32 rfl rfl ?_
    exact go_iret dX9_housesWithCases_33 rfl h
  · replace h := h.2 hc
    refine go_aload_n dX9_housesWithCases_10 rfl rfl ?_
    refine go_get (k := 5) (v := .ref (gd g 48)) dX9_housesWithCases_11 ob_10 (by decide) qf_X9_24 rfl ?_
    refine go_iload_n dX9_housesWithCases_14 rfl rfl ?_
    obtain ⟨hi, h⟩ := h
    refine go_ild (a := 48) (n := 8) dX9_housesWithCases_15 (by decide) (by decide) rfl hi ?_
    refine go_iconst (v := (-1)) dX9_housesWithCases_16 (by decide) ?_
    refine go_icmp_eq (tgt := 26) dX9_housesWithCases_17 (by decide) (fun hc => ?_) (fun hc => ?_)
    · replace h := h.1 hc
      refine go_iinc (v := x2 + 1) (lm := [some (.ref (gd g 10)), some (.int x1), some (.int (x2 + 1))]) dX9_housesWithCases_26 rfl rfl (by decide) rfl rfl ?_
      refine go_goto (tgt := 4) dX9_housesWithCases_29 (by decide) ?_
      exact h
    · replace h := h.2 hc
      refine go_iload_n dX9_housesWithCases_20 rfl rfl ?_
      refine go_iconst (v := 1) dX9_housesWithCases_21 (by decide) ?_
      refine go_iload_n dX9_housesWithCases_22 rfl rfl ?_
      refine go_ishl dX9_housesWithCases_23 ?_
      refine go_ior dX9_housesWithCases_24 ?_
      refine go_istore_n (lm := [some (.ref (gd g 10)), some (.int (x1 ||| (1 <<< (x2 &&& 31)))), some (.int x2)]) dX9_housesWithCases_25 rfl (by decide) rfl rfl ?_
      refine go_iinc (v := x2 + 1) (lm := [some (.ref (gd g 10)), some (.int (x1 ||| (1 <<< (x2 &&& 31)))), some (.int (x2 + 1))]) dX9_housesWithCases_26 rfl rfl (by decide) rfl rfl ?_
      refine go_goto (tgt := 4) dX9_housesWithCases_29 (by decide) ?_
      exact h
set_option maxRecDepth 100000 in
set_option maxHeartbeats 4000000 in
theorem B_X9_tellWhoMay_0 {g : gp} {u : sg} {Q : Option Value → sg → Prop}  (h : Go g iX9_tellWhoMay 2 [some (.ref (gd g 10)), some (.ref (gd g 23)), some (.int 0), none] [] u Q) : Go g iX9_tellWhoMay 0 [some (.ref (gd g 10)), some (.ref (gd g 23)), none, none] [] u Q := by
  refine go_iconst (v := 0) dX9_tellWhoMay_0 (by decide) ?_
  refine go_istore_n (lm := [some (.ref (gd g 10)), some (.ref (gd g 23)), some (.int 0), none]) dX9_tellWhoMay_1 rfl (by decide) rfl rfl ?_
  exact h
set_option maxRecDepth 100000 in
set_option maxHeartbeats 4000000 in
theorem B_X9_tellWhoMay_2 {g : gp} {u : sg} {Q : Option Value → sg → Prop} (x2 : Int32) (h : (((12 : Int32) ≤ x2 → Go g iX9_tellWhoMay 20 [some (.ref (gd g 10)), some (.ref (gd g 23)), some (.int 0), none] [] u Q) ∧ (¬ (12 : Int32) ≤ x2 → (vp_in x2 12 ∧ Go g iX9_tellWhoMay 2 [some (.ref (gd g 10)), some (.ref (gd g 23)), some (.int (x2 + 1)), none] [] (sA u 23 x2.toNatClampNeg (0 : Int32)) Q)))) : Go g iX9_tellWhoMay 2 [some (.ref (gd g 10)), some (.ref (gd g 23)), some (.int x2), none] [] u Q := by
  refine go_iload_n dX9_tellWhoMay_2 rfl rfl ?_
  refine go_bipush (v := 12) dX9_tellWhoMay_3 (by decide) ?_
  refine go_icmp_ge (tgt := 18) dX9_tellWhoMay_5 (by decide) (fun hc => ?_) (fun hc => ?_)
  · replace h := h.1 hc
    refine go_iconst (v := 0) dX9_tellWhoMay_18 (by decide) ?_
    refine go_istore_n (lm := [some (.ref (gd g 10)), some (.ref (gd g 23)), some (.int 0), none]) dX9_tellWhoMay_19 rfl (by decide) rfl rfl ?_
    exact h
  · replace h := h.2 hc
    refine go_aload_n dX9_tellWhoMay_8 rfl rfl ?_
    refine go_iload_n dX9_tellWhoMay_9 rfl rfl ?_
    refine go_iconst (v := 0) dX9_tellWhoMay_10 (by decide) ?_
    obtain ⟨hi, h⟩ := h
    refine go_ist (a := 23) (n := 12) dX9_tellWhoMay_11 (by decide) (by decide) rfl hi ?_
    refine go_iinc (v := x2 + 1) (lm := [some (.ref (gd g 10)), some (.ref (gd g 23)), some (.int (x2 + 1)), none]) dX9_tellWhoMay_12 rfl rfl (by decide) rfl rfl ?_
    refine go_goto (tgt := 2) dX9_tellWhoMay_15 (by decide) ?_
    exact h
set_option maxRecDepth 100000 in
set_option maxHeartbeats 4000000 in
theorem B_X9_tellWhoMay_20 {g : gp} {u : sg} {Q : Option Value → sg → Prop} (x2 : Int32) (h : (((u.1 10 4) ≤ x2 → Q none u) ∧ (¬ (u.1 10 4) ≤ x2 → (vp_in x2 40 ∧ (vp_in (u.2 45 x2.toNatClampNeg) 8 ∧ (((u.2 48 (u.2 45 x2.toNatClampNeg).toNatClampNeg) = (-1 : Int32) → Go g iX9_tellWhoMay 20 [some (.ref (gd g 10)), some (.ref (gd g 23)), some (.int (x2 + 1)), none] [] u Q) ∧ (¬ (u.2 48 (u.2 45 x2.toNatClampNeg).toNatClampNeg) = (-1 : Int32) → (vp_in x2 40 ∧ ((((u.2 48 (u.2 45 x2.toNatClampNeg).toNatClampNeg) - 2) < (u.2 46 x2.toNatClampNeg) → Go g iX9_tellWhoMay 20 [some (.ref (gd g 10)), some (.ref (gd g 23)), some (.int (x2 + 1)), none] [] u Q) ∧ (¬ ((u.2 48 (u.2 45 x2.toNatClampNeg).toNatClampNeg) - 2) < (u.2 46 x2.toNatClampNeg) → (vp_in x2 40 ∧ (((u.2 47 x2.toNatClampNeg) < ((u.2 48 (u.2 45 x2.toNatClampNeg).toNatClampNeg) - 10) → Go g iX9_tellWhoMay 20 [some (.ref (gd g 10)), some (.ref (gd g 23)), some (.int (x2 + 1)), none] [] u Q) ∧ (¬ (u.2 47 x2.toNatClampNeg) < ((u.2 48 (u.2 45 x2.toNatClampNeg).toNatClampNeg) - 10) → (vp_in x2 40 ∧ (vp_in (u.2 44 x2.toNatClampNeg) 12 ∧ (vp_in x2 40 ∧ (vp_in (u.2 44 x2.toNatClampNeg) 12 ∧ Go g iX9_tellWhoMay 20 [some (.ref (gd g 10)), some (.ref (gd g 23)), some (.int (x2 + 1)), none] [] (sA u 23 (u.2 44 x2.toNatClampNeg).toNatClampNeg ((u.2 23 (u.2 44 x2.toNatClampNeg).toNatClampNeg) ||| (1 <<< ((u.2 45 x2.toNatClampNeg) &&& 31)))) Q))))))))))))))))) : Go g iX9_tellWhoMay 20 [some (.ref (gd g 10)), some (.ref (gd g 23)), some (.int x2), none] [] u Q := by
  refine go_iload_n dX9_tellWhoMay_20 rfl rfl ?_
  refine go_aload_n dX9_tellWhoMay_21 rfl rfl ?_
  refine go_get (k := 4) (v := .int (u.1 10 4)) dX9_tellWhoMay_22 ob_10 (by decide) qf_X9_27 rfl ?_
  refine go_icmp_ge (tgt := 95) dX9_tellWhoMay_25 (by decide) (fun hc => ?_) (fun hc => ?_)
  · replace h := h.1 hc
    exact go_vret dX9_tellWhoMay_95 rfl h
  · replace h := h.2 hc
    refine go_aload_n dX9_tellWhoMay_28 rfl rfl ?_
    refine go_get (k := 5) (v := .ref (gd g 48)) dX9_tellWhoMay_29 ob_10 (by decide) qf_X9_24 rfl ?_
    refine go_aload_n dX9_tellWhoMay_32 rfl rfl ?_
    refine go_get (k := 1) (v := .ref (gd g 45)) dX9_tellWhoMay_33 ob_10 (by decide) qf_X9_15 rfl ?_
    refine go_iload_n dX9_tellWhoMay_36 rfl rfl ?_
    obtain ⟨hi, h⟩ := h
    refine go_ild (a := 45) (n := 40) dX9_tellWhoMay_37 (by decide) (by decide) rfl hi ?_
    obtain ⟨hi, h⟩ := h
    refine go_ild (a := 48) (n := 8) dX9_tellWhoMay_38 (by decide) (by decide) rfl hi ?_
    refine go_istore_n (lm := [some (.ref (gd g 10)), some (.ref (gd g 23)), some (.int x2), some (.int (u.2 48 (u.2 45 x2.toNatClampNeg).toNatClampNeg))]) dX9_tellWhoMay_39 rfl (by decide) rfl rfl ?_
    refine go_iload_n dX9_tellWhoMay_40 rfl rfl ?_
    refine go_iconst (v := (-1)) dX9_tellWhoMay_41 (by decide) ?_
    refine go_icmp_eq (tgt := 89) dX9_tellWhoMay_42 (by decide) (fun hc => ?_) (fun hc => ?_)
    · replace h := h.1 hc
      refine go_iinc (v := x2 + 1) (lm := [some (.ref (gd g 10)), some (.ref (gd g 23)), some (.int (x2 + 1)), some (.int (u.2 48 (u.2 45 x2.toNatClampNeg).toNatClampNeg))]) dX9_tellWhoMay_89 rfl rfl (by decide) rfl rfl ?_
      refine go_goto (tgt := 20) dX9_tellWhoMay_92 (by decide) ?_
      refine go_mask [true, true, true, false] rfl ?_
      exact h
    · replace h := h.2 hc
      refine go_aload_n dX9_tellWhoMay_45 rfl rfl ?_
      refine go_get (k := 2) (v := .ref (gd g 46)) dX9_tellWhoMay_46 ob_10 (by decide) qf_X9_18 rfl ?_
      refine go_iload_n dX9_tellWhoMay_49 rfl rfl ?_
      obtain ⟨hi, h⟩ := h
      refine go_ild (a := 46) (n := 40) dX9_tellWhoMay_50 (by decide) (by decide) rfl hi ?_
      refine go_iload_n dX9_tellWhoMay_51 rfl rfl ?_
      refine go_iconst (v := 2) dX9_tellWhoMay_52 (by decide) ?_
      refine go_isub dX9_tellWhoMay_53 ?_
      refine go_icmp_gt (tgt := 89) dX9_tellWhoMay_54 (by decide) (fun hc => ?_) (fun hc => ?_)
      · replace h := h.1 hc
        refine go_iinc (v := x2 + 1) (lm := [some (.ref (gd g 10)), some (.ref (gd g 23)), some (.int (x2 + 1)), some (.int (u.2 48 (u.2 45 x2.toNatClampNeg).toNatClampNeg))]) dX9_tellWhoMay_89 rfl rfl (by decide) rfl rfl ?_
        refine go_goto (tgt := 20) dX9_tellWhoMay_92 (by decide) ?_
        refine go_mask [true, true, true, false] rfl ?_
        exact h
      · replace h := h.2 hc
        refine go_aload_n dX9_tellWhoMay_57 rfl rfl ?_
        refine go_get (k := 3) (v := .ref (gd g 47)) dX9_tellWhoMay_58 ob_10 (by decide) qf_X9_21 rfl ?_
        refine go_iload_n dX9_tellWhoMay_61 rfl rfl ?_
        obtain ⟨hi, h⟩ := h
        refine go_ild (a := 47) (n := 40) dX9_tellWhoMay_62 (by decide) (by decide) rfl hi ?_
        refine go_iload_n dX9_tellWhoMay_63 rfl rfl ?_
        refine go_bipush (v := 10) dX9_tellWhoMay_64 (by decide) ?_
        refine go_isub dX9_tellWhoMay_66 ?_
        refine go_icmp_lt (tgt := 89) dX9_tellWhoMay_67 (by decide) (fun hc => ?_) (fun hc => ?_)
        · replace h := h.1 hc
          refine go_iinc (v := x2 + 1) (lm := [some (.ref (gd g 10)), some (.ref (gd g 23)), some (.int (x2 + 1)), some (.int (u.2 48 (u.2 45 x2.toNatClampNeg).toNatClampNeg))]) dX9_tellWhoMay_89 rfl rfl (by decide) rfl rfl ?_
          refine go_goto (tgt := 20) dX9_tellWhoMay_92 (by decide) ?_
          refine go_mask [true, true, true, false] rfl ?_
          exact h
        · replace h := h.2 hc
          refine go_aload_n dX9_tellWhoMay_70 rfl rfl ?_
          refine go_aload_n dX9_tellWhoMay_71 rfl rfl ?_
          refine go_get (k := 0) (v := .ref (gd g 44)) dX9_tellWhoMay_72 ob_10 (by decide) qf_X9_11 rfl ?_
          refine go_iload_n dX9_tellWhoMay_75 rfl rfl ?_
          obtain ⟨hi, h⟩ := h
          refine go_ild (a := 44) (n := 40) dX9_tellWhoMay_76 (by decide) (by decide) rfl hi ?_
          refine go_dup2 dX9_tellWhoMay_77 rfl rfl ?_
          obtain ⟨hi, h⟩ := h
          refine go_ild (a := 23) (n := 12) dX9_tellWhoMay_78 (by decide) (by decide) rfl hi ?_
          refine go_iconst (v := 1) dX9_tellWhoMay_79 (by decide) ?_
          refine go_aload_n dX9_tellWhoMay_80 rfl rfl ?_
          refine go_get (k := 1) (v := .ref (gd g 45)) dX9_tellWhoMay_81 ob_10 (by decide) qf_X9_15 rfl ?_
          refine go_iload_n dX9_tellWhoMay_84 rfl rfl ?_
          obtain ⟨hi, h⟩ := h
          refine go_ild (a := 45) (n := 40) dX9_tellWhoMay_85 (by decide) (by decide) rfl hi ?_
          refine go_ishl dX9_tellWhoMay_86 ?_
          refine go_ior dX9_tellWhoMay_87 ?_
          obtain ⟨hi, h⟩ := h
          refine go_ist (a := 23) (n := 12) dX9_tellWhoMay_88 (by decide) (by decide) rfl hi ?_
          refine go_iinc (v := x2 + 1) (lm := [some (.ref (gd g 10)), some (.ref (gd g 23)), some (.int (x2 + 1)), some (.int (u.2 48 (u.2 45 x2.toNatClampNeg).toNatClampNeg))]) dX9_tellWhoMay_89 rfl rfl (by decide) rfl rfl ?_
          refine go_goto (tgt := 20) dX9_tellWhoMay_92 (by decide) ?_
          refine go_mask [true, true, true, false] rfl ?_
          exact h
