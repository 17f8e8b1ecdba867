theorem dX12_in_0 : decode cX12_in 0 = .ok (.lload_n 0, 1) := by decide +kernel
theorem dX12_in_1 : decode cX12_in 1 = .ok (.lload_n 2, 1) := by decide +kernel
theorem dX12_in_2 : decode cX12_in 2 = .ok (.lcmp, 1) := by decide +kernel
theorem dX12_in_3 : decode cX12_in 3 = .ok (.ifCond .lt 14, 3) := by decide +kernel
theorem dX12_in_6 : decode cX12_in 6 = .ok (.lload_n 0, 1) := by decide +kernel
theorem dX12_in_7 : decode cX12_in 7 = .ok (.lload 4, 2) := by decide +kernel
theorem dX12_in_9 : decode cX12_in 9 = .ok (.lcmp, 1) := by decide +kernel
theorem dX12_in_10 : decode cX12_in 10 = .ok (.ifCond .gt 7, 3) := by decide +kernel
theorem dX12_in_13 : decode cX12_in 13 = .ok (.iconst 1, 1) := by decide +kernel
theorem dX12_in_14 : decode cX12_in 14 = .ok (.goto 4, 3) := by decide +kernel
theorem dX12_in_17 : decode cX12_in 17 = .ok (.iconst 0, 1) := by decide +kernel
theorem dX12_in_18 : decode cX12_in 18 = .ok (.ireturn, 1) := by decide +kernel
theorem dX12_finding_0 : decode cX12_finding 0 = .ok (.aload_n 0, 1) := by decide +kernel
theorem dX12_finding_1 : decode cX12_finding 1 = .ok (.iload_n 1, 1) := by decide +kernel
theorem dX12_finding_2 : decode cX12_finding 2 = .ok (.putfield 7, 3) := by decide +kernel
theorem dX12_finding_5 : decode cX12_finding 5 = .ok (.ldc 10, 2) := by decide +kernel
theorem dX12_finding_7 : decode cX12_finding 7 = .ok (.iload_n 1, 1) := by decide +kernel
theorem dX12_finding_8 : decode cX12_finding 8 = .ok (.isub, 1) := by decide +kernel
theorem dX12_finding_9 : decode cX12_finding 9 = .ok (.ireturn, 1) := by decide +kernel
theorem dX12_isSheet_0 : decode cX12_isSheet 0 = .ok (.iload_n 0, 1) := by decide +kernel
theorem dX12_isSheet_1 : decode cX12_isSheet 1 = .ok (.i2l, 1) := by decide +kernel
theorem dX12_isSheet_2 : decode cX12_isSheet 2 = .ok (.lconst 0, 1) := by decide +kernel
theorem dX12_isSheet_3 : decode cX12_isSheet 3 = .ok (.ldc2_w 130, 3) := by decide +kernel
theorem dX12_isSheet_6 : decode cX12_isSheet 6 = .ok (.invokestatic 132, 3) := by decide +kernel
theorem dX12_isSheet_9 : decode cX12_isSheet 9 = .ok (.ireturn, 1) := by decide +kernel
theorem dX12_sheet_0 : decode cX12_sheet 0 = .ok (.aload_n 0, 1) := by decide +kernel
theorem dX12_sheet_1 : decode cX12_sheet 1 = .ok (.iconst 0, 1) := by decide +kernel
theorem dX12_sheet_2 : decode cX12_sheet 2 = .ok (.putfield 1, 3) := by decide +kernel
theorem dX12_sheet_5 : decode cX12_sheet 5 = .ok (.iload_n 1, 1) := by decide +kernel
theorem dX12_sheet_6 : decode cX12_sheet 6 = .ok (.invokestatic 136, 3) := by decide +kernel
theorem dX12_sheet_9 : decode cX12_sheet 9 = .ok (.ifCond .eq 21, 3) := by decide +kernel
theorem dX12_sheet_12 : decode cX12_sheet 12 = .ok (.iload_n 2, 1) := by decide +kernel
theorem dX12_sheet_13 : decode cX12_sheet 13 = .ok (.i2l, 1) := by decide +kernel
theorem dX12_sheet_14 : decode cX12_sheet 14 = .ok (.lconst 0, 1) := by decide +kernel
theorem dX12_sheet_15 : decode cX12_sheet 15 = .ok (.ldc2_w 140, 3) := by decide +kernel
theorem dX12_sheet_18 : decode cX12_sheet 18 = .ok (.invokestatic 132, 3) := by decide +kernel
theorem dX12_sheet_21 : decode cX12_sheet 21 = .ok (.ifCond .eq 9, 3) := by decide +kernel
theorem dX12_sheet_24 : decode cX12_sheet 24 = .ok (.iload_n 3, 1) := by decide +kernel
theorem dX12_sheet_25 : decode cX12_sheet 25 = .ok (.bipush 64, 2) := by decide +kernel
theorem dX12_sheet_27 : decode cX12_sheet 27 = .ok (.if_icmp .le 6, 3) := by decide +kernel
theorem dX12_sheet_30 : decode cX12_sheet 30 = .ok (.ldc 142, 2) := by decide +kernel
theorem dX12_sheet_32 : decode cX12_sheet 32 = .ok (.ireturn, 1) := by decide +kernel
theorem dX12_sheet_33 : decode cX12_sheet 33 = .ok (.aload_n 0, 1) := by decide +kernel
theorem dX12_sheet_34 : decode cX12_sheet 34 = .ok (.iconst 0, 1) := by decide +kernel
theorem dX12_sheet_35 : decode cX12_sheet 35 = .ok (.putfield 7, 3) := by decide +kernel
theorem dX12_sheet_38 : decode cX12_sheet 38 = .ok (.iload_n 3, 1) := by decide +kernel
theorem dX12_sheet_39 : decode cX12_sheet 39 = .ok (.ifCond .ge 9, 3) := by decide +kernel
theorem dX12_sheet_42 : decode cX12_sheet 42 = .ok (.aload_n 0, 1) := by decide +kernel
theorem dX12_sheet_43 : decode cX12_sheet 43 = .ok (.iconst 4, 1) := by decide +kernel
theorem dX12_sheet_44 : decode cX12_sheet 44 = .ok (.invokevirtual 143, 3) := by decide +kernel
theorem dX12_sheet_47 : decode cX12_sheet 47 = .ok (.ireturn, 1) := by decide +kernel
theorem dX12_sheet_48 : decode cX12_sheet 48 = .ok (.aload_n 0, 1) := by decide +kernel
theorem dX12_sheet_49 : decode cX12_sheet 49 = .ok (.getfield 17, 3) := by decide +kernel
theorem dX12_sheet_52 : decode cX12_sheet 52 = .ok (.iload_n 1, 1) := by decide +kernel
theorem dX12_sheet_53 : decode cX12_sheet 53 = .ok (.iload_n 2, 1) := by decide +kernel
theorem dX12_sheet_54 : decode cX12_sheet 54 = .ok (.iastore, 1) := by decide +kernel
theorem dX12_sheet_55 : decode cX12_sheet 55 = .ok (.aload_n 0, 1) := by decide +kernel
theorem dX12_sheet_56 : decode cX12_sheet 56 = .ok (.getfield 21, 3) := by decide +kernel
theorem dX12_sheet_59 : decode cX12_sheet 59 = .ok (.iload_n 1, 1) := by decide +kernel
theorem dX12_sheet_60 : decode cX12_sheet 60 = .ok (.iload_n 3, 1) := by decide +kernel
theorem dX12_sheet_61 : decode cX12_sheet 61 = .ok (.iastore, 1) := by decide +kernel
theorem dX12_sheet_62 : decode cX12_sheet 62 = .ok (.iconst 0, 1) := by decide +kernel
theorem dX12_sheet_63 : decode cX12_sheet 63 = .ok (.istore 4, 2) := by decide +kernel
theorem dX12_sheet_65 : decode cX12_sheet 65 = .ok (.iload 4, 2) := by decide +kernel
theorem dX12_sheet_67 : decode cX12_sheet 67 = .ok (.bipush 64, 2) := by decide +kernel
theorem dX12_sheet_69 : decode cX12_sheet 69 = .ok (.if_icmp .ge 22, 3) := by decide +kernel
theorem dX12_sheet_72 : decode cX12_sheet 72 = .ok (.aload_n 0, 1) := by decide +kernel
theorem dX12_sheet_73 : decode cX12_sheet 73 = .ok (.getfield 24, 3) := by decide +kernel
theorem dX12_sheet_76 : decode cX12_sheet 76 = .ok (.bipush 64, 2) := by decide +kernel
theorem dX12_sheet_78 : decode cX12_sheet 78 = .ok (.iload_n 1, 1) := by decide +kernel
theorem dX12_sheet_79 : decode cX12_sheet 79 = .ok (.imul, 1) := by decide +kernel
theorem dX12_sheet_80 : decode cX12_sheet 80 = .ok (.iload 4, 2) := by decide +kernel
theorem dX12_sheet_82 : decode cX12_sheet 82 = .ok (.iadd, 1) := by decide +kernel
theorem dX12_sheet_83 : decode cX12_sheet 83 = .ok (.iconst 0, 1) := by decide +kernel
theorem dX12_sheet_84 : decode cX12_sheet 84 = .ok (.iastore, 1) := by decide +kernel
theorem dX12_sheet_85 : decode cX12_sheet 85 = .ok (.iinc 4 1, 3) := by decide +kernel
theorem dX12_sheet_88 : decode cX12_sheet 88 = .ok (.goto (-23), 3) := by decide +kernel
theorem dX12_sheet_91 : decode cX12_sheet 91 = .ok (.iload_n 3, 1) := by decide +kernel
theorem dX12_sheet_92 : decode cX12_sheet 92 = .ok (.ireturn, 1) := by decide +kernel
theorem dX12_set_0 : decode cX12_set 0 = .ok (.aload_n 0, 1) := by decide +kernel
theorem dX12_set_1 : decode cX12_set 1 = .ok (.iconst 0, 1) := by decide +kernel
theorem dX12_set_2 : decode cX12_set 2 = .ok (.putfield 1, 3) := by decide +kernel
theorem dX12_set_5 : decode cX12_set 5 = .ok (.iload_n 1, 1) := by decide +kernel
theorem dX12_set_6 : decode cX12_set 6 = .ok (.invokestatic 136, 3) := by decide +kernel
theorem dX12_set_9 : decode cX12_set 9 = .ok (.ifCond .ne 6, 3) := by decide +kernel
theorem dX12_set_12 : decode cX12_set 12 = .ok (.ldc 142, 2) := by decide +kernel
theorem dX12_set_14 : decode cX12_set 14 = .ok (.ireturn, 1) := by decide +kernel
theorem dX12_set_15 : decode cX12_set 15 = .ok (.aload_n 0, 1) := by decide +kernel
theorem dX12_set_16 : decode cX12_set 16 = .ok (.iconst 0, 1) := by decide +kernel
theorem dX12_set_17 : decode cX12_set 17 = .ok (.putfield 7, 3) := by decide +kernel
theorem dX12_set_20 : decode cX12_set 20 = .ok (.aload_n 0, 1) := by decide +kernel
theorem dX12_set_21 : decode cX12_set 21 = .ok (.getfield 17, 3) := by decide +kernel
theorem dX12_set_24 : decode cX12_set 24 = .ok (.iload_n 1, 1) := by decide +kernel
theorem dX12_set_25 : decode cX12_set 25 = .ok (.iaload, 1) := by decide +kernel
theorem dX12_set_26 : decode cX12_set 26 = .ok (.ifCond .ge 9, 3) := by decide +kernel
theorem dX12_set_29 : decode cX12_set 29 = .ok (.aload_n 0, 1) := by decide +kernel
theorem dX12_set_30 : decode cX12_set 30 = .ok (.iconst 1, 1) := by decide +kernel
theorem dX12_set_31 : decode cX12_set 31 = .ok (.invokevirtual 143, 3) := by decide +kernel
theorem dX12_set_34 : decode cX12_set 34 = .ok (.ireturn, 1) := by decide +kernel
theorem dX12_set_35 : decode cX12_set 35 = .ok (.iload_n 2, 1) := by decide +kernel
theorem dX12_set_36 : decode cX12_set 36 = .ok (.i2l, 1) := by decide +kernel
theorem dX12_set_37 : decode cX12_set 37 = .ok (.lconst 0, 1) := by decide +kernel
theorem dX12_set_38 : decode cX12_set 38 = .ok (.aload_n 0, 1) := by decide +kernel
theorem dX12_set_39 : decode cX12_set 39 = .ok (.getfield 21, 3) := by decide +kernel
theorem dX12_set_42 : decode cX12_set 42 = .ok (.iload_n 1, 1) := by decide +kernel
theorem dX12_set_43 : decode cX12_set 43 = .ok (.iaload, 1) := by decide +kernel
theorem dX12_set_44 : decode cX12_set 44 = .ok (.iconst 1, 1) := by decide +kernel
theorem dX12_set_45 : decode cX12_set 45 = .ok (.isub, 1) := by decide +kernel
theorem dX12_set_46 : decode cX12_set 46 = .ok (.i2l, 1) := by decide +kernel
theorem dX12_set_47 : decode cX12_set 47 = .ok (.invokestatic 132, 3) := by decide +kernel
theorem dX12_set_50 : decode cX12_set 50 = .ok (.ifCond .ne 9, 3) := by decide +kernel
theorem dX12_set_53 : decode cX12_set 53 = .ok (.aload_n 0, 1) := by decide +kernel
theorem dX12_set_54 : decode cX12_set 54 = .ok (.iconst 2, 1) := by decide +kernel
theorem dX12_set_55 : decode cX12_set 55 = .ok (.invokevirtual 143, 3) := by decide +kernel
theorem dX12_set_58 : decode cX12_set 58 = .ok (.ireturn, 1) := by decide +kernel
theorem dX12_set_59 : decode cX12_set 59 = .ok (.aload_n 0, 1) := by decide +kernel
theorem dX12_set_60 : decode cX12_set 60 = .ok (.getfield 24, 3) := by decide +kernel
theorem dX12_set_63 : decode cX12_set 63 = .ok (.bipush 64, 2) := by decide +kernel
theorem dX12_set_65 : decode cX12_set 65 = .ok (.iload_n 1, 1) := by decide +kernel
theorem dX12_set_66 : decode cX12_set 66 = .ok (.imul, 1) := by decide +kernel
theorem dX12_set_67 : decode cX12_set 67 = .ok (.iload_n 2, 1) := by decide +kernel
theorem dX12_set_68 : decode cX12_set 68 = .ok (.iadd, 1) := by decide +kernel
theorem dX12_set_69 : decode cX12_set 69 = .ok (.aload_n 0, 1) := by decide +kernel
theorem dX12_set_70 : decode cX12_set 70 = .ok (.getfield 17, 3) := by decide +kernel
theorem dX12_set_73 : decode cX12_set 73 = .ok (.iload_n 1, 1) := by decide +kernel
theorem dX12_set_74 : decode cX12_set 74 = .ok (.iaload, 1) := by decide +kernel
theorem dX12_set_75 : decode cX12_set 75 = .ok (.ifCond .ne 8, 3) := by decide +kernel
theorem dX12_set_78 : decode cX12_set 78 = .ok (.iload_n 3, 1) := by decide +kernel
theorem dX12_set_79 : decode cX12_set 79 = .ok (.i2b, 1) := by decide +kernel
theorem dX12_set_80 : decode cX12_set 80 = .ok (.goto 19, 3) := by decide +kernel
theorem dX12_set_83 : decode cX12_set 83 = .ok (.aload_n 0, 1) := by decide +kernel
theorem dX12_set_84 : decode cX12_set 84 = .ok (.getfield 17, 3) := by decide +kernel
theorem dX12_set_87 : decode cX12_set 87 = .ok (.iload_n 1, 1) := by decide +kernel
theorem dX12_set_88 : decode cX12_set 88 = .ok (.iaload, 1) := by decide +kernel
theorem dX12_set_89 : decode cX12_set 89 = .ok (.iconst 1, 1) := by decide +kernel
theorem dX12_set_90 : decode cX12_set 90 = .ok (.if_icmp .ne 8, 3) := by decide +kernel
theorem dX12_set_93 : decode cX12_set 93 = .ok (.iload_n 3, 1) := by decide +kernel
theorem dX12_set_94 : decode cX12_set 94 = .ok (.i2s, 1) := by decide +kernel
theorem dX12_set_95 : decode cX12_set 95 = .ok (.goto 4, 3) := by decide +kernel
theorem dX12_set_98 : decode cX12_set 98 = .ok (.iload_n 3, 1) := by decide +kernel
theorem dX12_set_99 : decode cX12_set 99 = .ok (.iastore, 1) := by decide +kernel
theorem dX12_set_100 : decode cX12_set 100 = .ok (.aload_n 0, 1) := by decide +kernel
theorem dX12_set_101 : decode cX12_set 101 = .ok (.getfield 24, 3) := by decide +kernel
theorem dX12_set_104 : decode cX12_set 104 = .ok (.bipush 64, 2) := by decide +kernel
theorem dX12_set_106 : decode cX12_set 106 = .ok (.iload_n 1, 1) := by decide +kernel
theorem dX12_set_107 : decode cX12_set 107 = .ok (.imul, 1) := by decide +kernel
theorem dX12_set_108 : decode cX12_set 108 = .ok (.iload_n 2, 1) := by decide +kernel
theorem dX12_set_109 : decode cX12_set 109 = .ok (.iadd, 1) := by decide +kernel
theorem dX12_set_110 : decode cX12_set 110 = .ok (.iaload, 1) := by decide +kernel
theorem dX12_set_111 : decode cX12_set 111 = .ok (.ireturn, 1) := by decide +kernel
theorem dX12_copy_0 : decode cX12_copy 0 = .ok (.aload_n 0, 1) := by decide +kernel
theorem dX12_copy_1 : decode cX12_copy 1 = .ok (.iconst 0, 1) := by decide +kernel
theorem dX12_copy_2 : decode cX12_copy 2 = .ok (.putfield 1, 3) := by decide +kernel
theorem dX12_copy_5 : decode cX12_copy 5 = .ok (.iload_n 1, 1) := by decide +kernel
theorem dX12_copy_6 : decode cX12_copy 6 = .ok (.invokestatic 136, 3) := by decide +kernel
theorem dX12_copy_9 : decode cX12_copy 9 = .ok (.ifCond .eq 10, 3) := by decide +kernel
theorem dX12_copy_12 : decode cX12_copy 12 = .ok (.iload_n 3, 1) := by decide +kernel
theorem dX12_copy_13 : decode cX12_copy 13 = .ok (.invokestatic 136, 3) := by decide +kernel
theorem dX12_copy_16 : decode cX12_copy 16 = .ok (.ifCond .ne 6, 3) := by decide +kernel
theorem dX12_copy_19 : decode cX12_copy 19 = .ok (.ldc 142, 2) := by decide +kernel
theorem dX12_copy_21 : decode cX12_copy 21 = .ok (.ireturn, 1) := by decide +kernel
theorem dX12_copy_22 : decode cX12_copy 22 = .ok (.aload_n 0, 1) := by decide +kernel
theorem dX12_copy_23 : decode cX12_copy 23 = .ok (.iconst 0, 1) := by decide +kernel
theorem dX12_copy_24 : decode cX12_copy 24 = .ok (.putfield 7, 3) := by decide +kernel
theorem dX12_copy_27 : decode cX12_copy 27 = .ok (.aload_n 0, 1) := by decide +kernel
theorem dX12_copy_28 : decode cX12_copy 28 = .ok (.getfield 17, 3) := by decide +kernel
theorem dX12_copy_31 : decode cX12_copy 31 = .ok (.iload_n 1, 1) := by decide +kernel
theorem dX12_copy_32 : decode cX12_copy 32 = .ok (.iaload, 1) := by decide +kernel
theorem dX12_copy_33 : decode cX12_copy 33 = .ok (.ifCond .lt 12, 3) := by decide +kernel
theorem dX12_copy_36 : decode cX12_copy 36 = .ok (.aload_n 0, 1) := by decide +kernel
theorem dX12_copy_37 : decode cX12_copy 37 = .ok (.getfield 17, 3) := by decide +kernel
theorem dX12_copy_40 : decode cX12_copy 40 = .ok (.iload_n 3, 1) := by decide +kernel
theorem dX12_copy_41 : decode cX12_copy 41 = .ok (.iaload, 1) := by decide +kernel
theorem dX12_copy_42 : decode cX12_copy 42 = .ok (.ifCond .ge 9, 3) := by decide +kernel
theorem dX12_copy_45 : decode cX12_copy 45 = .ok (.aload_n 0, 1) := by decide +kernel
theorem dX12_copy_46 : decode cX12_copy 46 = .ok (.iconst 1, 1) := by decide +kernel
theorem dX12_copy_47 : decode cX12_copy 47 = .ok (.invokevirtual 143, 3) := by decide +kernel
theorem dX12_copy_50 : decode cX12_copy 50 = .ok (.ireturn, 1) := by decide +kernel
theorem dX12_copy_51 : decode cX12_copy 51 = .ok (.aload_n 0, 1) := by decide +kernel
theorem dX12_copy_52 : decode cX12_copy 52 = .ok (.getfield 17, 3) := by decide +kernel
theorem dX12_copy_55 : decode cX12_copy 55 = .ok (.iload_n 1, 1) := by decide +kernel
theorem dX12_copy_56 : decode cX12_copy 56 = .ok (.iaload, 1) := by decide +kernel
theorem dX12_copy_57 : decode cX12_copy 57 = .ok (.aload_n 0, 1) := by decide +kernel
theorem dX12_copy_58 : decode cX12_copy 58 = .ok (.getfield 17, 3) := by decide +kernel
theorem dX12_copy_61 : decode cX12_copy 61 = .ok (.iload_n 3, 1) := by decide +kernel
theorem dX12_copy_62 : decode cX12_copy 62 = .ok (.iaload, 1) := by decide +kernel
theorem dX12_copy_63 : decode cX12_copy 63 = .ok (.if_icmp .eq 9, 3) := by decide +kernel
theorem dX12_copy_66 : decode cX12_copy 66 = .ok (.aload_n 0, 1) := by decide +kernel
theorem dX12_copy_67 : decode cX12_copy 67 = .ok (.iconst 5, 1) := by decide +kernel
theorem dX12_copy_68 : decode cX12_copy 68 = .ok (.invokevirtual 143, 3) := by decide +kernel
theorem dX12_copy_71 : decode cX12_copy 71 = .ok (.ireturn, 1) := by decide +kernel
theorem dX12_copy_72 : decode cX12_copy 72 = .ok (.iload_n 2, 1) := by decide +kernel
theorem dX12_copy_73 : decode cX12_copy 73 = .ok (.ifCond .lt 48, 3) := by decide +kernel
theorem dX12_copy_76 : decode cX12_copy 76 = .ok (.iload 4, 2) := by decide +kernel
theorem dX12_copy_78 : decode cX12_copy 78 = .ok (.ifCond .lt 43, 3) := by decide +kernel
theorem dX12_copy_81 : decode cX12_copy 81 = .ok (.iload 5, 2) := by decide +kernel
theorem dX12_copy_83 : decode cX12_copy 83 = .ok (.ifCond .lt 38, 3) := by decide +kernel
theorem dX12_copy_86 : decode cX12_copy 86 = .ok (.iload_n 2, 1) := by decide +kernel
theorem dX12_copy_87 : decode cX12_copy 87 = .ok (.i2l, 1) := by decide +kernel
theorem dX12_copy_88 : decode cX12_copy 88 = .ok (.iload 5, 2) := by decide +kernel
theorem dX12_copy_90 : decode cX12_copy 90 = .ok (.i2l, 1) := by decide +kernel
theorem dX12_copy_91 : decode cX12_copy 91 = .ok (.ladd, 1) := by decide +kernel
theorem dX12_copy_92 : decode cX12_copy 92 = .ok (.aload_n 0, 1) := by decide +kernel
theorem dX12_copy_93 : decode cX12_copy 93 = .ok (.getfield 21, 3) := by decide +kernel
theorem dX12_copy_96 : decode cX12_copy 96 = .ok (.iload_n 1, 1) := by decide +kernel
theorem dX12_copy_97 : decode cX12_copy 97 = .ok (.iaload, 1) := by decide +kernel
theorem dX12_copy_98 : decode cX12_copy 98 = .ok (.i2l, 1) := by decide +kernel
theorem dX12_copy_99 : decode cX12_copy 99 = .ok (.lcmp, 1) := by decide +kernel
theorem dX12_copy_100 : decode cX12_copy 100 = .ok (.ifCond .gt 21, 3) := by decide +kernel
theorem dX12_copy_103 : decode cX12_copy 103 = .ok (.iload 4, 2) := by decide +kernel
theorem dX12_copy_105 : decode cX12_copy 105 = .ok (.i2l, 1) := by decide +kernel
theorem dX12_copy_106 : decode cX12_copy 106 = .ok (.iload 5, 2) := by decide +kernel
theorem dX12_copy_108 : decode cX12_copy 108 = .ok (.i2l, 1) := by decide +kernel
theorem dX12_copy_109 : decode cX12_copy 109 = .ok (.ladd, 1) := by decide +kernel
theorem dX12_copy_110 : decode cX12_copy 110 = .ok (.aload_n 0, 1) := by decide +kernel
theorem dX12_copy_111 : decode cX12_copy 111 = .ok (.getfield 21, 3) := by decide +kernel
theorem dX12_copy_114 : decode cX12_copy 114 = .ok (.iload_n 3, 1) := by decide +kernel
theorem dX12_copy_115 : decode cX12_copy 115 = .ok (.iaload, 1) := by decide +kernel
theorem dX12_copy_116 : decode cX12_copy 116 = .ok (.i2l, 1) := by decide +kernel
theorem dX12_copy_117 : decode cX12_copy 117 = .ok (.lcmp, 1) := by decide +kernel
theorem dX12_copy_118 : decode cX12_copy 118 = .ok (.ifCond .le 9, 3) := by decide +kernel
theorem dX12_copy_121 : decode cX12_copy 121 = .ok (.aload_n 0, 1) := by decide +kernel
theorem dX12_copy_122 : decode cX12_copy 122 = .ok (.iconst 2, 1) := by decide +kernel
theorem dX12_copy_123 : decode cX12_copy 123 = .ok (.invokevirtual 143, 3) := by decide +kernel
theorem dX12_copy_126 : decode cX12_copy 126 = .ok (.ireturn, 1) := by decide +kernel
theorem dX12_copy_127 : decode cX12_copy 127 = .ok (.iload_n 2, 1) := by decide +kernel
theorem dX12_copy_128 : decode cX12_copy 128 = .ok (.iload 4, 2) := by decide +kernel
theorem dX12_copy_130 : decode cX12_copy 130 = .ok (.if_icmp .lt 7, 3) := by decide +kernel
theorem dX12_copy_133 : decode cX12_copy 133 = .ok (.iconst 1, 1) := by decide +kernel
theorem dX12_copy_134 : decode cX12_copy 134 = .ok (.goto 4, 3) := by decide +kernel
theorem dX12_copy_137 : decode cX12_copy 137 = .ok (.iconst 0, 1) := by decide +kernel
theorem dX12_copy_138 : decode cX12_copy 138 = .ok (.istore 6, 2) := by decide +kernel
theorem dX12_copy_140 : decode cX12_copy 140 = .ok (.iconst 0, 1) := by decide +kernel
theorem dX12_copy_141 : decode cX12_copy 141 = .ok (.istore 7, 2) := by decide +kernel
theorem dX12_copy_143 : decode cX12_copy 143 = .ok (.iload 7, 2) := by decide +kernel
theorem dX12_copy_145 : decode cX12_copy 145 = .ok (.iload 5, 2) := by decide +kernel
theorem dX12_copy_147 : decode cX12_copy 147 = .ok (.if_icmp .ge 57, 3) := by decide +kernel
theorem dX12_copy_150 : decode cX12_copy 150 = .ok (.iload 6, 2) := by decide +kernel
theorem dX12_copy_152 : decode cX12_copy 152 = .ok (.ifCond .eq 8, 3) := by decide +kernel
theorem dX12_copy_155 : decode cX12_copy 155 = .ok (.iload 7, 2) := by decide +kernel
theorem dX12_copy_157 : decode cX12_copy 157 = .ok (.goto 10, 3) := by decide +kernel
theorem dX12_copy_160 : decode cX12_copy 160 = .ok (.iload 5, 2) := by decide +kernel
theorem dX12_copy_162 : decode cX12_copy 162 = .ok (.iconst 1, 1) := by decide +kernel
theorem dX12_copy_163 : decode cX12_copy 163 = .ok (.isub, 1) := by decide +kernel
theorem dX12_copy_164 : decode cX12_copy 164 = .ok (.iload 7, 2) := by decide +kernel
theorem dX12_copy_166 : decode cX12_copy 166 = .ok (.isub, 1) := by decide +kernel
theorem dX12_copy_167 : decode cX12_copy 167 = .ok (.istore 8, 2) := by decide +kernel
theorem dX12_copy_169 : decode cX12_copy 169 = .ok (.aload_n 0, 1) := by decide +kernel
theorem dX12_copy_170 : decode cX12_copy 170 = .ok (.getfield 24, 3) := by decide +kernel
theorem dX12_copy_173 : decode cX12_copy 173 = .ok (.bipush 64, 2) := by decide +kernel
theorem dX12_copy_175 : decode cX12_copy 175 = .ok (.iload_n 3, 1) := by decide +kernel
theorem dX12_copy_176 : decode cX12_copy 176 = .ok (.imul, 1) := by decide +kernel
theorem dX12_copy_177 : decode cX12_copy 177 = .ok (.iload 4, 2) := by decide +kernel
theorem dX12_copy_179 : decode cX12_copy 179 = .ok (.iadd, 1) := by decide +kernel
theorem dX12_copy_180 : decode cX12_copy 180 = .ok (.iload 8, 2) := by decide +kernel
theorem dX12_copy_182 : decode cX12_copy 182 = .ok (.iadd, 1) := by decide +kernel
theorem dX12_copy_183 : decode cX12_copy 183 = .ok (.aload_n 0, 1) := by decide +kernel
theorem dX12_copy_184 : decode cX12_copy 184 = .ok (.getfield 24, 3) := by decide +kernel
theorem dX12_copy_187 : decode cX12_copy 187 = .ok (.bipush 64, 2) := by decide +kernel
theorem dX12_copy_189 : decode cX12_copy 189 = .ok (.iload_n 1, 1) := by decide +kernel
theorem dX12_copy_190 : decode cX12_copy 190 = .ok (.imul, 1) := by decide +kernel
theorem dX12_copy_191 : decode cX12_copy 191 = .ok (.iload_n 2, 1) := by decide +kernel
theorem dX12_copy_192 : decode cX12_copy 192 = .ok (.iadd, 1) := by decide +kernel
theorem dX12_copy_193 : decode cX12_copy 193 = .ok (.iload 8, 2) := by decide +kernel
theorem dX12_copy_195 : decode cX12_copy 195 = .ok (.iadd, 1) := by decide +kernel
theorem dX12_copy_196 : decode cX12_copy 196 = .ok (.iaload, 1) := by decide +kernel
theorem dX12_copy_197 : decode cX12_copy 197 = .ok (.iastore, 1) := by decide +kernel
theorem dX12_copy_198 : decode cX12_copy 198 = .ok (.iinc 7 1, 3) := by decide +kernel
theorem dX12_copy_201 : decode cX12_copy 201 = .ok (.goto (-58), 3) := by decide +kernel
theorem dX12_copy_204 : decode cX12_copy 204 = .ok (.iload 5, 2) := by decide +kernel
theorem dX12_copy_206 : decode cX12_copy 206 = .ok (.ireturn, 1) := by decide +kernel
theorem dX12_drop_0 : decode cX12_drop 0 = .ok (.aload_n 0, 1) := by decide +kernel
theorem dX12_drop_1 : decode cX12_drop 1 = .ok (.iconst 0, 1) := by decide +kernel
theorem dX12_drop_2 : decode cX12_drop 2 = .ok (.putfield 1, 3) := by decide +kernel
theorem dX12_drop_5 : decode cX12_drop 5 = .ok (.iload_n 1, 1) := by decide +kernel
theorem dX12_drop_6 : decode cX12_drop 6 = .ok (.invokestatic 136, 3) := by decide +kernel
theorem dX12_drop_9 : decode cX12_drop 9 = .ok (.ifCond .ne 6, 3) := by decide +kernel
theorem dX12_drop_12 : decode cX12_drop 12 = .ok (.ldc 142, 2) := by decide +kernel
theorem dX12_drop_14 : decode cX12_drop 14 = .ok (.ireturn, 1) := by decide +kernel
theorem dX12_drop_15 : decode cX12_drop 15 = .ok (.aload_n 0, 1) := by decide +kernel
theorem dX12_drop_16 : decode cX12_drop 16 = .ok (.iconst 0, 1) := by decide +kernel
theorem dX12_drop_17 : decode cX12_drop 17 = .ok (.putfield 7, 3) := by decide +kernel
theorem dX12_drop_20 : decode cX12_drop 20 = .ok (.aload_n 0, 1) := by decide +kernel
theorem dX12_drop_21 : decode cX12_drop 21 = .ok (.getfield 17, 3) := by decide +kernel
theorem dX12_drop_24 : decode cX12_drop 24 = .ok (.iload_n 1, 1) := by decide +kernel
theorem dX12_drop_25 : decode cX12_drop 25 = .ok (.iaload, 1) := by decide +kernel
theorem dX12_drop_26 : decode cX12_drop 26 = .ok (.ifCond .ge 9, 3) := by decide +kernel
theorem dX12_drop_29 : decode cX12_drop 29 = .ok (.aload_n 0, 1) := by decide +kernel
theorem dX12_drop_30 : decode cX12_drop 30 = .ok (.iconst 1, 1) := by decide +kernel
theorem dX12_drop_31 : decode cX12_drop 31 = .ok (.invokevirtual 143, 3) := by decide +kernel
theorem dX12_drop_34 : decode cX12_drop 34 = .ok (.ireturn, 1) := by decide +kernel
theorem dX12_drop_35 : decode cX12_drop 35 = .ok (.aload_n 0, 1) := by decide +kernel
theorem dX12_drop_36 : decode cX12_drop 36 = .ok (.getfield 17, 3) := by decide +kernel
theorem dX12_drop_39 : decode cX12_drop 39 = .ok (.iload_n 1, 1) := by decide +kernel
theorem dX12_drop_40 : decode cX12_drop 40 = .ok (.iconst (-1), 1) := by decide +kernel
theorem dX12_drop_41 : decode cX12_drop 41 = .ok (.iastore, 1) := by decide +kernel
theorem dX12_drop_42 : decode cX12_drop 42 = .ok (.aload_n 0, 1) := by decide +kernel
theorem dX12_drop_43 : decode cX12_drop 43 = .ok (.getfield 21, 3) := by decide +kernel
theorem dX12_drop_46 : decode cX12_drop 46 = .ok (.iload_n 1, 1) := by decide +kernel
theorem dX12_drop_47 : decode cX12_drop 47 = .ok (.iaload, 1) := by decide +kernel
theorem dX12_drop_48 : decode cX12_drop 48 = .ok (.ireturn, 1) := by decide +kernel
theorem dX12_lookItems_0 : decode cX12_lookItems 0 = .ok (.aload_n 0, 1) := by decide +kernel
theorem dX12_lookItems_1 : decode cX12_lookItems 1 = .ok (.getfield 17, 3) := by decide +kernel
theorem dX12_lookItems_4 : decode cX12_lookItems 4 = .ok (.iload_n 1, 1) := by decide +kernel
theorem dX12_lookItems_5 : decode cX12_lookItems 5 = .ok (.iaload, 1) := by decide +kernel
theorem dX12_lookItems_6 : decode cX12_lookItems 6 = .ok (.ifCond .ge 9, 3) := by decide +kernel
theorem dX12_lookItems_9 : decode cX12_lookItems 9 = .ok (.aload_n 0, 1) := by decide +kernel
theorem dX12_lookItems_10 : decode cX12_lookItems 10 = .ok (.iconst 1, 1) := by decide +kernel
theorem dX12_lookItems_11 : decode cX12_lookItems 11 = .ok (.invokevirtual 143, 3) := by decide +kernel
theorem dX12_lookItems_14 : decode cX12_lookItems 14 = .ok (.ireturn, 1) := by decide +kernel
theorem dX12_lookItems_15 : decode cX12_lookItems 15 = .ok (.iload_n 2, 1) := by decide +kernel
theorem dX12_lookItems_16 : decode cX12_lookItems 16 = .ok (.ifCond .lt 19, 3) := by decide +kernel
theorem dX12_lookItems_19 : decode cX12_lookItems 19 = .ok (.iload_n 2, 1) := by decide +kernel
theorem dX12_lookItems_20 : decode cX12_lookItems 20 = .ok (.i2l, 1) := by decide +kernel
theorem dX12_lookItems_21 : decode cX12_lookItems 21 = .ok (.iload_n 3, 1) := by decide +kernel
theorem dX12_lookItems_22 : decode cX12_lookItems 22 = .ok (.i2l, 1) := by decide +kernel
theorem dX12_lookItems_23 : decode cX12_lookItems 23 = .ok (.ladd, 1) := by decide +kernel
theorem dX12_lookItems_24 : decode cX12_lookItems 24 = .ok (.aload_n 0, 1) := by decide +kernel
theorem dX12_lookItems_25 : decode cX12_lookItems 25 = .ok (.getfield 21, 3) := by decide +kernel
theorem dX12_lookItems_28 : decode cX12_lookItems 28 = .ok (.iload_n 1, 1) := by decide +kernel
theorem dX12_lookItems_29 : decode cX12_lookItems 29 = .ok (.iaload, 1) := by decide +kernel
theorem dX12_lookItems_30 : decode cX12_lookItems 30 = .ok (.i2l, 1) := by decide +kernel
theorem dX12_lookItems_31 : decode cX12_lookItems 31 = .ok (.lcmp, 1) := by decide +kernel
theorem dX12_lookItems_32 : decode cX12_lookItems 32 = .ok (.ifCond .le 11, 3) := by decide +kernel
theorem dX12_lookItems_35 : decode cX12_lookItems 35 = .ok (.aload_n 0, 1) := by decide +kernel
theorem dX12_lookItems_36 : decode cX12_lookItems 36 = .ok (.iconst 2, 1) := by decide +kernel
theorem dX12_lookItems_37 : decode cX12_lookItems 37 = .ok (.invokevirtual 143, 3) := by decide +kernel
theorem dX12_lookItems_40 : decode cX12_lookItems 40 = .ok (.goto 4, 3) := by decide +kernel
theorem dX12_lookItems_43 : decode cX12_lookItems 43 = .ok (.iconst 0, 1) := by decide +kernel
theorem dX12_lookItems_44 : decode cX12_lookItems 44 = .ok (.ireturn, 1) := by decide +kernel
theorem dX12_isGate_0 : decode cX12_isGate 0 = .ok (.iload_n 0, 1) := by decide +kernel
theorem dX12_isGate_1 : decode cX12_isGate 1 = .ok (.i2l, 1) := by decide +kernel
theorem dX12_isGate_2 : decode cX12_isGate 2 = .ok (.lconst 0, 1) := by decide +kernel
theorem dX12_isGate_3 : decode cX12_isGate 3 = .ok (.ldc2_w 147, 3) := by decide +kernel
theorem dX12_isGate_6 : decode cX12_isGate 6 = .ok (.invokestatic 132, 3) := by decide +kernel
theorem dX12_isGate_9 : decode cX12_isGate 9 = .ok (.ireturn, 1) := by decide +kernel
theorem dX12_isDay_0 : decode cX12_isDay 0 = .ok (.iload_n 0, 1) := by decide +kernel
theorem dX12_isDay_1 : decode cX12_isDay 1 = .ok (.i2l, 1) := by decide +kernel
theorem dX12_isDay_2 : decode cX12_isDay 2 = .ok (.lconst 0, 1) := by decide +kernel
theorem dX12_isDay_3 : decode cX12_isDay 3 = .ok (.ldc2_w 149, 3) := by decide +kernel
theorem dX12_isDay_6 : decode cX12_isDay 6 = .ok (.invokestatic 132, 3) := by decide +kernel
theorem dX12_isDay_9 : decode cX12_isDay 9 = .ok (.ireturn, 1) := by decide +kernel
theorem dX12_isMinute_0 : decode cX12_isMinute 0 = .ok (.iload_n 0, 1) := by decide +kernel
theorem dX12_isMinute_1 : decode cX12_isMinute 1 = .ok (.i2l, 1) := by decide +kernel
theorem dX12_isMinute_2 : decode cX12_isMinute 2 = .ok (.lconst 0, 1) := by decide +kernel
theorem dX12_isMinute_3 : decode cX12_isMinute 3 = .ok (.ldc2_w 151, 3) := by decide +kernel
theorem dX12_isMinute_6 : decode cX12_isMinute 6 = .ok (.invokestatic 132, 3) := by decide +kernel
theorem dX12_isMinute_9 : decode cX12_isMinute 9 = .ok (.ireturn, 1) := by decide +kernel
theorem dX12_isSpot_0 : decode cX12_isSpot 0 = .ok (.iload_n 0, 1) := by decide +kernel
theorem dX12_isSpot_1 : decode cX12_isSpot 1 = .ok (.i2l, 1) := by decide +kernel
theorem dX12_isSpot_2 : decode cX12_isSpot 2 = .ok (.lconst 0, 1) := by decide +kernel
theorem dX12_isSpot_3 : decode cX12_isSpot 3 = .ok (.ldc2_w 149, 3) := by decide +kernel
theorem dX12_isSpot_6 : decode cX12_isSpot 6 = .ok (.invokestatic 132, 3) := by decide +kernel
theorem dX12_isSpot_9 : decode cX12_isSpot 9 = .ok (.ifCond .eq 19, 3) := by decide +kernel
theorem dX12_isSpot_12 : decode cX12_isSpot 12 = .ok (.iload_n 1, 1) := by decide +kernel
theorem dX12_isSpot_13 : decode cX12_isSpot 13 = .ok (.i2l, 1) := by decide +kernel
theorem dX12_isSpot_14 : decode cX12_isSpot 14 = .ok (.lconst 0, 1) := by decide +kernel
theorem dX12_isSpot_15 : decode cX12_isSpot 15 = .ok (.ldc2_w 149, 3) := by decide +kernel
theorem dX12_isSpot_18 : decode cX12_isSpot 18 = .ok (.invokestatic 132, 3) := by decide +kernel
theorem dX12_isSpot_21 : decode cX12_isSpot 21 = .ok (.ifCond .eq 7, 3) := by decide +kernel
theorem dX12_isSpot_24 : decode cX12_isSpot 24 = .ok (.iconst 1, 1) := by decide +kernel
theorem dX12_isSpot_25 : decode cX12_isSpot 25 = .ok (.goto 4, 3) := by decide +kernel
theorem dX12_isSpot_28 : decode cX12_isSpot 28 = .ok (.iconst 0, 1) := by decide +kernel
theorem dX12_isSpot_29 : decode cX12_isSpot 29 = .ok (.ireturn, 1) := by decide +kernel
theorem dX12_bell_0 : decode cX12_bell 0 = .ok (.aload_n 0, 1) := by decide +kernel
theorem dX12_bell_1 : decode cX12_bell 1 = .ok (.iconst 0, 1) := by decide +kernel
theorem dX12_bell_2 : decode cX12_bell 2 = .ok (.putfield 1, 3) := by decide +kernel
theorem dX12_bell_5 : decode cX12_bell 5 = .ok (.iload_n 1, 1) := by decide +kernel
theorem dX12_bell_6 : decode cX12_bell 6 = .ok (.invokestatic 153, 3) := by decide +kernel
theorem dX12_bell_9 : decode cX12_bell 9 = .ok (.ifCond .eq 25, 3) := by decide +kernel
theorem dX12_bell_12 : decode cX12_bell 12 = .ok (.iload_n 2, 1) := by decide +kernel
theorem dX12_bell_13 : decode cX12_bell 13 = .ok (.invokestatic 156, 3) := by decide +kernel
theorem dX12_bell_16 : decode cX12_bell 16 = .ok (.ifCond .eq 18, 3) := by decide +kernel
theorem dX12_bell_19 : decode cX12_bell 19 = .ok (.iload_n 3, 1) := by decide +kernel
theorem dX12_bell_20 : decode cX12_bell 20 = .ok (.i2l, 1) := by decide +kernel
theorem dX12_bell_21 : decode cX12_bell 21 = .ok (.iload_n 2, 1) := by decide +kernel
theorem dX12_bell_22 : decode cX12_bell 22 = .ok (.iconst 1, 1) := by decide +kernel
theorem dX12_bell_23 : decode cX12_bell 23 = .ok (.iadd, 1) := by decide +kernel
theorem dX12_bell_24 : decode cX12_bell 24 = .ok (.i2l, 1) := by decide +kernel
theorem dX12_bell_25 : decode cX12_bell 25 = .ok (.ldc2_w 159, 3) := by decide +kernel
theorem dX12_bell_28 : decode cX12_bell 28 = .ok (.invokestatic 132, 3) := by decide +kernel
theorem dX12_bell_31 : decode cX12_bell 31 = .ok (.ifCond .ne 6, 3) := by decide +kernel
theorem dX12_bell_34 : decode cX12_bell 34 = .ok (.ldc 142, 2) := by decide +kernel
theorem dX12_bell_36 : decode cX12_bell 36 = .ok (.ireturn, 1) := by decide +kernel
theorem dX12_bell_37 : decode cX12_bell 37 = .ok (.aload_n 0, 1) := by decide +kernel
theorem dX12_bell_38 : decode cX12_bell 38 = .ok (.getfield 27, 3) := by decide +kernel
theorem dX12_bell_41 : decode cX12_bell 41 = .ok (.iload_n 1, 1) := by decide +kernel
theorem dX12_bell_42 : decode cX12_bell 42 = .ok (.iload_n 2, 1) := by decide +kernel
theorem dX12_bell_43 : decode cX12_bell 43 = .ok (.iastore, 1) := by decide +kernel
theorem dX12_bell_44 : decode cX12_bell 44 = .ok (.aload_n 0, 1) := by decide +kernel
theorem dX12_bell_45 : decode cX12_bell 45 = .ok (.getfield 30, 3) := by decide +kernel
theorem dX12_bell_48 : decode cX12_bell 48 = .ok (.iload_n 1, 1) := by decide +kernel
theorem dX12_bell_49 : decode cX12_bell 49 = .ok (.iload_n 3, 1) := by decide +kernel
theorem dX12_bell_50 : decode cX12_bell 50 = .ok (.iastore, 1) := by decide +kernel
theorem dX12_bell_51 : decode cX12_bell 51 = .ok (.iconst 1, 1) := by decide +kernel
theorem dX12_bell_52 : decode cX12_bell 52 = .ok (.ireturn, 1) := by decide +kernel
theorem dX12_part_0 : decode cX12_part 0 = .ok (.aload_n 0, 1) := by decide +kernel
theorem dX12_part_1 : decode cX12_part 1 = .ok (.iconst 0, 1) := by decide +kernel
theorem dX12_part_2 : decode cX12_part 2 = .ok (.putfield 1, 3) := by decide +kernel
theorem dX12_part_5 : decode cX12_part 5 = .ok (.iload_n 1, 1) := by decide +kernel
theorem dX12_part_6 : decode cX12_part 6 = .ok (.invokestatic 153, 3) := by decide +kernel
theorem dX12_part_9 : decode cX12_part 9 = .ok (.ifCond .eq 15, 3) := by decide +kernel
theorem dX12_part_12 : decode cX12_part 12 = .ok (.iload_n 2, 1) := by decide +kernel
theorem dX12_part_13 : decode cX12_part 13 = .ok (.i2l, 1) := by decide +kernel
theorem dX12_part_14 : decode cX12_part 14 = .ok (.lconst 1, 1) := by decide +kernel
theorem dX12_part_15 : decode cX12_part 15 = .ok (.ldc2_w 161, 3) := by decide +kernel
theorem dX12_part_18 : decode cX12_part 18 = .ok (.invokestatic 132, 3) := by decide +kernel
theorem dX12_part_21 : decode cX12_part 21 = .ok (.ifCond .ne 6, 3) := by decide +kernel
theorem dX12_part_24 : decode cX12_part 24 = .ok (.ldc 142, 2) := by decide +kernel
theorem dX12_part_26 : decode cX12_part 26 = .ok (.ireturn, 1) := by decide +kernel
theorem dX12_part_27 : decode cX12_part 27 = .ok (.aload_n 0, 1) := by decide +kernel
theorem dX12_part_28 : decode cX12_part 28 = .ok (.getfield 33, 3) := by decide +kernel
theorem dX12_part_31 : decode cX12_part 31 = .ok (.iload_n 1, 1) := by decide +kernel
theorem dX12_part_32 : decode cX12_part 32 = .ok (.iaload, 1) := by decide +kernel
theorem dX12_part_33 : decode cX12_part 33 = .ok (.istore_n 3, 1) := by decide +kernel
theorem dX12_part_34 : decode cX12_part 34 = .ok (.aload_n 0, 1) := by decide +kernel
theorem dX12_part_35 : decode cX12_part 35 = .ok (.getfield 33, 3) := by decide +kernel
theorem dX12_part_38 : decode cX12_part 38 = .ok (.iload_n 1, 1) := by decide +kernel
theorem dX12_part_39 : decode cX12_part 39 = .ok (.iload_n 2, 1) := by decide +kernel
theorem dX12_part_40 : decode cX12_part 40 = .ok (.iastore, 1) := by decide +kernel
theorem dX12_part_41 : decode cX12_part 41 = .ok (.iload_n 3, 1) := by decide +kernel
theorem dX12_part_42 : decode cX12_part 42 = .ok (.ireturn, 1) := by decide +kernel
theorem dX12_stands_0 : decode cX12_stands 0 = .ok (.aload_n 0, 1) := by decide +kernel
theorem dX12_stands_1 : decode cX12_stands 1 = .ok (.iconst 0, 1) := by decide +kernel
theorem dX12_stands_2 : decode cX12_stands 2 = .ok (.putfield 1, 3) := by decide +kernel
theorem dX12_stands_5 : decode cX12_stands 5 = .ok (.iload_n 1, 1) := by decide +kernel
theorem dX12_stands_6 : decode cX12_stands 6 = .ok (.invokestatic 153, 3) := by decide +kernel
theorem dX12_stands_9 : decode cX12_stands 9 = .ok (.ifCond .eq 11, 3) := by decide +kernel
theorem dX12_stands_12 : decode cX12_stands 12 = .ok (.iload_n 2, 1) := by decide +kernel
theorem dX12_stands_13 : decode cX12_stands 13 = .ok (.iload_n 3, 1) := by decide +kernel
theorem dX12_stands_14 : decode cX12_stands 14 = .ok (.invokestatic 163, 3) := by decide +kernel
theorem dX12_stands_17 : decode cX12_stands 17 = .ok (.ifCond .ne 6, 3) := by decide +kernel
theorem dX12_stands_20 : decode cX12_stands 20 = .ok (.ldc 142, 2) := by decide +kernel
theorem dX12_stands_22 : decode cX12_stands 22 = .ok (.ireturn, 1) := by decide +kernel
theorem dX12_stands_23 : decode cX12_stands 23 = .ok (.aload_n 0, 1) := by decide +kernel
theorem dX12_stands_24 : decode cX12_stands 24 = .ok (.getfield 36, 3) := by decide +kernel
theorem dX12_stands_27 : decode cX12_stands 27 = .ok (.iload_n 1, 1) := by decide +kernel
theorem dX12_stands_28 : decode cX12_stands 28 = .ok (.iload_n 2, 1) := by decide +kernel
theorem dX12_stands_29 : decode cX12_stands 29 = .ok (.iastore, 1) := by decide +kernel
theorem dX12_stands_30 : decode cX12_stands 30 = .ok (.aload_n 0, 1) := by decide +kernel
theorem dX12_stands_31 : decode cX12_stands 31 = .ok (.getfield 39, 3) := by decide +kernel
theorem dX12_stands_34 : decode cX12_stands 34 = .ok (.iload_n 1, 1) := by decide +kernel
theorem dX12_stands_35 : decode cX12_stands 35 = .ok (.iload_n 3, 1) := by decide +kernel
theorem dX12_stands_36 : decode cX12_stands 36 = .ok (.iastore, 1) := by decide +kernel
theorem dX12_stands_37 : decode cX12_stands 37 = .ok (.iconst 1, 1) := by decide +kernel
theorem dX12_stands_38 : decode cX12_stands 38 = .ok (.ireturn, 1) := by decide +kernel
theorem dX12_isOpen_0 : decode cX12_isOpen 0 = .ok (.iload_n 2, 1) := by decide +kernel
theorem dX12_isOpen_1 : decode cX12_isOpen 1 = .ok (.aload_n 0, 1) := by decide +kernel
theorem dX12_isOpen_2 : decode cX12_isOpen 2 = .ok (.getfield 27, 3) := by decide +kernel
theorem dX12_isOpen_5 : decode cX12_isOpen 5 = .ok (.iload_n 1, 1) := by decide +kernel
theorem dX12_isOpen_6 : decode cX12_isOpen 6 = .ok (.iaload, 1) := by decide +kernel
theorem dX12_isOpen_7 : decode cX12_isOpen 7 = .ok (.if_icmp .lt 17, 3) := by decide +kernel
theorem dX12_isOpen_10 : decode cX12_isOpen 10 = .ok (.iload_n 2, 1) := by decide +kernel
theorem dX12_isOpen_11 : decode cX12_isOpen 11 = .ok (.aload_n 0, 1) := by decide +kernel
theorem dX12_isOpen_12 : decode cX12_isOpen 12 = .ok (.getfield 30, 3) := by decide +kernel
theorem dX12_isOpen_15 : decode cX12_isOpen 15 = .ok (.iload_n 1, 1) := by decide +kernel
theorem dX12_isOpen_16 : decode cX12_isOpen 16 = .ok (.iaload, 1) := by decide +kernel
theorem dX12_isOpen_17 : decode cX12_isOpen 17 = .ok (.if_icmp .ge 7, 3) := by decide +kernel
theorem dX12_isOpen_20 : decode cX12_isOpen 20 = .ok (.iconst 1, 1) := by decide +kernel
theorem dX12_isOpen_21 : decode cX12_isOpen 21 = .ok (.goto 4, 3) := by decide +kernel
theorem dX12_isOpen_24 : decode cX12_isOpen 24 = .ok (.iconst 0, 1) := by decide +kernel
theorem dX12_isOpen_25 : decode cX12_isOpen 25 = .ok (.ireturn, 1) := by decide +kernel
theorem dX12_feed_0 : decode cX12_feed 0 = .ok (.aload_n 0, 1) := by decide +kernel
theorem dX12_feed_1 : decode cX12_feed 1 = .ok (.iconst 0, 1) := by decide +kernel
theorem dX12_feed_2 : decode cX12_feed 2 = .ok (.putfield 1, 3) := by decide +kernel
theorem dX12_feed_5 : decode cX12_feed 5 = .ok (.iload_n 3, 1) := by decide +kernel
theorem dX12_feed_6 : decode cX12_feed 6 = .ok (.i2l, 1) := by decide +kernel
theorem dX12_feed_7 : decode cX12_feed 7 = .ok (.lconst 1, 1) := by decide +kernel
theorem dX12_feed_8 : decode cX12_feed 8 = .ok (.ldc2_w 147, 3) := by decide +kernel
theorem dX12_feed_11 : decode cX12_feed 11 = .ok (.invokestatic 132, 3) := by decide +kernel
theorem dX12_feed_14 : decode cX12_feed 14 = .ok (.ifCond .ne 6, 3) := by decide +kernel
theorem dX12_feed_17 : decode cX12_feed 17 = .ok (.ldc 142, 2) := by decide +kernel
theorem dX12_feed_19 : decode cX12_feed 19 = .ok (.ireturn, 1) := by decide +kernel
theorem dX12_feed_20 : decode cX12_feed 20 = .ok (.aload_n 0, 1) := by decide +kernel
theorem dX12_feed_21 : decode cX12_feed 21 = .ok (.getfield 167, 3) := by decide +kernel
theorem dX12_feed_24 : decode cX12_feed 24 = .ok (.iload_n 3, 1) := by decide +kernel
theorem dX12_feed_25 : decode cX12_feed 25 = .ok (.iadd, 1) := by decide +kernel
theorem dX12_feed_26 : decode cX12_feed 26 = .ok (.sipush 400, 3) := by decide +kernel
theorem dX12_feed_29 : decode cX12_feed 29 = .ok (.if_icmp .le 6, 3) := by decide +kernel
theorem dX12_feed_32 : decode cX12_feed 32 = .ok (.ldc 170, 2) := by decide +kernel
theorem dX12_feed_34 : decode cX12_feed 34 = .ok (.ireturn, 1) := by decide +kernel
theorem dX12_feed_35 : decode cX12_feed 35 = .ok (.iload_n 3, 1) := by decide +kernel
theorem dX12_feed_36 : decode cX12_feed 36 = .ok (.iconst 1, 1) := by decide +kernel
theorem dX12_feed_37 : decode cX12_feed 37 = .ok (.isub, 1) := by decide +kernel
theorem dX12_feed_38 : decode cX12_feed 38 = .ok (.istore 4, 2) := by decide +kernel
theorem dX12_feed_40 : decode cX12_feed 40 = .ok (.iload 4, 2) := by decide +kernel
theorem dX12_feed_42 : decode cX12_feed 42 = .ok (.ifCond .lt 40, 3) := by decide +kernel
theorem dX12_feed_45 : decode cX12_feed 45 = .ok (.aload_n 0, 1) := by decide +kernel
theorem dX12_feed_46 : decode cX12_feed 46 = .ok (.getfield 54, 3) := by decide +kernel
theorem dX12_feed_49 : decode cX12_feed 49 = .ok (.aload_n 0, 1) := by decide +kernel
theorem dX12_feed_50 : decode cX12_feed 50 = .ok (.getfield 167, 3) := by decide +kernel
theorem dX12_feed_53 : decode cX12_feed 53 = .ok (.lload_n 1, 1) := by decide +kernel
theorem dX12_feed_54 : decode cX12_feed 54 = .ok (.bipush 8, 2) := by decide +kernel
theorem dX12_feed_56 : decode cX12_feed 56 = .ok (.iload 4, 2) := by decide +kernel
theorem dX12_feed_58 : decode cX12_feed 58 = .ok (.imul, 1) := by decide +kernel
theorem dX12_feed_59 : decode cX12_feed 59 = .ok (.lshr, 1) := by decide +kernel
theorem dX12_feed_60 : decode cX12_feed 60 = .ok (.ldc2_w 171, 3) := by decide +kernel
theorem dX12_feed_63 : decode cX12_feed 63 = .ok (.land, 1) := by decide +kernel
theorem dX12_feed_64 : decode cX12_feed 64 = .ok (.l2i, 1) := by decide +kernel
theorem dX12_feed_65 : decode cX12_feed 65 = .ok (.iastore, 1) := by decide +kernel
theorem dX12_feed_66 : decode cX12_feed 66 = .ok (.aload_n 0, 1) := by decide +kernel
theorem dX12_feed_67 : decode cX12_feed 67 = .ok (.dup, 1) := by decide +kernel
theorem dX12_feed_68 : decode cX12_feed 68 = .ok (.getfield 167, 3) := by decide +kernel
theorem dX12_feed_71 : decode cX12_feed 71 = .ok (.iconst 1, 1) := by decide +kernel
theorem dX12_feed_72 : decode cX12_feed 72 = .ok (.iadd, 1) := by decide +kernel
theorem dX12_feed_73 : decode cX12_feed 73 = .ok (.putfield 167, 3) := by decide +kernel
theorem dX12_feed_76 : decode cX12_feed 76 = .ok (.iinc 4 (-1), 3) := by decide +kernel
theorem dX12_feed_79 : decode cX12_feed 79 = .ok (.goto (-39), 3) := by decide +kernel
theorem dX12_feed_82 : decode cX12_feed 82 = .ok (.aload_n 0, 1) := by decide +kernel
theorem dX12_feed_83 : decode cX12_feed 83 = .ok (.getfield 167, 3) := by decide +kernel
theorem dX12_feed_86 : decode cX12_feed 86 = .ok (.ireturn, 1) := by decide +kernel
theorem dX12_byteAt_0 : decode cX12_byteAt 0 = .ok (.iload_n 1, 1) := by decide +kernel
theorem dX12_byteAt_1 : decode cX12_byteAt 1 = .ok (.aload_n 0, 1) := by decide +kernel
theorem dX12_byteAt_2 : decode cX12_byteAt 2 = .ok (.getfield 173, 3) := by decide +kernel
theorem dX12_byteAt_5 : decode cX12_byteAt 5 = .ok (.if_icmp .ge 12, 3) := by decide +kernel
theorem dX12_byteAt_8 : decode cX12_byteAt 8 = .ok (.aload_n 0, 1) := by decide +kernel
theorem dX12_byteAt_9 : decode cX12_byteAt 9 = .ok (.getfield 54, 3) := by decide +kernel
theorem dX12_byteAt_12 : decode cX12_byteAt 12 = .ok (.iload_n 1, 1) := by decide +kernel
theorem dX12_byteAt_13 : decode cX12_byteAt 13 = .ok (.iaload, 1) := by decide +kernel
theorem dX12_byteAt_14 : decode cX12_byteAt 14 = .ok (.goto 5, 3) := by decide +kernel
theorem dX12_byteAt_17 : decode cX12_byteAt 17 = .ok (.ldc 129, 2) := by decide +kernel
theorem dX12_byteAt_19 : decode cX12_byteAt 19 = .ok (.ireturn, 1) := by decide +kernel
theorem dX12_isLetter_0 : decode cX12_isLetter 0 = .ok (.iload_n 0, 1) := by decide +kernel
theorem dX12_isLetter_1 : decode cX12_isLetter 1 = .ok (.bipush 97, 2) := by decide +kernel
theorem dX12_isLetter_3 : decode cX12_isLetter 3 = .ok (.if_icmp .lt 13, 3) := by decide +kernel
theorem dX12_isLetter_6 : decode cX12_isLetter 6 = .ok (.iload_n 0, 1) := by decide +kernel
theorem dX12_isLetter_7 : decode cX12_isLetter 7 = .ok (.bipush 122, 2) := by decide +kernel
theorem dX12_isLetter_9 : decode cX12_isLetter 9 = .ok (.if_icmp .gt 7, 3) := by decide +kernel
theorem dX12_isLetter_12 : decode cX12_isLetter 12 = .ok (.iconst 1, 1) := by decide +kernel
theorem dX12_isLetter_13 : decode cX12_isLetter 13 = .ok (.goto 4, 3) := by decide +kernel
theorem dX12_isLetter_16 : decode cX12_isLetter 16 = .ok (.iconst 0, 1) := by decide +kernel
theorem dX12_isLetter_17 : decode cX12_isLetter 17 = .ok (.ireturn, 1) := by decide +kernel
theorem dX12_isFigure_0 : decode cX12_isFigure 0 = .ok (.iload_n 0, 1) := by decide +kernel
theorem dX12_isFigure_1 : decode cX12_isFigure 1 = .ok (.bipush 48, 2) := by decide +kernel
theorem dX12_isFigure_3 : decode cX12_isFigure 3 = .ok (.if_icmp .lt 13, 3) := by decide +kernel
theorem dX12_isFigure_6 : decode cX12_isFigure 6 = .ok (.iload_n 0, 1) := by decide +kernel
theorem dX12_isFigure_7 : decode cX12_isFigure 7 = .ok (.bipush 57, 2) := by decide +kernel
theorem dX12_isFigure_9 : decode cX12_isFigure 9 = .ok (.if_icmp .gt 7, 3) := by decide +kernel
theorem dX12_isFigure_12 : decode cX12_isFigure 12 = .ok (.iconst 1, 1) := by decide +kernel
theorem dX12_isFigure_13 : decode cX12_isFigure 13 = .ok (.goto 4, 3) := by decide +kernel
theorem dX12_isFigure_16 : decode cX12_isFigure 16 = .ok (.iconst 0, 1) := by decide +kernel
theorem dX12_isFigure_17 : decode cX12_isFigure 17 = .ok (.ireturn, 1) := by decide +kernel
theorem dX12_step_0 : decode cX12_step 0 = .ok (.aload_n 0, 1) := by decide +kernel
theorem dX12_step_1 : decode cX12_step 1 = .ok (.aload_n 0, 1) := by decide +kernel
theorem dX12_step_2 : decode cX12_step 2 = .ok (.getfield 176, 3) := by decide +kernel
theorem dX12_step_5 : decode cX12_step 5 = .ok (.invokevirtual 179, 3) := by decide +kernel
theorem dX12_step_8 : decode cX12_step 8 = .ok (.bipush 32, 2) := by decide +kernel
theorem dX12_step_10 : decode cX12_step 10 = .ok (.if_icmp .eq 16, 3) := by decide +kernel
theorem dX12_step_13 : decode cX12_step 13 = .ok (.aload_n 0, 1) := by decide +kernel
theorem dX12_step_14 : decode cX12_step 14 = .ok (.aload_n 0, 1) := by decide +kernel
theorem dX12_step_15 : decode cX12_step 15 = .ok (.getfield 176, 3) := by decide +kernel
theorem dX12_step_18 : decode cX12_step 18 = .ok (.invokevirtual 179, 3) := by decide +kernel
theorem dX12_step_21 : decode cX12_step 21 = .ok (.bipush 10, 2) := by decide +kernel
theorem dX12_step_23 : decode cX12_step 23 = .ok (.if_icmp .ne 16, 3) := by decide +kernel
theorem dX12_step_26 : decode cX12_step 26 = .ok (.aload_n 0, 1) := by decide +kernel
theorem dX12_step_27 : decode cX12_step 27 = .ok (.dup, 1) := by decide +kernel
theorem dX12_step_28 : decode cX12_step 28 = .ok (.getfield 176, 3) := by decide +kernel
theorem dX12_step_31 : decode cX12_step 31 = .ok (.iconst 1, 1) := by decide +kernel
theorem dX12_step_32 : decode cX12_step 32 = .ok (.iadd, 1) := by decide +kernel
theorem dX12_step_33 : decode cX12_step 33 = .ok (.putfield 176, 3) := by decide +kernel
theorem dX12_step_36 : decode cX12_step 36 = .ok (.goto (-36), 3) := by decide +kernel
theorem dX12_step_39 : decode cX12_step 39 = .ok (.aload_n 0, 1) := by decide +kernel
theorem dX12_step_40 : decode cX12_step 40 = .ok (.aload_n 0, 1) := by decide +kernel
theorem dX12_step_41 : decode cX12_step 41 = .ok (.getfield 176, 3) := by decide +kernel
theorem dX12_step_44 : decode cX12_step 44 = .ok (.putfield 182, 3) := by decide +kernel
theorem dX12_step_47 : decode cX12_step 47 = .ok (.aload_n 0, 1) := by decide +kernel
theorem dX12_step_48 : decode cX12_step 48 = .ok (.aload_n 0, 1) := by decide +kernel
theorem dX12_step_49 : decode cX12_step 49 = .ok (.getfield 176, 3) := by decide +kernel
theorem dX12_step_52 : decode cX12_step 52 = .ok (.invokevirtual 179, 3) := by decide +kernel
theorem dX12_step_55 : decode cX12_step 55 = .ok (.istore_n 1, 1) := by decide +kernel
theorem dX12_step_56 : decode cX12_step 56 = .ok (.iload_n 1, 1) := by decide +kernel
theorem dX12_step_57 : decode cX12_step 57 = .ok (.ldc 129, 2) := by decide +kernel
theorem dX12_step_59 : decode cX12_step 59 = .ok (.if_icmp .ne 11, 3) := by decide +kernel
theorem dX12_step_62 : decode cX12_step 62 = .ok (.aload_n 0, 1) := by decide +kernel
theorem dX12_step_63 : decode cX12_step 63 = .ok (.iconst 1, 1) := by decide +kernel
theorem dX12_step_64 : decode cX12_step 64 = .ok (.putfield 185, 3) := by decide +kernel
theorem dX12_step_67 : decode cX12_step 67 = .ok (.goto 129, 3) := by decide +kernel
theorem dX12_step_70 : decode cX12_step 70 = .ok (.iload_n 1, 1) := by decide +kernel
theorem dX12_step_71 : decode cX12_step 71 = .ok (.invokestatic 188, 3) := by decide +kernel
theorem dX12_step_74 : decode cX12_step 74 = .ok (.ifCond .eq 38, 3) := by decide +kernel
theorem dX12_step_77 : decode cX12_step 77 = .ok (.aload_n 0, 1) := by decide +kernel
theorem dX12_step_78 : decode cX12_step 78 = .ok (.aload_n 0, 1) := by decide +kernel
theorem dX12_step_79 : decode cX12_step 79 = .ok (.getfield 176, 3) := by decide +kernel
theorem dX12_step_82 : decode cX12_step 82 = .ok (.invokevirtual 179, 3) := by decide +kernel
theorem dX12_step_85 : decode cX12_step 85 = .ok (.invokestatic 188, 3) := by decide +kernel
theorem dX12_step_88 : decode cX12_step 88 = .ok (.ifCond .eq 16, 3) := by decide +kernel
theorem dX12_step_91 : decode cX12_step 91 = .ok (.aload_n 0, 1) := by decide +kernel
theorem dX12_step_92 : decode cX12_step 92 = .ok (.dup, 1) := by decide +kernel
theorem dX12_step_93 : decode cX12_step 93 = .ok (.getfield 176, 3) := by decide +kernel
theorem dX12_step_96 : decode cX12_step 96 = .ok (.iconst 1, 1) := by decide +kernel
theorem dX12_step_97 : decode cX12_step 97 = .ok (.iadd, 1) := by decide +kernel
theorem dX12_step_98 : decode cX12_step 98 = .ok (.putfield 176, 3) := by decide +kernel
theorem dX12_step_101 : decode cX12_step 101 = .ok (.goto (-24), 3) := by decide +kernel
theorem dX12_step_104 : decode cX12_step 104 = .ok (.aload_n 0, 1) := by decide +kernel
theorem dX12_step_105 : decode cX12_step 105 = .ok (.iconst 2, 1) := by decide +kernel
theorem dX12_step_106 : decode cX12_step 106 = .ok (.putfield 185, 3) := by decide +kernel
theorem dX12_step_109 : decode cX12_step 109 = .ok (.goto 87, 3) := by decide +kernel
theorem dX12_step_112 : decode cX12_step 112 = .ok (.iload_n 1, 1) := by decide +kernel
theorem dX12_step_113 : decode cX12_step 113 = .ok (.invokestatic 191, 3) := by decide +kernel
theorem dX12_step_116 : decode cX12_step 116 = .ok (.ifCond .eq 55, 3) := by decide +kernel
theorem dX12_step_119 : decode cX12_step 119 = .ok (.aload_n 0, 1) := by decide +kernel
theorem dX12_step_120 : decode cX12_step 120 = .ok (.aload_n 0, 1) := by decide +kernel
theorem dX12_step_121 : decode cX12_step 121 = .ok (.getfield 176, 3) := by decide +kernel
theorem dX12_step_124 : decode cX12_step 124 = .ok (.invokevirtual 179, 3) := by decide +kernel
theorem dX12_step_127 : decode cX12_step 127 = .ok (.invokestatic 191, 3) := by decide +kernel
theorem dX12_step_130 : decode cX12_step 130 = .ok (.ifCond .eq 16, 3) := by decide +kernel
theorem dX12_step_133 : decode cX12_step 133 = .ok (.aload_n 0, 1) := by decide +kernel
theorem dX12_step_134 : decode cX12_step 134 = .ok (.dup, 1) := by decide +kernel
theorem dX12_step_135 : decode cX12_step 135 = .ok (.getfield 176, 3) := by decide +kernel
theorem dX12_step_138 : decode cX12_step 138 = .ok (.iconst 1, 1) := by decide +kernel
theorem dX12_step_139 : decode cX12_step 139 = .ok (.iadd, 1) := by decide +kernel
theorem dX12_step_140 : decode cX12_step 140 = .ok (.putfield 176, 3) := by decide +kernel
theorem dX12_step_143 : decode cX12_step 143 = .ok (.goto (-24), 3) := by decide +kernel
theorem dX12_step_146 : decode cX12_step 146 = .ok (.aload_n 0, 1) := by decide +kernel
theorem dX12_step_147 : decode cX12_step 147 = .ok (.aload_n 0, 1) := by decide +kernel
theorem dX12_step_148 : decode cX12_step 148 = .ok (.getfield 176, 3) := by decide +kernel
theorem dX12_step_151 : decode cX12_step 151 = .ok (.aload_n 0, 1) := by decide +kernel
theorem dX12_step_152 : decode cX12_step 152 = .ok (.getfield 182, 3) := by decide +kernel
theorem dX12_step_155 : decode cX12_step 155 = .ok (.isub, 1) := by decide +kernel
theorem dX12_step_156 : decode cX12_step 156 = .ok (.iconst 4, 1) := by decide +kernel
theorem dX12_step_157 : decode cX12_step 157 = .ok (.if_icmp .le 7, 3) := by decide +kernel
theorem dX12_step_160 : decode cX12_step 160 = .ok (.iconst 0, 1) := by decide +kernel
theorem dX12_step_161 : decode cX12_step 161 = .ok (.goto 4, 3) := by decide +kernel
theorem dX12_step_164 : decode cX12_step 164 = .ok (.iconst 3, 1) := by decide +kernel
theorem dX12_step_165 : decode cX12_step 165 = .ok (.putfield 185, 3) := by decide +kernel
theorem dX12_step_168 : decode cX12_step 168 = .ok (.goto 28, 3) := by decide +kernel
theorem dX12_step_171 : decode cX12_step 171 = .ok (.aload_n 0, 1) := by decide +kernel
theorem dX12_step_172 : decode cX12_step 172 = .ok (.dup, 1) := by decide +kernel
theorem dX12_step_173 : decode cX12_step 173 = .ok (.getfield 176, 3) := by decide +kernel
theorem dX12_step_176 : decode cX12_step 176 = .ok (.iconst 1, 1) := by decide +kernel
theorem dX12_step_177 : decode cX12_step 177 = .ok (.iadd, 1) := by decide +kernel
theorem dX12_step_178 : decode cX12_step 178 = .ok (.putfield 176, 3) := by decide +kernel
theorem dX12_step_181 : decode cX12_step 181 = .ok (.aload_n 0, 1) := by decide +kernel
theorem dX12_step_182 : decode cX12_step 182 = .ok (.iload_n 1, 1) := by decide +kernel
theorem dX12_step_183 : decode cX12_step 183 = .ok (.bipush 59, 2) := by decide +kernel
theorem dX12_step_185 : decode cX12_step 185 = .ok (.if_icmp .ne 7, 3) := by decide +kernel
theorem dX12_step_188 : decode cX12_step 188 = .ok (.iconst 4, 1) := by decide +kernel
theorem dX12_step_189 : decode cX12_step 189 = .ok (.goto 4, 3) := by decide +kernel
theorem dX12_step_192 : decode cX12_step 192 = .ok (.iconst 0, 1) := by decide +kernel
theorem dX12_step_193 : decode cX12_step 193 = .ok (.putfield 185, 3) := by decide +kernel
theorem dX12_step_196 : decode cX12_step 196 = .ok (.aload_n 0, 1) := by decide +kernel
theorem dX12_step_197 : decode cX12_step 197 = .ok (.aload_n 0, 1) := by decide +kernel
theorem dX12_step_198 : decode cX12_step 198 = .ok (.getfield 176, 3) := by decide +kernel
theorem dX12_step_201 : decode cX12_step 201 = .ok (.putfield 194, 3) := by decide +kernel
theorem dX12_step_204 : decode cX12_step 204 = .ok (.return_, 1) := by decide +kernel
theorem dX12_bad_0 : decode cX12_bad 0 = .ok (.aload_n 0, 1) := by decide +kernel
theorem dX12_bad_1 : decode cX12_bad 1 = .ok (.getfield 197, 3) := by decide +kernel
theorem dX12_bad_4 : decode cX12_bad 4 = .ok (.ifCond .ne 16, 3) := by decide +kernel
theorem dX12_bad_7 : decode cX12_bad 7 = .ok (.aload_n 0, 1) := by decide +kernel
theorem dX12_bad_8 : decode cX12_bad 8 = .ok (.iload_n 1, 1) := by decide +kernel
theorem dX12_bad_9 : decode cX12_bad 9 = .ok (.putfield 197, 3) := by decide +kernel
theorem dX12_bad_12 : decode cX12_bad 12 = .ok (.aload_n 0, 1) := by decide +kernel
theorem dX12_bad_13 : decode cX12_bad 13 = .ok (.aload_n 0, 1) := by decide +kernel
theorem dX12_bad_14 : decode cX12_bad 14 = .ok (.getfield 182, 3) := by decide +kernel
theorem dX12_bad_17 : decode cX12_bad 17 = .ok (.putfield 200, 3) := by decide +kernel
theorem dX12_bad_20 : decode cX12_bad 20 = .ok (.return_, 1) := by decide +kernel
theorem dX12_need_0 : decode cX12_need 0 = .ok (.iload_n 1, 1) := by decide +kernel
theorem dX12_need_1 : decode cX12_need 1 = .ok (.ifCond .ne 8, 3) := by decide +kernel
theorem dX12_need_4 : decode cX12_need 4 = .ok (.aload_n 0, 1) := by decide +kernel
theorem dX12_need_5 : decode cX12_need 5 = .ok (.iconst 1, 1) := by decide +kernel
theorem dX12_need_6 : decode cX12_need 6 = .ok (.invokevirtual 203, 3) := by decide +kernel
theorem dX12_need_9 : decode cX12_need 9 = .ok (.aload_n 0, 1) := by decide +kernel
theorem dX12_need_10 : decode cX12_need 10 = .ok (.getfield 197, 3) := by decide +kernel
theorem dX12_need_13 : decode cX12_need 13 = .ok (.ifCond .ne 7, 3) := by decide +kernel
theorem dX12_need_16 : decode cX12_need 16 = .ok (.aload_n 0, 1) := by decide +kernel
theorem dX12_need_17 : decode cX12_need 17 = .ok (.invokevirtual 207, 3) := by decide +kernel
theorem dX12_need_20 : decode cX12_need 20 = .ok (.return_, 1) := by decide +kernel
theorem dX12_word_0 : decode cX12_word 0 = .ok (.lconst 0, 1) := by decide +kernel
theorem dX12_word_1 : decode cX12_word 1 = .ok (.lstore_n 1, 1) := by decide +kernel
theorem dX12_word_2 : decode cX12_word 2 = .ok (.aload_n 0, 1) := by decide +kernel
theorem dX12_word_3 : decode cX12_word 3 = .ok (.getfield 182, 3) := by decide +kernel
theorem dX12_word_6 : decode cX12_word 6 = .ok (.istore_n 3, 1) := by decide +kernel
theorem dX12_word_7 : decode cX12_word 7 = .ok (.iload_n 3, 1) := by decide +kernel
theorem dX12_word_8 : decode cX12_word 8 = .ok (.aload_n 0, 1) := by decide +kernel
theorem dX12_word_9 : decode cX12_word 9 = .ok (.getfield 194, 3) := by decide +kernel
theorem dX12_word_12 : decode cX12_word 12 = .ok (.if_icmp .ge 44, 3) := by decide +kernel
theorem dX12_word_15 : decode cX12_word 15 = .ok (.aload_n 0, 1) := by decide +kernel
theorem dX12_word_16 : decode cX12_word 16 = .ok (.getfield 185, 3) := by decide +kernel
theorem dX12_word_19 : decode cX12_word 19 = .ok (.iconst 2, 1) := by decide +kernel
theorem dX12_word_20 : decode cX12_word 20 = .ok (.if_icmp .ne 36, 3) := by decide +kernel
theorem dX12_word_23 : decode cX12_word 23 = .ok (.aload_n 0, 1) := by decide +kernel
theorem dX12_word_24 : decode cX12_word 24 = .ok (.getfield 194, 3) := by decide +kernel
theorem dX12_word_27 : decode cX12_word 27 = .ok (.aload_n 0, 1) := by decide +kernel
theorem dX12_word_28 : decode cX12_word 28 = .ok (.getfield 182, 3) := by decide +kernel
theorem dX12_word_31 : decode cX12_word 31 = .ok (.isub, 1) := by decide +kernel
theorem dX12_word_32 : decode cX12_word 32 = .ok (.bipush 8, 2) := by decide +kernel
theorem dX12_word_34 : decode cX12_word 34 = .ok (.if_icmp .ge 22, 3) := by decide +kernel
theorem dX12_word_37 : decode cX12_word 37 = .ok (.lload_n 1, 1) := by decide +kernel
theorem dX12_word_38 : decode cX12_word 38 = .ok (.bipush 8, 2) := by decide +kernel
theorem dX12_word_40 : decode cX12_word 40 = .ok (.lshl, 1) := by decide +kernel
theorem dX12_word_41 : decode cX12_word 41 = .ok (.aload_n 0, 1) := by decide +kernel
theorem dX12_word_42 : decode cX12_word 42 = .ok (.getfield 54, 3) := by decide +kernel
theorem dX12_word_45 : decode cX12_word 45 = .ok (.iload_n 3, 1) := by decide +kernel
theorem dX12_word_46 : decode cX12_word 46 = .ok (.iaload, 1) := by decide +kernel
theorem dX12_word_47 : decode cX12_word 47 = .ok (.i2l, 1) := by decide +kernel
theorem dX12_word_48 : decode cX12_word 48 = .ok (.lor, 1) := by decide +kernel
theorem dX12_word_49 : decode cX12_word 49 = .ok (.lstore_n 1, 1) := by decide +kernel
theorem dX12_word_50 : decode cX12_word 50 = .ok (.iinc 3 1, 3) := by decide +kernel
theorem dX12_word_53 : decode cX12_word 53 = .ok (.goto (-46), 3) := by decide +kernel
theorem dX12_word_56 : decode cX12_word 56 = .ok (.lload_n 1, 1) := by decide +kernel
theorem dX12_word_57 : decode cX12_word 57 = .ok (.lreturn, 1) := by decide +kernel
theorem dX12_numberTo_0 : decode cX12_numberTo 0 = .ok (.aload_n 0, 1) := by decide +kernel
theorem dX12_numberTo_1 : decode cX12_numberTo 1 = .ok (.getfield 197, 3) := by decide +kernel
theorem dX12_numberTo_4 : decode cX12_numberTo 4 = .ok (.ifCond .le 5, 3) := by decide +kernel
theorem dX12_numberTo_7 : decode cX12_numberTo 7 = .ok (.iconst 0, 1) := by decide +kernel
theorem dX12_numberTo_8 : decode cX12_numberTo 8 = .ok (.ireturn, 1) := by decide +kernel
theorem dX12_numberTo_9 : decode cX12_numberTo 9 = .ok (.iconst 0, 1) := by decide +kernel
theorem dX12_numberTo_10 : decode cX12_numberTo 10 = .ok (.istore_n 2, 1) := by decide +kernel
theorem dX12_numberTo_11 : decode cX12_numberTo 11 = .ok (.aload_n 0, 1) := by decide +kernel
theorem dX12_numberTo_12 : decode cX12_numberTo 12 = .ok (.getfield 182, 3) := by decide +kernel
theorem dX12_numberTo_15 : decode cX12_numberTo 15 = .ok (.istore_n 3, 1) := by decide +kernel
theorem dX12_numberTo_16 : decode cX12_numberTo 16 = .ok (.iload_n 3, 1) := by decide +kernel
theorem dX12_numberTo_17 : decode cX12_numberTo 17 = .ok (.aload_n 0, 1) := by decide +kernel
theorem dX12_numberTo_18 : decode cX12_numberTo 18 = .ok (.getfield 194, 3) := by decide +kernel
theorem dX12_numberTo_21 : decode cX12_numberTo 21 = .ok (.if_icmp .ge 32, 3) := by decide +kernel
theorem dX12_numberTo_24 : decode cX12_numberTo 24 = .ok (.aload_n 0, 1) := by decide +kernel
theorem dX12_numberTo_25 : decode cX12_numberTo 25 = .ok (.getfield 185, 3) := by decide +kernel
theorem dX12_numberTo_28 : decode cX12_numberTo 28 = .ok (.iconst 3, 1) := by decide +kernel
theorem dX12_numberTo_29 : decode cX12_numberTo 29 = .ok (.if_icmp .ne 24, 3) := by decide +kernel
theorem dX12_numberTo_32 : decode cX12_numberTo 32 = .ok (.bipush 10, 2) := by decide +kernel
theorem dX12_numberTo_34 : decode cX12_numberTo 34 = .ok (.iload_n 2, 1) := by decide +kernel
theorem dX12_numberTo_35 : decode cX12_numberTo 35 = .ok (.imul, 1) := by decide +kernel
theorem dX12_numberTo_36 : decode cX12_numberTo 36 = .ok (.aload_n 0, 1) := by decide +kernel
theorem dX12_numberTo_37 : decode cX12_numberTo 37 = .ok (.getfield 54, 3) := by decide +kernel
theorem dX12_numberTo_40 : decode cX12_numberTo 40 = .ok (.iload_n 3, 1) := by decide +kernel
theorem dX12_numberTo_41 : decode cX12_numberTo 41 = .ok (.iaload, 1) := by decide +kernel
theorem dX12_numberTo_42 : decode cX12_numberTo 42 = .ok (.iadd, 1) := by decide +kernel
theorem dX12_numberTo_43 : decode cX12_numberTo 43 = .ok (.bipush 48, 2) := by decide +kernel
theorem dX12_numberTo_45 : decode cX12_numberTo 45 = .ok (.isub, 1) := by decide +kernel
theorem dX12_numberTo_46 : decode cX12_numberTo 46 = .ok (.istore_n 2, 1) := by decide +kernel
theorem dX12_numberTo_47 : decode cX12_numberTo 47 = .ok (.iinc 3 1, 3) := by decide +kernel
theorem dX12_numberTo_50 : decode cX12_numberTo 50 = .ok (.goto (-34), 3) := by decide +kernel
theorem dX12_numberTo_53 : decode cX12_numberTo 53 = .ok (.aload_n 0, 1) := by decide +kernel
theorem dX12_numberTo_54 : decode cX12_numberTo 54 = .ok (.getfield 185, 3) := by decide +kernel
theorem dX12_numberTo_57 : decode cX12_numberTo 57 = .ok (.iconst 3, 1) := by decide +kernel
theorem dX12_numberTo_58 : decode cX12_numberTo 58 = .ok (.if_icmp .ne 13, 3) := by decide +kernel
theorem dX12_numberTo_61 : decode cX12_numberTo 61 = .ok (.iload_n 2, 1) := by decide +kernel
theorem dX12_numberTo_62 : decode cX12_numberTo 62 = .ok (.iload_n 1, 1) := by decide +kernel
theorem dX12_numberTo_63 : decode cX12_numberTo 63 = .ok (.if_icmp .le 8, 3) := by decide +kernel
theorem dX12_numberTo_66 : decode cX12_numberTo 66 = .ok (.aload_n 0, 1) := by decide +kernel
theorem dX12_numberTo_67 : decode cX12_numberTo 67 = .ok (.iconst 2, 1) := by decide +kernel
theorem dX12_numberTo_68 : decode cX12_numberTo 68 = .ok (.invokevirtual 203, 3) := by decide +kernel
theorem dX12_numberTo_71 : decode cX12_numberTo 71 = .ok (.aload_n 0, 1) := by decide +kernel
theorem dX12_numberTo_72 : decode cX12_numberTo 72 = .ok (.aload_n 0, 1) := by decide +kernel
theorem dX12_numberTo_73 : decode cX12_numberTo 73 = .ok (.getfield 185, 3) := by decide +kernel
theorem dX12_numberTo_76 : decode cX12_numberTo 76 = .ok (.iconst 3, 1) := by decide +kernel
theorem dX12_numberTo_77 : decode cX12_numberTo 77 = .ok (.if_icmp .ne 7, 3) := by decide +kernel
theorem dX12_numberTo_80 : decode cX12_numberTo 80 = .ok (.iconst 1, 1) := by decide +kernel
theorem dX12_numberTo_81 : decode cX12_numberTo 81 = .ok (.goto 4, 3) := by decide +kernel
theorem dX12_numberTo_84 : decode cX12_numberTo 84 = .ok (.iconst 0, 1) := by decide +kernel
theorem dX12_numberTo_85 : decode cX12_numberTo 85 = .ok (.invokevirtual 210, 3) := by decide +kernel
theorem dX12_numberTo_88 : decode cX12_numberTo 88 = .ok (.iload_n 2, 1) := by decide +kernel
theorem dX12_numberTo_89 : decode cX12_numberTo 89 = .ok (.ireturn, 1) := by decide +kernel
theorem dX12_lawOfWord_0 : decode cX12_lawOfWord 0 = .ok (.aload_n 0, 1) := by decide +kernel
theorem dX12_lawOfWord_1 : decode cX12_lawOfWord 1 = .ok (.invokevirtual 214, 3) := by decide +kernel
theorem dX12_lawOfWord_4 : decode cX12_lawOfWord 4 = .ok (.lstore_n 1, 1) := by decide +kernel
theorem dX12_lawOfWord_5 : decode cX12_lawOfWord 5 = .ok (.lload_n 1, 1) := by decide +kernel
theorem dX12_lawOfWord_6 : decode cX12_lawOfWord 6 = .ok (.ldc2_w 218, 3) := by decide +kernel
theorem dX12_lawOfWord_9 : decode cX12_lawOfWord 9 = .ok (.lcmp, 1) := by decide +kernel
theorem dX12_lawOfWord_10 : decode cX12_lawOfWord 10 = .ok (.ifCond .ne 7, 3) := by decide +kernel
theorem dX12_lawOfWord_13 : decode cX12_lawOfWord 13 = .ok (.iconst 0, 1) := by decide +kernel
theorem dX12_lawOfWord_14 : decode cX12_lawOfWord 14 = .ok (.goto 78, 3) := by decide +kernel
theorem dX12_lawOfWord_17 : decode cX12_lawOfWord 17 = .ok (.lload_n 1, 1) := by decide +kernel
theorem dX12_lawOfWord_18 : decode cX12_lawOfWord 18 = .ok (.ldc2_w 220, 3) := by decide +kernel
theorem dX12_lawOfWord_21 : decode cX12_lawOfWord 21 = .ok (.lcmp, 1) := by decide +kernel
theorem dX12_lawOfWord_22 : decode cX12_lawOfWord 22 = .ok (.ifCond .ne 7, 3) := by decide +kernel
theorem dX12_lawOfWord_25 : decode cX12_lawOfWord 25 = .ok (.iconst 1, 1) := by decide +kernel
theorem dX12_lawOfWord_26 : decode cX12_lawOfWord 26 = .ok (.goto 66, 3) := by decide +kernel
theorem dX12_lawOfWord_29 : decode cX12_lawOfWord 29 = .ok (.lload_n 1, 1) := by decide +kernel
theorem dX12_lawOfWord_30 : decode cX12_lawOfWord 30 = .ok (.ldc2_w 222, 3) := by decide +kernel
theorem dX12_lawOfWord_33 : decode cX12_lawOfWord 33 = .ok (.lcmp, 1) := by decide +kernel
theorem dX12_lawOfWord_34 : decode cX12_lawOfWord 34 = .ok (.ifCond .ne 7, 3) := by decide +kernel
theorem dX12_lawOfWord_37 : decode cX12_lawOfWord 37 = .ok (.iconst 2, 1) := by decide +kernel
theorem dX12_lawOfWord_38 : decode cX12_lawOfWord 38 = .ok (.goto 54, 3) := by decide +kernel
theorem dX12_lawOfWord_41 : decode cX12_lawOfWord 41 = .ok (.lload_n 1, 1) := by decide +kernel
theorem dX12_lawOfWord_42 : decode cX12_lawOfWord 42 = .ok (.ldc2_w 224, 3) := by decide +kernel
theorem dX12_lawOfWord_45 : decode cX12_lawOfWord 45 = .ok (.lcmp, 1) := by decide +kernel
theorem dX12_lawOfWord_46 : decode cX12_lawOfWord 46 = .ok (.ifCond .ne 7, 3) := by decide +kernel
theorem dX12_lawOfWord_49 : decode cX12_lawOfWord 49 = .ok (.iconst 3, 1) := by decide +kernel
theorem dX12_lawOfWord_50 : decode cX12_lawOfWord 50 = .ok (.goto 42, 3) := by decide +kernel
theorem dX12_lawOfWord_53 : decode cX12_lawOfWord 53 = .ok (.lload_n 1, 1) := by decide +kernel
theorem dX12_lawOfWord_54 : decode cX12_lawOfWord 54 = .ok (.ldc2_w 226, 3) := by decide +kernel
theorem dX12_lawOfWord_57 : decode cX12_lawOfWord 57 = .ok (.lcmp, 1) := by decide +kernel
theorem dX12_lawOfWord_58 : decode cX12_lawOfWord 58 = .ok (.ifCond .ne 7, 3) := by decide +kernel
theorem dX12_lawOfWord_61 : decode cX12_lawOfWord 61 = .ok (.iconst 4, 1) := by decide +kernel
theorem dX12_lawOfWord_62 : decode cX12_lawOfWord 62 = .ok (.goto 30, 3) := by decide +kernel
theorem dX12_lawOfWord_65 : decode cX12_lawOfWord 65 = .ok (.lload_n 1, 1) := by decide +kernel
theorem dX12_lawOfWord_66 : decode cX12_lawOfWord 66 = .ok (.ldc2_w 228, 3) := by decide +kernel
theorem dX12_lawOfWord_69 : decode cX12_lawOfWord 69 = .ok (.lcmp, 1) := by decide +kernel
theorem dX12_lawOfWord_70 : decode cX12_lawOfWord 70 = .ok (.ifCond .ne 7, 3) := by decide +kernel
theorem dX12_lawOfWord_73 : decode cX12_lawOfWord 73 = .ok (.iconst 5, 1) := by decide +kernel
theorem dX12_lawOfWord_74 : decode cX12_lawOfWord 74 = .ok (.goto 18, 3) := by decide +kernel
theorem dX12_lawOfWord_77 : decode cX12_lawOfWord 77 = .ok (.lload_n 1, 1) := by decide +kernel
theorem dX12_lawOfWord_78 : decode cX12_lawOfWord 78 = .ok (.ldc2_w 230, 3) := by decide +kernel
theorem dX12_lawOfWord_81 : decode cX12_lawOfWord 81 = .ok (.lcmp, 1) := by decide +kernel
theorem dX12_lawOfWord_82 : decode cX12_lawOfWord 82 = .ok (.ifCond .ne 8, 3) := by decide +kernel
theorem dX12_lawOfWord_85 : decode cX12_lawOfWord 85 = .ok (.bipush 6, 2) := by decide +kernel
theorem dX12_lawOfWord_87 : decode cX12_lawOfWord 87 = .ok (.goto 5, 3) := by decide +kernel
theorem dX12_lawOfWord_90 : decode cX12_lawOfWord 90 = .ok (.ldc 129, 2) := by decide +kernel
theorem dX12_lawOfWord_92 : decode cX12_lawOfWord 92 = .ok (.ireturn, 1) := by decide +kernel
theorem dX12_readLaw_0 : decode cX12_readLaw 0 = .ok (.aload_n 0, 1) := by decide +kernel
theorem dX12_readLaw_1 : decode cX12_readLaw 1 = .ok (.invokevirtual 232, 3) := by decide +kernel
theorem dX12_readLaw_4 : decode cX12_readLaw 4 = .ok (.istore_n 2, 1) := by decide +kernel
theorem dX12_readLaw_5 : decode cX12_readLaw 5 = .ok (.iload_n 2, 1) := by decide +kernel
theorem dX12_readLaw_6 : decode cX12_readLaw 6 = .ok (.ldc 129, 2) := by decide +kernel
theorem dX12_readLaw_8 : decode cX12_readLaw 8 = .ok (.if_icmp .eq 17, 3) := by decide +kernel
theorem dX12_readLaw_11 : decode cX12_readLaw 11 = .ok (.aload_n 0, 1) := by decide +kernel
theorem dX12_readLaw_12 : decode cX12_readLaw 12 = .ok (.getfield 236, 3) := by decide +kernel
theorem dX12_readLaw_15 : decode cX12_readLaw 15 = .ok (.bipush 30, 2) := by decide +kernel
theorem dX12_readLaw_17 : decode cX12_readLaw 17 = .ok (.if_icmp .ne 8, 3) := by decide +kernel
theorem dX12_readLaw_20 : decode cX12_readLaw 20 = .ok (.aload_n 0, 1) := by decide +kernel
theorem dX12_readLaw_21 : decode cX12_readLaw 21 = .ok (.iconst 3, 1) := by decide +kernel
theorem dX12_readLaw_22 : decode cX12_readLaw 22 = .ok (.invokevirtual 203, 3) := by decide +kernel
theorem dX12_readLaw_25 : decode cX12_readLaw 25 = .ok (.aload_n 0, 1) := by decide +kernel
theorem dX12_readLaw_26 : decode cX12_readLaw 26 = .ok (.iload_n 2, 1) := by decide +kernel
theorem dX12_readLaw_27 : decode cX12_readLaw 27 = .ok (.ldc 129, 2) := by decide +kernel
theorem dX12_readLaw_29 : decode cX12_readLaw 29 = .ok (.if_icmp .eq 7, 3) := by decide +kernel
theorem dX12_readLaw_32 : decode cX12_readLaw 32 = .ok (.iconst 1, 1) := by decide +kernel
theorem dX12_readLaw_33 : decode cX12_readLaw 33 = .ok (.goto 4, 3) := by decide +kernel
theorem dX12_readLaw_36 : decode cX12_readLaw 36 = .ok (.iconst 0, 1) := by decide +kernel
theorem dX12_readLaw_37 : decode cX12_readLaw 37 = .ok (.invokevirtual 210, 3) := by decide +kernel
theorem dX12_readLaw_40 : decode cX12_readLaw 40 = .ok (.aload_n 0, 1) := by decide +kernel
theorem dX12_readLaw_41 : decode cX12_readLaw 41 = .ok (.getfield 197, 3) := by decide +kernel
theorem dX12_readLaw_44 : decode cX12_readLaw 44 = .ok (.ifCond .le 4, 3) := by decide +kernel
theorem dX12_readLaw_47 : decode cX12_readLaw 47 = .ok (.return_, 1) := by decide +kernel
theorem dX12_readLaw_48 : decode cX12_readLaw 48 = .ok (.aload_n 0, 1) := by decide +kernel
theorem dX12_readLaw_49 : decode cX12_readLaw 49 = .ok (.getfield 42, 3) := by decide +kernel
theorem dX12_readLaw_52 : decode cX12_readLaw 52 = .ok (.aload_n 0, 1) := by decide +kernel
theorem dX12_readLaw_53 : decode cX12_readLaw 53 = .ok (.getfield 236, 3) := by decide +kernel
theorem dX12_readLaw_56 : decode cX12_readLaw 56 = .ok (.iload_n 1, 1) := by decide +kernel
theorem dX12_readLaw_57 : decode cX12_readLaw 57 = .ok (.iastore, 1) := by decide +kernel
theorem dX12_readLaw_58 : decode cX12_readLaw 58 = .ok (.aload_n 0, 1) := by decide +kernel
theorem dX12_readLaw_59 : decode cX12_readLaw 59 = .ok (.getfield 45, 3) := by decide +kernel
theorem dX12_readLaw_62 : decode cX12_readLaw 62 = .ok (.aload_n 0, 1) := by decide +kernel
theorem dX12_readLaw_63 : decode cX12_readLaw 63 = .ok (.getfield 236, 3) := by decide +kernel
theorem dX12_readLaw_66 : decode cX12_readLaw 66 = .ok (.iload_n 2, 1) := by decide +kernel
theorem dX12_readLaw_67 : decode cX12_readLaw 67 = .ok (.iastore, 1) := by decide +kernel
theorem dX12_readLaw_68 : decode cX12_readLaw 68 = .ok (.aload_n 0, 1) := by decide +kernel
theorem dX12_readLaw_69 : decode cX12_readLaw 69 = .ok (.getfield 48, 3) := by decide +kernel
theorem dX12_readLaw_72 : decode cX12_readLaw 72 = .ok (.aload_n 0, 1) := by decide +kernel
theorem dX12_readLaw_73 : decode cX12_readLaw 73 = .ok (.getfield 236, 3) := by decide +kernel
theorem dX12_readLaw_76 : decode cX12_readLaw 76 = .ok (.iload_n 2, 1) := by decide +kernel
theorem dX12_readLaw_77 : decode cX12_readLaw 77 = .ok (.ifCond .ne 7, 3) := by decide +kernel
theorem dX12_readLaw_80 : decode cX12_readLaw 80 = .ok (.iconst 0, 1) := by decide +kernel
theorem dX12_readLaw_81 : decode cX12_readLaw 81 = .ok (.goto 25, 3) := by decide +kernel
theorem dX12_readLaw_84 : decode cX12_readLaw 84 = .ok (.aload_n 0, 1) := by decide +kernel
theorem dX12_readLaw_85 : decode cX12_readLaw 85 = .ok (.iload_n 2, 1) := by decide +kernel
theorem dX12_readLaw_86 : decode cX12_readLaw 86 = .ok (.iconst 5, 1) := by decide +kernel
theorem dX12_readLaw_87 : decode cX12_readLaw 87 = .ok (.if_icmp .eq 9, 3) := by decide +kernel
theorem dX12_readLaw_90 : decode cX12_readLaw 90 = .ok (.iload_n 2, 1) := by decide +kernel
theorem dX12_readLaw_91 : decode cX12_readLaw 91 = .ok (.bipush 6, 2) := by decide +kernel
theorem dX12_readLaw_93 : decode cX12_readLaw 93 = .ok (.if_icmp .ne 8, 3) := by decide +kernel
theorem dX12_readLaw_96 : decode cX12_readLaw 96 = .ok (.bipush 11, 2) := by decide +kernel
theorem dX12_readLaw_98 : decode cX12_readLaw 98 = .ok (.goto 5, 3) := by decide +kernel
theorem dX12_readLaw_101 : decode cX12_readLaw 101 = .ok (.bipush 7, 2) := by decide +kernel
theorem dX12_readLaw_103 : decode cX12_readLaw 103 = .ok (.invokevirtual 239, 3) := by decide +kernel
theorem dX12_readLaw_106 : decode cX12_readLaw 106 = .ok (.iastore, 1) := by decide +kernel
theorem dX12_readLaw_107 : decode cX12_readLaw 107 = .ok (.aload_n 0, 1) := by decide +kernel
theorem dX12_readLaw_108 : decode cX12_readLaw 108 = .ok (.getfield 51, 3) := by decide +kernel
theorem dX12_readLaw_111 : decode cX12_readLaw 111 = .ok (.aload_n 0, 1) := by decide +kernel
theorem dX12_readLaw_112 : decode cX12_readLaw 112 = .ok (.getfield 236, 3) := by decide +kernel
theorem dX12_readLaw_115 : decode cX12_readLaw 115 = .ok (.iload_n 2, 1) := by decide +kernel
theorem dX12_readLaw_116 : decode cX12_readLaw 116 = .ok (.iconst 3, 1) := by decide +kernel
theorem dX12_readLaw_117 : decode cX12_readLaw 117 = .ok (.if_icmp .ge 13, 3) := by decide +kernel
theorem dX12_readLaw_120 : decode cX12_readLaw 120 = .ok (.aload_n 0, 1) := by decide +kernel
theorem dX12_readLaw_121 : decode cX12_readLaw 121 = .ok (.sipush 999, 3) := by decide +kernel
theorem dX12_readLaw_124 : decode cX12_readLaw 124 = .ok (.invokevirtual 239, 3) := by decide +kernel
theorem dX12_readLaw_127 : decode cX12_readLaw 127 = .ok (.goto 4, 3) := by decide +kernel
theorem dX12_readLaw_130 : decode cX12_readLaw 130 = .ok (.iconst 0, 1) := by decide +kernel
theorem dX12_readLaw_131 : decode cX12_readLaw 131 = .ok (.iastore, 1) := by decide +kernel
theorem dX12_readLaw_132 : decode cX12_readLaw 132 = .ok (.aload_n 0, 1) := by decide +kernel
theorem dX12_readLaw_133 : decode cX12_readLaw 133 = .ok (.dup, 1) := by decide +kernel
theorem dX12_readLaw_134 : decode cX12_readLaw 134 = .ok (.getfield 236, 3) := by decide +kernel
theorem dX12_readLaw_137 : decode cX12_readLaw 137 = .ok (.iconst 1, 1) := by decide +kernel
theorem dX12_readLaw_138 : decode cX12_readLaw 138 = .ok (.iadd, 1) := by decide +kernel
theorem dX12_readLaw_139 : decode cX12_readLaw 139 = .ok (.putfield 236, 3) := by decide +kernel
theorem dX12_readLaw_142 : decode cX12_readLaw 142 = .ok (.return_, 1) := by decide +kernel
theorem dX12_laws_0 : decode cX12_laws 0 = .ok (.aload_n 0, 1) := by decide +kernel
theorem dX12_laws_1 : decode cX12_laws 1 = .ok (.iconst 0, 1) := by decide +kernel
theorem dX12_laws_2 : decode cX12_laws 2 = .ok (.putfield 1, 3) := by decide +kernel
theorem dX12_laws_5 : decode cX12_laws 5 = .ok (.aload_n 0, 1) := by decide +kernel
theorem dX12_laws_6 : decode cX12_laws 6 = .ok (.aload_n 0, 1) := by decide +kernel
theorem dX12_laws_7 : decode cX12_laws 7 = .ok (.getfield 167, 3) := by decide +kernel
theorem dX12_laws_10 : decode cX12_laws 10 = .ok (.putfield 173, 3) := by decide +kernel
theorem dX12_laws_13 : decode cX12_laws 13 = .ok (.aload_n 0, 1) := by decide +kernel
theorem dX12_laws_14 : decode cX12_laws 14 = .ok (.iconst 0, 1) := by decide +kernel
theorem dX12_laws_15 : decode cX12_laws 15 = .ok (.putfield 167, 3) := by decide +kernel
theorem dX12_laws_18 : decode cX12_laws 18 = .ok (.aload_n 0, 1) := by decide +kernel
theorem dX12_laws_19 : decode cX12_laws 19 = .ok (.iconst 0, 1) := by decide +kernel
theorem dX12_laws_20 : decode cX12_laws 20 = .ok (.putfield 176, 3) := by decide +kernel
theorem dX12_laws_23 : decode cX12_laws 23 = .ok (.aload_n 0, 1) := by decide +kernel
theorem dX12_laws_24 : decode cX12_laws 24 = .ok (.iconst 0, 1) := by decide +kernel
theorem dX12_laws_25 : decode cX12_laws 25 = .ok (.putfield 197, 3) := by decide +kernel
theorem dX12_laws_28 : decode cX12_laws 28 = .ok (.aload_n 0, 1) := by decide +kernel
theorem dX12_laws_29 : decode cX12_laws 29 = .ok (.aload_n 0, 1) := by decide +kernel
theorem dX12_laws_30 : decode cX12_laws 30 = .ok (.getfield 242, 3) := by decide +kernel
theorem dX12_laws_33 : decode cX12_laws 33 = .ok (.putfield 236, 3) := by decide +kernel
theorem dX12_laws_36 : decode cX12_laws 36 = .ok (.aload_n 0, 1) := by decide +kernel
theorem dX12_laws_37 : decode cX12_laws 37 = .ok (.invokevirtual 207, 3) := by decide +kernel
theorem dX12_laws_40 : decode cX12_laws 40 = .ok (.aload_n 0, 1) := by decide +kernel
theorem dX12_laws_41 : decode cX12_laws 41 = .ok (.getfield 197, 3) := by decide +kernel
theorem dX12_laws_44 : decode cX12_laws 44 = .ok (.ifCond .ne 113, 3) := by decide +kernel
theorem dX12_laws_47 : decode cX12_laws 47 = .ok (.aload_n 0, 1) := by decide +kernel
theorem dX12_laws_48 : decode cX12_laws 48 = .ok (.getfield 185, 3) := by decide +kernel
theorem dX12_laws_51 : decode cX12_laws 51 = .ok (.iconst 1, 1) := by decide +kernel
theorem dX12_laws_52 : decode cX12_laws 52 = .ok (.if_icmp .eq 105, 3) := by decide +kernel
theorem dX12_laws_55 : decode cX12_laws 55 = .ok (.aload_n 0, 1) := by decide +kernel
theorem dX12_laws_56 : decode cX12_laws 56 = .ok (.aload_n 0, 1) := by decide +kernel
theorem dX12_laws_57 : decode cX12_laws 57 = .ok (.invokevirtual 214, 3) := by decide +kernel
theorem dX12_laws_60 : decode cX12_laws 60 = .ok (.ldc2_w 245, 3) := by decide +kernel
theorem dX12_laws_63 : decode cX12_laws 63 = .ok (.lcmp, 1) := by decide +kernel
theorem dX12_laws_64 : decode cX12_laws 64 = .ok (.ifCond .ne 7, 3) := by decide +kernel
theorem dX12_laws_67 : decode cX12_laws 67 = .ok (.iconst 1, 1) := by decide +kernel
theorem dX12_laws_68 : decode cX12_laws 68 = .ok (.goto 4, 3) := by decide +kernel
theorem dX12_laws_71 : decode cX12_laws 71 = .ok (.iconst 0, 1) := by decide +kernel
theorem dX12_laws_72 : decode cX12_laws 72 = .ok (.invokevirtual 210, 3) := by decide +kernel
theorem dX12_laws_75 : decode cX12_laws 75 = .ok (.aload_n 0, 1) := by decide +kernel
theorem dX12_laws_76 : decode cX12_laws 76 = .ok (.sipush 999, 3) := by decide +kernel
theorem dX12_laws_79 : decode cX12_laws 79 = .ok (.invokevirtual 239, 3) := by decide +kernel
theorem dX12_laws_82 : decode cX12_laws 82 = .ok (.istore_n 1, 1) := by decide +kernel
theorem dX12_laws_83 : decode cX12_laws 83 = .ok (.aload_n 0, 1) := by decide +kernel
theorem dX12_laws_84 : decode cX12_laws 84 = .ok (.getfield 197, 3) := by decide +kernel
theorem dX12_laws_87 : decode cX12_laws 87 = .ok (.ifCond .ne 7, 3) := by decide +kernel
theorem dX12_laws_90 : decode cX12_laws 90 = .ok (.iconst 1, 1) := by decide +kernel
theorem dX12_laws_91 : decode cX12_laws 91 = .ok (.goto 4, 3) := by decide +kernel
theorem dX12_laws_94 : decode cX12_laws 94 = .ok (.iconst 0, 1) := by decide +kernel
theorem dX12_laws_95 : decode cX12_laws 95 = .ok (.istore_n 2, 1) := by decide +kernel
theorem dX12_laws_96 : decode cX12_laws 96 = .ok (.iload_n 2, 1) := by decide +kernel
theorem dX12_laws_97 : decode cX12_laws 97 = .ok (.ifCond .eq 33, 3) := by decide +kernel
theorem dX12_laws_100 : decode cX12_laws 100 = .ok (.aload_n 0, 1) := by decide +kernel
theorem dX12_laws_101 : decode cX12_laws 101 = .ok (.iload_n 1, 1) := by decide +kernel
theorem dX12_laws_102 : decode cX12_laws 102 = .ok (.invokevirtual 247, 3) := by decide +kernel
theorem dX12_laws_105 : decode cX12_laws 105 = .ok (.aload_n 0, 1) := by decide +kernel
theorem dX12_laws_106 : decode cX12_laws 106 = .ok (.getfield 197, 3) := by decide +kernel
theorem dX12_laws_109 : decode cX12_laws 109 = .ok (.ifCond .ne 16, 3) := by decide +kernel
theorem dX12_laws_112 : decode cX12_laws 112 = .ok (.aload_n 0, 1) := by decide +kernel
theorem dX12_laws_113 : decode cX12_laws 113 = .ok (.invokevirtual 232, 3) := by decide +kernel
theorem dX12_laws_116 : decode cX12_laws 116 = .ok (.ldc 129, 2) := by decide +kernel
theorem dX12_laws_118 : decode cX12_laws 118 = .ok (.if_icmp .eq 7, 3) := by decide +kernel
theorem dX12_laws_121 : decode cX12_laws 121 = .ok (.iconst 1, 1) := by decide +kernel
theorem dX12_laws_122 : decode cX12_laws 122 = .ok (.goto 4, 3) := by decide +kernel
theorem dX12_laws_125 : decode cX12_laws 125 = .ok (.iconst 0, 1) := by decide +kernel
theorem dX12_laws_126 : decode cX12_laws 126 = .ok (.istore_n 2, 1) := by decide +kernel
theorem dX12_laws_127 : decode cX12_laws 127 = .ok (.goto (-31), 3) := by decide +kernel
theorem dX12_laws_130 : decode cX12_laws 130 = .ok (.aload_n 0, 1) := by decide +kernel
theorem dX12_laws_131 : decode cX12_laws 131 = .ok (.getfield 197, 3) := by decide +kernel
theorem dX12_laws_134 : decode cX12_laws 134 = .ok (.ifCond .ne 20, 3) := by decide +kernel
theorem dX12_laws_137 : decode cX12_laws 137 = .ok (.aload_n 0, 1) := by decide +kernel
theorem dX12_laws_138 : decode cX12_laws 138 = .ok (.aload_n 0, 1) := by decide +kernel
theorem dX12_laws_139 : decode cX12_laws 139 = .ok (.getfield 185, 3) := by decide +kernel
theorem dX12_laws_142 : decode cX12_laws 142 = .ok (.iconst 4, 1) := by decide +kernel
theorem dX12_laws_143 : decode cX12_laws 143 = .ok (.if_icmp .ne 7, 3) := by decide +kernel
theorem dX12_laws_146 : decode cX12_laws 146 = .ok (.iconst 1, 1) := by decide +kernel
theorem dX12_laws_147 : decode cX12_laws 147 = .ok (.goto 4, 3) := by decide +kernel
theorem dX12_laws_150 : decode cX12_laws 150 = .ok (.iconst 0, 1) := by decide +kernel
theorem dX12_laws_151 : decode cX12_laws 151 = .ok (.invokevirtual 210, 3) := by decide +kernel
theorem dX12_laws_154 : decode cX12_laws 154 = .ok (.goto (-114), 3) := by decide +kernel
theorem dX12_laws_157 : decode cX12_laws 157 = .ok (.aload_n 0, 1) := by decide +kernel
theorem dX12_laws_158 : decode cX12_laws 158 = .ok (.getfield 197, 3) := by decide +kernel
theorem dX12_laws_161 : decode cX12_laws 161 = .ok (.ifCond .le 19, 3) := by decide +kernel
theorem dX12_laws_164 : decode cX12_laws 164 = .ok (.aload_n 0, 1) := by decide +kernel
theorem dX12_laws_165 : decode cX12_laws 165 = .ok (.aload_n 0, 1) := by decide +kernel
theorem dX12_laws_166 : decode cX12_laws 166 = .ok (.getfield 197, 3) := by decide +kernel
theorem dX12_laws_169 : decode cX12_laws 169 = .ok (.putfield 250, 3) := by decide +kernel
theorem dX12_laws_172 : decode cX12_laws 172 = .ok (.ldc 253, 2) := by decide +kernel
theorem dX12_laws_174 : decode cX12_laws 174 = .ok (.aload_n 0, 1) := by decide +kernel
theorem dX12_laws_175 : decode cX12_laws 175 = .ok (.getfield 200, 3) := by decide +kernel
theorem dX12_laws_178 : decode cX12_laws 178 = .ok (.isub, 1) := by decide +kernel
theorem dX12_laws_179 : decode cX12_laws 179 = .ok (.ireturn, 1) := by decide +kernel
theorem dX12_laws_180 : decode cX12_laws 180 = .ok (.aload_n 0, 1) := by decide +kernel
theorem dX12_laws_181 : decode cX12_laws 181 = .ok (.aload_n 0, 1) := by decide +kernel
theorem dX12_laws_182 : decode cX12_laws 182 = .ok (.getfield 236, 3) := by decide +kernel
theorem dX12_laws_185 : decode cX12_laws 185 = .ok (.putfield 242, 3) := by decide +kernel
theorem dX12_laws_188 : decode cX12_laws 188 = .ok (.aload_n 0, 1) := by decide +kernel
theorem dX12_laws_189 : decode cX12_laws 189 = .ok (.getfield 242, 3) := by decide +kernel
theorem dX12_laws_192 : decode cX12_laws 192 = .ok (.ireturn, 1) := by decide +kernel
set_option maxRecDepth 100000 in
set_option maxHeartbeats 4000000 in
theorem B_X12_in_0 {g : gp} {u : sg} {Q : Option Value → sg → Prop} (x0 : Int64) (x2 : Int64) (x4 : Int64) (h : (((lg_cmp x0 x2) < (0 : Int32) → Q (some (.int (0 : Int32))) u) ∧ (¬ (lg_cmp x0 x2) < (0 : Int32) → (((0 : Int32) < (lg_cmp x0 x4) → Q (some (.int (0 : Int32))) u) ∧ (¬ (0 : Int32) < (lg_cmp x0 x4) → Q (some (.int (1 : Int32))) u))))) : Go g iX12_in 0 [some (.long x0), none, some (.long x2), none, some (.long x4), none] [] u Q := by
  refine go_lload_n dX12_in_0 rfl rfl ?_
  refine go_lload_n dX12_in_1 rfl rfl ?_
  refine go_lcmp dX12_in_2 ?_
  refine go_if_lt (tgt := 17) dX12_in_3 (by decide) (fun hc => ?_) (fun hc => ?_)
  · replace h := h.1 hc
    refine go_iconst (v := 0) dX12_in_17 (by decide) ?_
    exact go_zret dX12_in_18 rfl (by decide) h
  · replace h := h.2 hc
    refine go_lload_n dX12_in_6 rfl rfl ?_
    refine go_lload dX12_in_7 rfl ?_
    refine go_lcmp dX12_in_9 ?_
    refine go_if_gt (tgt := 17) dX12_in_10 (by decide) (fun hc => ?_) (fun hc => ?_)
    · replace h := h.1 hc
      refine go_iconst (v := 0) dX12_in_17 (by decide) ?_
      exact go_zret dX12_in_18 rfl (by decide) h
    · replace h := h.2 hc
      refine go_iconst (v := 1) dX12_in_13 (by decide) ?_
      refine go_goto (tgt := 18) dX12_in_14 (by decide) ?_
      exact go_zret dX12_in_18 rfl (by decide) h
set_option maxRecDepth 100000 in
set_option maxHeartbeats 4000000 in
theorem B_X12_finding_0 {g : gp} {u : sg} {Q : Option Value → sg → Prop} (x1 : Int32) (h : Q (some (.int ((-1000010) - x1))) (sI u 12 1 x1)) : Go g iX12_finding 0 [some (.ref (gd g 12)), some (.int x1)] [] u Q := by
  refine go_aload_n dX12_finding_0 rfl rfl ?_
  refine go_iload_n dX12_finding_1 rfl rfl ?_
  refine go_put (k := 1) dX12_finding_2 ob_12 (by decide) qf_X12_7 rfl rfl pf_I ?_
  refine go_ldc dX12_finding_5 qc_X12_10 ?_
  refine go_iload_n dX12_finding_7 rfl rfl ?_
  refine go_isub dX12_finding_8 ?_
  exact go_iret dX12_finding_9 rfl h
set_option maxRecDepth 100000 in
set_option maxHeartbeats 4000000 in
theorem B_X12_isSheet_0 {g : gp} {u : sg} {Q : Option Value → sg → Prop} (x0 : Int32) (h : Go g iX12_in 0 [some (.long (x0.toInt64)), none, some (.long 0), none, some (.long 7), none] [] u (QI (fun r1 u1 => (narrow .boolean (.int r1) = .int r1 ∧ Q (some (.int r1)) u1)))) : Go g iX12_isSheet 0 [some (.int x0)] [] u Q := by
  refine go_iload_n dX12_isSheet_0 rfl rfl ?_
  refine go_i2l dX12_isSheet_1 ?_
  refine go_lconst (v := 0) dX12_isSheet_2 (by decide) ?_
  refine go_ldc2 dX12_isSheet_3 ql_X12_130 ?_
  refine go_cSi (As := [.long (x0.toInt64), .long 0, .long 7]) (st := []) (lc := [some (.long (x0.toInt64)), none, some (.long 0), none, some (.long 7), none]) dX12_isSheet_6 me_X12_in qm_X12_132 rfl (Nat.le_of_ble_eq_true rfl) rfl ⟨Nat.le_of_ble_eq_true rfl, Nat.le_of_ble_eq_true rfl⟩ rfl (Nat.le_of_ble_eq_true rfl) h (fun r1 u1 h => ?_)
  exact go_zret dX12_isSheet_9 rfl h.1 h.2
set_option maxRecDepth 100000 in
set_option maxHeartbeats 4000000 in
theorem B_X12_sheet_0 {g : gp} {u : sg} {Q : Option Value → sg → Prop} (x1 : Int32) (x2 : Int32) (x3 : Int32) (h : Go g iX12_isSheet 0 [some (.int x1)] [] (sI u 12 0 (0 : Int32)) (QI (fun r1 u1 => ((r1 = (0 : Int32) → Q (some (.int (-1000001 : Int32))) u1) ∧ (¬ r1 = (0 : Int32) → Go g iX12_in 0 [some (.long (x2.toInt64)), none, some (.long 0), none, some (.long 2), none] [] u1 (QI (fun r2 u2 => ((r2 = (0 : Int32) → Q (some (.int (-1000001 : Int32))) u2) ∧ (¬ r2 = (0 : Int32) → ((x3 ≤ (64 : Int32) → (((0 : Int32) ≤ x3 → (vp_in x1 8 ∧ (vp_in x1 8 ∧ Go g iX12_sheet 65 [some (.ref (gd g 12)), some (.int x1), none, some (.int x3), some (.int 0)] [] (sA (sA (sI u2 12 1 (0 : Int32)) 52 x1.toNatClampNeg x2) 53 x1.toNatClampNeg x3) Q))) ∧ (¬ (0 : Int32) ≤ x3 → Go g iX12_finding 0 [some (.ref (gd g 12)), some (.int 4)] [] (sI u2 12 1 (0 : Int32)) (QI (fun r3 u3 => Q (some (.int r3)) u3))))) ∧ (¬ x3 ≤ (64 : Int32) → Q (some (.int (-1000001 : Int32))) u2))))))))))) : Go g iX12_sheet 0 [some (.ref (gd g 12)), some (.int x1), some (.int x2), some (.int x3), none] [] u Q := by
  refine go_aload_n dX12_sheet_0 rfl rfl ?_
  refine go_iconst (v := 0) dX12_sheet_1 (by decide) ?_
  refine go_put (k := 0) dX12_sheet_2 ob_12 (by decide) qf_X12_1 rfl rfl pf_I ?_
  refine go_iload_n dX12_sheet_5 rfl rfl ?_
  refine go_cSi (As := [.int x1]) (st := []) (lc := [some (.int x1)]) dX12_sheet_6 me_X12_isSheet qm_X12_136 rfl (Nat.le_of_ble_eq_true rfl) rfl ⟨Nat.le_of_ble_eq_true rfl, Nat.le_of_ble_eq_true rfl⟩ rfl (Nat.le_of_ble_eq_true rfl) h (fun r1 u1 h => ?_)
  refine go_if_eq (tgt := 30) dX12_sheet_9 (by decide) (fun hc => ?_) (fun hc => ?_)
  · replace h := h.1 hc
    refine go_ldc dX12_sheet_30 qc_X12_142 ?_
    exact go_iret dX12_sheet_32 rfl h
  · replace h := h.2 hc
    refine go_iload_n dX12_sheet_12 rfl rfl ?_
    refine go_i2l dX12_sheet_13 ?_
    refine go_lconst (v := 0) dX12_sheet_14 (by decide) ?_
    refine go_ldc2 dX12_sheet_15 ql_X12_140 ?_
    refine go_cSi (As := [.long (x2.toInt64), .long 0, .long 2]) (st := []) (lc := [some (.long (x2.toInt64)), none, some (.long 0), none, some (.long 2), none]) dX12_sheet_18 me_X12_in qm_X12_132 rfl (Nat.le_of_ble_eq_true rfl) rfl ⟨Nat.le_of_ble_eq_true rfl, Nat.le_of_ble_eq_true rfl⟩ rfl (Nat.le_of_ble_eq_true rfl) h (fun r2 u2 h => ?_)
    refine go_if_eq (tgt := 30) dX12_sheet_21 (by decide) (fun hc => ?_) (fun hc => ?_)
    · replace h := h.1 hc
      refine go_ldc dX12_sheet_30 qc_X12_142 ?_
      exact go_iret dX12_sheet_32 rfl h
    · replace h := h.2 hc
      refine go_iload_n dX12_sheet_24 rfl rfl ?_
      refine go_bipush (v := 64) dX12_sheet_25 (by decide) ?_
      refine go_icmp_le (tgt := 33) dX12_sheet_27 (by decide) (fun hc => ?_) (fun hc => ?_)
      · replace h := h.1 hc
        refine go_aload_n dX12_sheet_33 rfl rfl ?_
        refine go_iconst (v := 0) dX12_sheet_34 (by decide) ?_
        refine go_put (k := 1) dX12_sheet_35 ob_12 (by decide) qf_X12_7 rfl rfl pf_I ?_
        refine go_iload_n dX12_sheet_38 rfl rfl ?_
        refine go_if_ge (tgt := 48) dX12_sheet_39 (by decide) (fun hc => ?_) (fun hc => ?_)
        · replace h := h.1 hc
          refine go_aload_n dX12_sheet_48 rfl rfl ?_
          refine go_get (k := 2) (v := .ref (gd g 52)) dX12_sheet_49 ob_12 (by decide) qf_X12_17 rfl ?_
          refine go_iload_n dX12_sheet_52 rfl rfl ?_
          refine go_iload_n dX12_sheet_53 rfl rfl ?_
          obtain ⟨hi, h⟩ := h
          refine go_ist (a := 52) (n := 8) dX12_sheet_54 (by decide) (by decide) rfl hi ?_
          refine go_aload_n dX12_sheet_55 rfl rfl ?_
          refine go_get (k := 3) (v := .ref (gd g 53)) dX12_sheet_56 ob_12 (by decide) qf_X12_21 rfl ?_
          refine go_iload_n dX12_sheet_59 rfl rfl ?_
          refine go_iload_n dX12_sheet_60 rfl rfl ?_
          obtain ⟨hi, h⟩ := h
          refine go_ist (a := 53) (n := 8) dX12_sheet_61 (by decide) (by decide) rfl hi ?_
          refine go_iconst (v := 0) dX12_sheet_62 (by decide) ?_
          refine go_istore (lm := [some (.ref (gd g 12)), some (.int x1), some (.int x2), some (.int x3), some (.int 0)]) dX12_sheet_63 (by decide) rfl rfl ?_
          refine go_mask [true, true, false, true, true] rfl ?_
          exact h
        · replace h := h.2 hc
          refine go_aload_n dX12_sheet_42 rfl rfl ?_
          refine go_iconst (v := 4) dX12_sheet_43 (by decide) ?_
          refine go_cVi (o := 12) (As := [.int 4]) (st := []) (lc := [some (.ref (gd g 12)), some (.int 4)]) dX12_sheet_44 me_X12_finding rfl ob_12 qm_X12_143 rfl (Nat.le_of_ble_eq_true rfl) rfl ⟨Nat.le_of_ble_eq_true rfl, Nat.le_of_ble_eq_true rfl⟩ rfl (Nat.le_of_ble_eq_true rfl) h (fun r3 u3 h => ?_)
          exact go_iret dX12_sheet_47 rfl h
      · replace h := h.2 hc
        refine go_ldc dX12_sheet_30 qc_X12_142 ?_
        exact go_iret dX12_sheet_32 rfl h
set_option maxRecDepth 100000 in
set_option maxHeartbeats 4000000 in
theorem B_X12_sheet_65 {g : gp} {u : sg} {Q : Option Value → sg → Prop} (x1 : Int32) (x3 : Int32) (x4 : Int32) (h : (((64 : Int32) ≤ x4 → Q (some (.int x3)) u) ∧ (¬ (64 : Int32) ≤ x4 → (vp_in ((64 * x1) + x4) 512 ∧ Go g iX12_sheet 65 [some (.ref (gd g 12)), some (.int x1), none, some (.int x3), some (.int (x4 + 1))] [] (sA u 54 ((64 * x1) + x4).toNatClampNeg (0 : Int32)) Q)))) : Go g iX12_sheet 65 [some (.ref (gd g 12)), some (.int x1), none, some (.int x3), some (.int x4)] [] u Q := by
  refine go_iload dX12_sheet_65 rfl ?_
  refine go_bipush (v := 64) dX12_sheet_67 (by decide) ?_
  refine go_icmp_ge (tgt := 91) dX12_sheet_69 (by decide) (fun hc => ?_) (fun hc => ?_)
  · replace h := h.1 hc
    refine go_iload_n dX12_sheet_91 rfl rfl ?_
    exact go_iret dX12_sheet_92 rfl h
  · replace h := h.2 hc
    refine go_aload_n dX12_sheet_72 rfl rfl ?_
    refine go_get (k := 4) (v := .ref (gd g 54)) dX12_sheet_73 ob_12 (by decide) qf_X12_24 rfl ?_
    refine go_bipush (v := 64) dX12_sheet_76 (by decide) ?_
    refine go_iload_n dX12_sheet_78 rfl rfl ?_
    refine go_imul dX12_sheet_79 ?_
    refine go_iload dX12_sheet_80 rfl ?_
    refine go_iadd dX12_sheet_82 ?_
    refine go_iconst (v := 0) dX12_sheet_83 (by decide) ?_
    obtain ⟨hi, h⟩ := h
    refine go_ist (a := 54) (n := 512) dX12_sheet_84 (by decide) (by decide) rfl hi ?_
    refine go_iinc (v := x4 + 1) (lm := [some (.ref (gd g 12)), some (.int x1), none, some (.int x3), some (.int (x4 + 1))]) dX12_sheet_85 rfl rfl (by decide) rfl rfl ?_
    refine go_goto (tgt := 65) dX12_sheet_88 (by decide) ?_
    exact h
set_option maxRecDepth 100000 in
set_option maxHeartbeats 4000000 in
theorem B_X12_set_0 {g : gp} {u : sg} {Q : Option Value → sg → Prop} (x1 : Int32) (x2 : Int32) (x3 : Int32) (h : Go g iX12_isSheet 0 [some (.int x1)] [] (sI u 12 0 (0 : Int32)) (QI (fun r1 u1 => ((¬ r1 = (0 : Int32) → (vp_in x1 8 ∧ (((0 : Int32) ≤ (u1.2 52 x1.toNatClampNeg) → (vp_in x1 8 ∧ Go g iX12_in 0 [some (.long (x2.toInt64)), none, some (.long 0), none, some (.long (((u1.2 53 x1.toNatClampNeg) - 1).toInt64)), none] [] (sI u1 12 1 (0 : Int32)) (QI (fun r2 u2 => ((¬ r2 = (0 : Int32) → (vp_in x1 8 ∧ ((¬ (u2.2 52 x1.toNatClampNeg) = (0 : Int32) → (vp_in x1 8 ∧ ((¬ (u2.2 52 x1.toNatClampNeg) = (1 : Int32) → Go g iX12_set 99 [some (.ref (gd g 12)), some (.int x1), some (.int x2), none] [.int x3, .int ((64 * x1) + x2), .ref (gd g 54)] u2 Q) ∧ ((u2.2 52 x1.toNatClampNeg) = (1 : Int32) → Go g iX12_set 99 [some (.ref (gd g 12)), some (.int x1), some (.int x2), none] [.int (x3.toInt16.toInt32), .int ((64 * x1) + x2), .ref (gd g 54)] u2 Q)))) ∧ ((u2.2 52 x1.toNatClampNeg) = (0 : Int32) → Go g iX12_set 99 [some (.ref (gd g 12)), some (.int x1), some (.int x2), none] [.int (x3.toInt8.toInt32), .int ((64 * x1) + x2), .ref (gd g 54)] u2 Q)))) ∧ (r2 = (0 : Int32) → Go g iX12_finding 0 [some (.ref (gd g 12)), some (.int 2)] [] u2 (QI (fun r3 u3 => Q (some (.int r3)) u3)))))))) ∧ (¬ (0 : Int32) ≤ (u1.2 52 x1.toNatClampNeg) → Go g iX12_finding 0 [some (.ref (gd g 12)), some (.int 1)] [] (sI u1 12 1 (0 : Int32)) (QI (fun r4 u4 => Q (some (.int r4)) u4)))))) ∧ (r1 = (0 : Int32) → Q (some (.int (-1000001 : Int32))) u1))))) : Go g iX12_set 0 [some (.ref (gd g 12)), some (.int x1), some (.int x2), some (.int x3)] [] u Q := by
  refine go_aload_n dX12_set_0 rfl rfl ?_
  refine go_iconst (v := 0) dX12_set_1 (by decide) ?_
  refine go_put (k := 0) dX12_set_2 ob_12 (by decide) qf_X12_1 rfl rfl pf_I ?_
  refine go_iload_n dX12_set_5 rfl rfl ?_
  refine go_cSi (As := [.int x1]) (st := []) (lc := [some (.int x1)]) dX12_set_6 me_X12_isSheet qm_X12_136 rfl (Nat.le_of_ble_eq_true rfl) rfl ⟨Nat.le_of_ble_eq_true rfl, Nat.le_of_ble_eq_true rfl⟩ rfl (Nat.le_of_ble_eq_true rfl) h (fun r1 u1 h => ?_)
  refine go_if_ne (tgt := 15) dX12_set_9 (by decide) (fun hc => ?_) (fun hc => ?_)
  · replace h := h.1 hc
    refine go_aload_n dX12_set_15 rfl rfl ?_
    refine go_iconst (v := 0) dX12_set_16 (by decide) ?_
    refine go_put (k := 1) dX12_set_17 ob_12 (by decide) qf_X12_7 rfl rfl pf_I ?_
    refine go_aload_n dX12_set_20 rfl rfl ?_
    refine go_get (k := 2) (v := .ref (gd g 52)) dX12_set_21 ob_12 (by decide) qf_X12_17 rfl ?_
    refine go_iload_n dX12_set_24 rfl rfl ?_
    obtain ⟨hi, h⟩ := h
    refine go_ild (a := 52) (n := 8) dX12_set_25 (by decide) (by decide) rfl hi ?_
    refine go_if_ge (tgt := 35) dX12_set_26 (by decide) (fun hc => ?_) (fun hc => ?_)
    · replace h := h.1 hc
      refine go_iload_n dX12_set_35 rfl rfl ?_
      refine go_i2l dX12_set_36 ?_
      refine go_lconst (v := 0) dX12_set_37 (by decide) ?_
      refine go_aload_n dX12_set_38 rfl rfl ?_
      refine go_get (k := 3) (v := .ref (gd g 53)) dX12_set_39 ob_12 (by decide) qf_X12_21 rfl ?_
      refine go_iload_n dX12_set_42 rfl rfl ?_
      obtain ⟨hi, h⟩ := h
      refine go_ild (a := 53) (n := 8) dX12_set_43 (by decide) (by decide) rfl hi ?_
      refine go_iconst (v := 1) dX12_set_44 (by decide) ?_
      refine go_isub dX12_set_45 ?_
      refine go_i2l dX12_set_46 ?_
      refine go_cSi (As := [.long (x2.toInt64), .long 0, .long (((u1.2 53 x1.toNatClampNeg) - 1).toInt64)]) (st := []) (lc := [some (.long (x2.toInt64)), none, some (.long 0), none, some (.long (((u1.2 53 x1.toNatClampNeg) - 1).toInt64)), none]) dX12_set_47 me_X12_in qm_X12_132 rfl (Nat.le_of_ble_eq_true rfl) rfl ⟨Nat.le_of_ble_eq_true rfl, Nat.le_of_ble_eq_true rfl⟩ rfl (Nat.le_of_ble_eq_true rfl) h (fun r2 u2 h => ?_)
      refine go_if_ne (tgt := 59) dX12_set_50 (by decide) (fun hc => ?_) (fun hc => ?_)
      · replace h := h.1 hc
        refine go_aload_n dX12_set_59 rfl rfl ?_
        refine go_get (k := 4) (v := .ref (gd g 54)) dX12_set_60 ob_12 (by decide) qf_X12_24 rfl ?_
        refine go_bipush (v := 64) dX12_set_63 (by decide) ?_
        refine go_iload_n dX12_set_65 rfl rfl ?_
        refine go_imul dX12_set_66 ?_
        refine go_iload_n dX12_set_67 rfl rfl ?_
        refine go_iadd dX12_set_68 ?_
        refine go_aload_n dX12_set_69 rfl rfl ?_
        refine go_get (k := 2) (v := .ref (gd g 52)) dX12_set_70 ob_12 (by decide) qf_X12_17 rfl ?_
        refine go_iload_n dX12_set_73 rfl rfl ?_
        obtain ⟨hi, h⟩ := h
        refine go_ild (a := 52) (n := 8) dX12_set_74 (by decide) (by decide) rfl hi ?_
        refine go_if_ne (tgt := 83) dX12_set_75 (by decide) (fun hc => ?_) (fun hc => ?_)
        · replace h := h.1 hc
          refine go_aload_n dX12_set_83 rfl rfl ?_
          refine go_get (k := 2) (v := .ref (gd g 52)) dX12_set_84 ob_12 (by decide) qf_X12_17 rfl ?_
          refine go_iload_n dX12_set_87 rfl rfl ?_
          obtain ⟨hi, h⟩ := h
          refine go_ild (a := 52) (n := 8) dX12_set_88 (by decide) (by decide) rfl hi ?_
          refine go_iconst (v := 1) dX12_set_89 (by decide) ?_
          refine go_icmp_ne (tgt := 98) dX12_set_90 (by decide) (fun hc => ?_) (fun hc => ?_)
          · replace h := h.1 hc
            refine go_iload_n dX12_set_98 rfl rfl ?_
            refine go_mask [true, true, true, false] rfl ?_
            exact h
          · replace h := h.2 hc
            refine go_iload_n dX12_set_93 rfl rfl ?_
            refine go_i2s dX12_set_94 ?_
            refine go_goto (tgt := 99) dX12_set_95 (by decide) ?_
            refine go_mask [true, true, true, false] rfl ?_
            exact h
        · replace h := h.2 hc
          refine go_iload_n dX12_set_78 rfl rfl ?_
          refine go_i2b dX12_set_79 ?_
          refine go_goto (tgt := 99) dX12_set_80 (by decide) ?_
          refine go_mask [true, true, true, false] rfl ?_
          exact h
      · replace h := h.2 hc
        refine go_aload_n dX12_set_53 rfl rfl ?_
        refine go_iconst (v := 2) dX12_set_54 (by decide) ?_
        refine go_cVi (o := 12) (As := [.int 2]) (st := []) (lc := [some (.ref (gd g 12)), some (.int 2)]) dX12_set_55 me_X12_finding rfl ob_12 qm_X12_143 rfl (Nat.le_of_ble_eq_true rfl) rfl ⟨Nat.le_of_ble_eq_true rfl, Nat.le_of_ble_eq_true rfl⟩ rfl (Nat.le_of_ble_eq_true rfl) h (fun r3 u3 h => ?_)
        exact go_iret dX12_set_58 rfl h
    · replace h := h.2 hc
      refine go_aload_n dX12_set_29 rfl rfl ?_
      refine go_iconst (v := 1) dX12_set_30 (by decide) ?_
      refine go_cVi (o := 12) (As := [.int 1]) (st := []) (lc := [some (.ref (gd g 12)), some (.int 1)]) dX12_set_31 me_X12_finding rfl ob_12 qm_X12_143 rfl (Nat.le_of_ble_eq_true rfl) rfl ⟨Nat.le_of_ble_eq_true rfl, Nat.le_of_ble_eq_true rfl⟩ rfl (Nat.le_of_ble_eq_true rfl) h (fun r4 u4 h => ?_)
      exact go_iret dX12_set_34 rfl h
  · replace h := h.2 hc
    refine go_ldc dX12_set_12 qc_X12_142 ?_
    exact go_iret dX12_set_14 rfl h
set_option maxRecDepth 100000 in
set_option maxHeartbeats 4000000 in
theorem B_X12_set_99 {g : gp} {u : sg} {Q : Option Value → sg → Prop} (x1 : Int32) (x2 : Int32) (t0 : Int32) (t1 : Int32) (h : (vp_in t1 512 ∧ (vp_in ((64 * x1) + x2) 512 ∧ Q (some (.int ((sA u 54 t1.toNatClampNeg t0).2 54 ((64 * x1) + x2).toNatClampNeg))) (sA u 54 t1.toNatClampNeg t0)))) : Go g iX12_set 99 [some (.ref (gd g 12)), some (.int x1), some (.int x2), none] [.int t0, .int t1, .ref (gd g 54)] u Q := by
  obtain ⟨hi, h⟩ := h
  refine go_ist (a := 54) (n := 512) dX12_set_99 (by decide) (by decide) rfl hi ?_
  refine go_aload_n dX12_set_100 rfl rfl ?_
  refine go_get (k := 4) (v := .ref (gd g 54)) dX12_set_101 ob_12 (by decide) qf_X12_24 rfl ?_
  refine go_bipush (v := 64) dX12_set_104 (by decide) ?_
  refine go_iload_n dX12_set_106 rfl rfl ?_
  refine go_imul dX12_set_107 ?_
  refine go_iload_n dX12_set_108 rfl rfl ?_
  refine go_iadd dX12_set_109 ?_
  obtain ⟨hi, h⟩ := h
  refine go_ild (a := 54) (n := 512) dX12_set_110 (by decide) (by decide) rfl hi ?_
  exact go_iret dX12_set_111 rfl h
set_option maxRecDepth 100000 in
set_option maxHeartbeats 4000000 in
theorem B_X12_copy_0 {g : gp} {u : sg} {Q : Option Value → sg → Prop} (x1 : Int32) (x2 : Int32) (x3 : Int32) (x4 : Int32) (x5 : Int32) (h : Go g iX12_isSheet 0 [some (.int x1)] [] (sI u 12 0 (0 : Int32)) (QI (fun r1 u1 => ((r1 = (0 : Int32) → Q (some (.int (-1000001 : Int32))) u1) ∧ (¬ r1 = (0 : Int32) → Go g iX12_isSheet 0 [some (.int x3)] [] u1 (QI (fun r2 u2 => ((¬ r2 = (0 : Int32) → (vp_in x1 8 ∧ (((u2.2 52 x1.toNatClampNeg) < (0 : Int32) → Go g iX12_finding 0 [some (.ref (gd g 12)), some (.int 1)] [] (sI u2 12 1 (0 : Int32)) (QI (fun r3 u3 => Q (some (.int r3)) u3))) ∧ (¬ (u2.2 52 x1.toNatClampNeg) < (0 : Int32) → (vp_in x3 8 ∧ (((0 : Int32) ≤ (u2.2 52 x3.toNatClampNeg) → (vp_in x1 8 ∧ (vp_in x3 8 ∧ (((u2.2 52 x1.toNatClampNeg) = (u2.2 52 x3.toNatClampNeg) → ((x2 < (0 : Int32) → Go g iX12_finding 0 [some (.ref (gd g 12)), some (.int 2)] [] (sI u2 12 1 (0 : Int32)) (QI (fun r4 u4 => Q (some (.int r4)) u4))) ∧ (¬ x2 < (0 : Int32) → ((x4 < (0 : Int32) → Go g iX12_finding 0 [some (.ref (gd g 12)), some (.int 2)] [] (sI u2 12 1 (0 : Int32)) (QI (fun r5 u5 => Q (some (.int r5)) u5))) ∧ (¬ x4 < (0 : Int32) → ((x5 < (0 : Int32) → Go g iX12_finding 0 [some (.ref (gd g 12)), some (.int 2)] [] (sI u2 12 1 (0 : Int32)) (QI (fun r6 u6 => Q (some (.int r6)) u6))) ∧ (¬ x5 < (0 : Int32) → (vp_in x1 8 ∧ (((0 : Int32) < (lg_cmp ((x2.toInt64) + (x5.toInt64)) ((u2.2 53 x1.toNatClampNeg).toInt64)) → Go g iX12_finding 0 [some (.ref (gd g 12)), some (.int 2)] [] (sI u2 12 1 (0 : Int32)) (QI (fun r7 u7 => Q (some (.int r7)) u7))) ∧ (¬ (0 : Int32) < (lg_cmp ((x2.toInt64) + (x5.toInt64)) ((u2.2 53 x1.toNatClampNeg).toInt64)) → (vp_in x3 8 ∧ (((lg_cmp ((x4.toInt64) + (x5.toInt64)) ((u2.2 53 x3.toNatClampNeg).toInt64)) ≤ (0 : Int32) → ((x2 < x4 → Go g iX12_copy 143 [some (.ref (gd g 12)), some (.int x1), some (.int x2), some (.int x3), some (.int x4), some (.int x5), some (.int 0), some (.int 0), none] [] (sI u2 12 1 (0 : Int32)) Q) ∧ (¬ x2 < x4 → Go g iX12_copy 143 [some (.ref (gd g 12)), some (.int x1), some (.int x2), some (.int x3), some (.int x4), some (.int x5), some (.int 1), some (.int 0), none] [] (sI u2 12 1 (0 : Int32)) Q))) ∧ (¬ (lg_cmp ((x4.toInt64) + (x5.toInt64)) ((u2.2 53 x3.toNatClampNeg).toInt64)) ≤ (0 : Int32) → Go g iX12_finding 0 [some (.ref (gd g 12)), some (.int 2)] [] (sI u2 12 1 (0 : Int32)) (QI (fun r8 u8 => Q (some (.int r8)) u8))))))))))))))) ∧ (¬ (u2.2 52 x1.toNatClampNeg) = (u2.2 52 x3.toNatClampNeg) → Go g iX12_finding 0 [some (.ref (gd g 12)), some (.int 5)] [] (sI u2 12 1 (0 : Int32)) (QI (fun r9 u9 => Q (some (.int r9)) u9))))))) ∧ (¬ (0 : Int32) ≤ (u2.2 52 x3.toNatClampNeg) → Go g iX12_finding 0 [some (.ref (gd g 12)), some (.int 1)] [] (sI u2 12 1 (0 : Int32)) (QI (fun r10 u10 => Q (some (.int r10)) u10))))))))) ∧ (r2 = (0 : Int32) → Q (some (.int (-1000001 : Int32))) u2))))))))) : Go g iX12_copy 0 [some (.ref (gd g 12)), some (.int x1), some (.int x2), some (.int x3), some (.int x4), some (.int x5), none, none, none] [] u Q := by
  refine go_aload_n dX12_copy_0 rfl rfl ?_
  refine go_iconst (v := 0) dX12_copy_1 (by decide) ?_
  refine go_put (k := 0) dX12_copy_2 ob_12 (by decide) qf_X12_1 rfl rfl pf_I ?_
  refine go_iload_n dX12_copy_5 rfl rfl ?_
  refine go_cSi (As := [.int x1]) (st := []) (lc := [some (.int x1)]) dX12_copy_6 me_X12_isSheet qm_X12_136 rfl (Nat.le_of_ble_eq_true rfl) rfl ⟨Nat.le_of_ble_eq_true rfl, Nat.le_of_ble_eq_true rfl⟩ rfl (Nat.le_of_ble_eq_true rfl) h (fun r1 u1 h => ?_)
  refine go_if_eq (tgt := 19) dX12_copy_9 (by decide) (fun hc => ?_) (fun hc => ?_)
  · replace h := h.1 hc
    refine go_ldc dX12_copy_19 qc_X12_142 ?_
    exact go_iret dX12_copy_21 rfl h
  · replace h := h.2 hc
    refine go_iload_n dX12_copy_12 rfl rfl ?_
    refine go_cSi (As := [.int x3]) (st := []) (lc := [some (.int x3)]) dX12_copy_13 me_X12_isSheet qm_X12_136 rfl (Nat.le_of_ble_eq_true rfl) rfl ⟨Nat.le_of_ble_eq_true rfl, Nat.le_of_ble_eq_true rfl⟩ rfl (Nat.le_of_ble_eq_true rfl) h (fun r2 u2 h => ?_)
    refine go_if_ne (tgt := 22) dX12_copy_16 (by decide) (fun hc => ?_) (fun hc => ?_)
    · replace h := h.1 hc
      refine go_aload_n dX12_copy_22 rfl rfl ?_
      refine go_iconst (v := 0) dX12_copy_23 (by decide) ?_
      refine go_put (k := 1) dX12_copy_24 ob_12 (by decide) qf_X12_7 rfl rfl pf_I ?_
      refine go_aload_n dX12_copy_27 rfl rfl ?_
      refine go_get (k := 2) (v := .ref (gd g 52)) dX12_copy_28 ob_12 (by decide) qf_X12_17 rfl ?_
      refine go_iload_n dX12_copy_31 rfl rfl ?_
      obtain ⟨hi, h⟩ := h
      refine go_ild (a := 52) (n := 8) dX12_copy_32 (by decide) (by decide) rfl hi ?_
      refine go_if_lt (tgt := 45) dX12_copy_33 (by decide) (fun hc => ?_) (fun hc => ?_)
      · replace h := h.1 hc
        refine go_aload_n dX12_copy_45 rfl rfl ?_
        refine go_iconst (v := 1) dX12_copy_46 (by decide) ?_
        refine go_cVi (o := 12) (As := [.int 1]) (st := []) (lc := [some (.ref (gd g 12)), some (.int 1)]) dX12_copy_47 me_X12_finding rfl ob_12 qm_X12_143 rfl (Nat.le_of_ble_eq_true rfl) rfl ⟨Nat.le_of_ble_eq_true rfl, Nat.le_of_ble_eq_true rfl⟩ rfl (Nat.le_of_ble_eq_true rfl) h (fun r3 u3 h => ?_)
        exact go_iret dX12_copy_50 rfl h
      · replace h := h.2 hc
        refine go_aload_n dX12_copy_36 rfl rfl ?_
        refine go_get (k := 2) (v := .ref (gd g 52)) dX12_copy_37 ob_12 (by decide) qf_X12_17 rfl ?_
        refine go_iload_n dX12_copy_40 rfl rfl ?_
        obtain ⟨hi, h⟩ := h
        refine go_ild (a := 52) (n := 8) dX12_copy_41 (by decide) (by decide) rfl hi ?_
        refine go_if_ge (tgt := 51) dX12_copy_42 (by decide) (fun hc => ?_) (fun hc => ?_)
        · replace h := h.1 hc
          refine go_aload_n dX12_copy_51 rfl rfl ?_
          refine go_get (k := 2) (v := .ref (gd g 52)) dX12_copy_52 ob_12 (by decide) qf_X12_17 rfl ?_
          refine go_iload_n dX12_copy_55 rfl rfl ?_
          obtain ⟨hi, h⟩ := h
          refine go_ild (a := 52) (n := 8) dX12_copy_56 (by decide) (by decide) rfl hi ?_
          refine go_aload_n dX12_copy_57 rfl rfl ?_
          refine go_get (k := 2) (v := .ref (gd g 52)) dX12_copy_58 ob_12 (by decide) qf_X12_17 rfl ?_
          refine go_iload_n dX12_copy_61 rfl rfl ?_
          obtain ⟨hi, h⟩ := h
          refine go_ild (a := 52) (n := 8) dX12_copy_62 (by decide) (by decide) rfl hi ?_
          refine go_icmp_eq (tgt := 72) dX12_copy_63 (by decide) (fun hc => ?_) (fun hc => ?_)
          · replace h := h.1 hc
            refine go_iload_n dX12_copy_72 rfl rfl ?_
            refine go_if_lt (tgt := 121) dX12_copy_73 (by decide) (fun hc => ?_) (fun hc => ?_)
            · replace h := h.1 hc
              refine go_aload_n dX12_copy_121 rfl rfl ?_
              refine go_iconst (v := 2) dX12_copy_122 (by decide) ?_
              refine go_cVi (o := 12) (As := [.int 2]) (st := []) (lc := [some (.ref (gd g 12)), some (.int 2)]) dX12_copy_123 me_X12_finding rfl ob_12 qm_X12_143 rfl (Nat.le_of_ble_eq_true rfl) rfl ⟨Nat.le_of_ble_eq_true rfl, Nat.le_of_ble_eq_true rfl⟩ rfl (Nat.le_of_ble_eq_true rfl) h (fun r4 u4 h => ?_)
              exact go_iret dX12_copy_126 rfl h
            · replace h := h.2 hc
              refine go_iload dX12_copy_76 rfl ?_
              refine go_if_lt (tgt := 121) dX12_copy_78 (by decide) (fun hc => ?_) (fun hc => ?_)
              · replace h := h.1 hc
                refine go_aload_n dX12_copy_121 rfl rfl ?_
                refine go_iconst (v := 2) dX12_copy_122 (by decide) ?_
                refine go_cVi (o := 12) (As := [.int 2]) (st := []) (lc := [some (.ref (gd g 12)), some (.int 2)]) dX12_copy_123 me_X12_finding rfl ob_12 qm_X12_143 rfl (Nat.le_of_ble_eq_true rfl) rfl ⟨Nat.le_of_ble_eq_true rfl, Nat.le_of_ble_eq_true rfl⟩ rfl (Nat.le_of_ble_eq_true rfl) h (fun r5 u5 h => ?_)
                exact go_iret dX12_copy_126 rfl h
              · replace h := h.2 hc
                refine go_iload dX12_copy_81 rfl ?_
                refine go_if_lt (tgt := 121) dX12_copy_83 (by decide) (fun hc => ?_) (fun hc => ?_)
                · replace h := h.1 hc
                  refine go_aload_n dX12_copy_121 rfl rfl ?_
                  refine go_iconst (v := 2) dX12_copy_122 (by decide) ?_
                  refine go_cVi (o := 12) (As := [.int 2]) (st := []) (lc := [some (.ref (gd g 12)), some (.int 2)]) dX12_copy_123 me_X12_finding rfl ob_12 qm_X12_143 rfl (Nat.le_of_ble_eq_true rfl) rfl ⟨Nat.le_of_ble_eq_true rfl, Nat.le_of_ble_eq_true rfl⟩ rfl (Nat.le_of_ble_eq_true rfl) h (fun r6 u6 h => ?_)
                  exact go_iret dX12_copy_126 rfl h
                · replace h := h.2 hc
                  refine go_iload_n dX12_copy_86 rfl rfl ?_
                  refine go_i2l dX12_copy_87 ?_
                  refine go_iload dX12_copy_88 rfl ?_
                  refine go_i2l dX12_copy_90 ?_
                  refine go_ladd dX12_copy_91 ?_
                  refine go_aload_n dX12_copy_92 rfl rfl ?_
                  refine go_get (k := 3) (v := .ref (gd g 53)) dX12_copy_93 ob_12 (by decide) qf_X12_21 rfl ?_
                  refine go_iload_n dX12_copy_96 rfl rfl ?_
                  obtain ⟨hi, h⟩ := h
                  refine go_ild (a := 53) (n := 8) dX12_copy_97 (by decide) (by decide) rfl hi ?_
                  refine go_i2l dX12_copy_98 ?_
                  refine go_lcmp dX12_copy_99 ?_
                  refine go_if_gt (tgt := 121) dX12_copy_100 (by decide) (fun hc => ?_) (fun hc => ?_)
                  · replace h := h.1 hc
                    refine go_aload_n dX12_copy_121 rfl rfl ?_
                    refine go_iconst (v := 2) dX12_copy_122 (by decide) ?_
                    refine go_cVi (o := 12) (As := [.int 2]) (st := []) (lc := [some (.ref (gd g 12)), some (.int 2)]) dX12_copy_123 me_X12_finding rfl ob_12 qm_X12_143 rfl (Nat.le_of_ble_eq_true rfl) rfl ⟨Nat.le_of_ble_eq_true rfl, Nat.le_of_ble_eq_true rfl⟩ rfl (Nat.le_of_ble_eq_true rfl) h (fun r7 u7 h => ?_)
                    exact go_iret dX12_copy_126 rfl h
                  · replace h := h.2 hc
                    refine go_iload dX12_copy_103 rfl ?_
                    refine go_i2l dX12_copy_105 ?_
                    refine go_iload dX12_copy_106 rfl ?_
                    refine go_i2l dX12_copy_108 ?_
                    refine go_ladd dX12_copy_109 ?_
                    refine go_aload_n dX12_copy_110 rfl rfl ?_
                    refine go_get (k := 3) (v := .ref (gd g 53)) dX12_copy_111 ob_12 (by decide) qf_X12_21 rfl ?_
                    refine go_iload_n dX12_copy_114 rfl rfl ?_
                    obtain ⟨hi, h⟩ := h
                    refine go_ild (a := 53) (n := 8) dX12_copy_115 (by decide) (by decide) rfl hi ?_
                    refine go_i2l dX12_copy_116 ?_
                    refine go_lcmp dX12_copy_117 ?_
                    refine go_if_le (tgt := 127) dX12_copy_118 (by decide) (fun hc => ?_) (fun hc => ?_)
                    · replace h := h.1 hc
                      refine go_iload_n dX12_copy_127 rfl rfl ?_
                      refine go_iload dX12_copy_128 rfl ?_
                      refine go_icmp_lt (tgt := 137) dX12_copy_130 (by decide) (fun hc => ?_) (fun hc => ?_)
                      · replace h := h.1 hc
                        refine go_iconst (v := 0) dX12_copy_137 (by decide) ?_
                        refine go_istore (lm := [some (.ref (gd g 12)), some (.int x1), some (.int x2), some (.int x3), some (.int x4), some (.int x5), some (.int 0), none, none]) dX12_copy_138 (by decide) rfl rfl ?_
                        refine go_iconst (v := 0) dX12_copy_140 (by decide) ?_
                        refine go_istore (lm := [some (.ref (gd g 12)), some (.int x1), some (.int x2), some (.int x3), some (.int x4), some (.int x5), some (.int 0), some (.int 0), none]) dX12_copy_141 (by decide) rfl rfl ?_
                        exact h
                      · replace h := h.2 hc
                        refine go_iconst (v := 1) dX12_copy_133 (by decide) ?_
                        refine go_goto (tgt := 138) dX12_copy_134 (by decide) ?_
                        refine go_istore (lm := [some (.ref (gd g 12)), some (.int x1), some (.int x2), some (.int x3), some (.int x4), some (.int x5), some (.int 1), none, none]) dX12_copy_138 (by decide) rfl rfl ?_
                        refine go_iconst (v := 0) dX12_copy_140 (by decide) ?_
                        refine go_istore (lm := [some (.ref (gd g 12)), some (.int x1), some (.int x2), some (.int x3), some (.int x4), some (.int x5), some (.int 1), some (.int 0), none]) dX12_copy_141 (by decide) rfl rfl ?_
                        exact h
                    · replace h := h.2 hc
                      refine go_aload_n dX12_copy_121 rfl rfl ?_
                      refine go_iconst (v := 2) dX12_copy_122 (by decide) ?_
                      refine go_cVi (o := 12) (As := [.int 2]) (st := []) (lc := [some (.ref (gd g 12)), some (.int 2)]) dX12_copy_123 me_X12_finding rfl ob_12 qm_X12_143 rfl (Nat.le_of_ble_eq_true rfl) rfl ⟨Nat.le_of_ble_eq_true rfl, Nat.le_of_ble_eq_true rfl⟩ rfl (Nat.le_of_ble_eq_true rfl) h (fun r8 u8 h => ?_)
                      exact go_iret dX12_copy_126 rfl h
          · replace h := h.2 hc
            refine go_aload_n dX12_copy_66 rfl rfl ?_
            refine go_iconst (v := 5) dX12_copy_67 (by decide) ?_
            refine go_cVi (o := 12) (As := [.int 5]) (st := []) (lc := [some (.ref (gd g 12)), some (.int 5)]) dX12_copy_68 me_X12_finding rfl ob_12 qm_X12_143 rfl (Nat.le_of_ble_eq_true rfl) rfl ⟨Nat.le_of_ble_eq_true rfl, Nat.le_of_ble_eq_true rfl⟩ rfl (Nat.le_of_ble_eq_true rfl) h (fun r9 u9 h => ?_)
            exact go_iret dX12_copy_71 rfl h
        · replace h := h.2 hc
          refine go_aload_n dX12_copy_45 rfl rfl ?_
          refine go_iconst (v := 1) dX12_copy_46 (by decide) ?_
          refine go_cVi (o := 12) (As := [.int 1]) (st := []) (lc := [some (.ref (gd g 12)), some (.int 1)]) dX12_copy_47 me_X12_finding rfl ob_12 qm_X12_143 rfl (Nat.le_of_ble_eq_true rfl) rfl ⟨Nat.le_of_ble_eq_true rfl, Nat.le_of_ble_eq_true rfl⟩ rfl (Nat.le_of_ble_eq_true rfl) h (fun r10 u10 h => ?_)
          exact go_iret dX12_copy_50 rfl h
    · replace h := h.2 hc
      refine go_ldc dX12_copy_19 qc_X12_142 ?_
      exact go_iret dX12_copy_21 rfl h
set_option maxRecDepth 100000 in
set_option maxHeartbeats 4000000 in
theorem B_X12_copy_143 {g : gp} {u : sg} {Q : Option Value → sg → Prop} (x1 : Int32) (x2 : Int32) (x3 : Int32) (x4 : Int32) (x5 : Int32) (x6 : Int32) (x7 : Int32) (h : ((x5 ≤ x7 → Q (some (.int x5)) u) ∧ (¬ x5 ≤ x7 → ((x6 = (0 : Int32) → Go g iX12_copy 167 [some (.ref (gd g 12)), some (.int x1), some (.int x2), some (.int x3), some (.int x4), some (.int x5), some (.int x6), some (.int x7), none] [.int ((x5 - 1) - x7)] u Q) ∧ (¬ x6 = (0 : Int32) → Go g iX12_copy 167 [some (.ref (gd g 12)), some (.int x1), some (.int x2), some (.int x3), some (.int x4), some (.int x5), some (.int x6), some (.int x7), none] [.int x7] u Q))))) : Go g iX12_copy 143 [some (.ref (gd g 12)), some (.int x1), some (.int x2), some (.int x3), some (.int x4), some (.int x5), some (.int x6), some (.int x7), none] [] u Q := by
  refine go_iload dX12_copy_143 rfl ?_
  refine go_iload dX12_copy_145 rfl ?_
  refine go_icmp_ge (tgt := 204) dX12_copy_147 (by decide) (fun hc => ?_) (fun hc => ?_)
  · replace h := h.1 hc
    refine go_iload dX12_copy_204 rfl ?_
    exact go_iret dX12_copy_206 rfl h
  · replace h := h.2 hc
    refine go_iload dX12_copy_150 rfl ?_
    refine go_if_eq (tgt := 160) dX12_copy_152 (by decide) (fun hc => ?_) (fun hc => ?_)
    · replace h := h.1 hc
      refine go_iload dX12_copy_160 rfl ?_
      refine go_iconst (v := 1) dX12_copy_162 (by decide) ?_
      refine go_isub dX12_copy_163 ?_
      refine go_iload dX12_copy_164 rfl ?_
      refine go_isub dX12_copy_166 ?_
      exact h
    · replace h := h.2 hc
      refine go_iload dX12_copy_155 rfl ?_
      refine go_goto (tgt := 167) dX12_copy_157 (by decide) ?_
      exact h
set_option maxRecDepth 100000 in
set_option maxHeartbeats 4000000 in
theorem B_X12_copy_167 {g : gp} {u : sg} {Q : Option Value → sg → Prop} (x1 : Int32) (x2 : Int32) (x3 : Int32) (x4 : Int32) (x5 : Int32) (x6 : Int32) (x7 : Int32) (t0 : Int32) (h : (vp_in (((64 * x1) + x2) + t0) 512 ∧ (vp_in (((64 * x3) + x4) + t0) 512 ∧ Go g iX12_copy 143 [some (.ref (gd g 12)), some (.int x1), some (.int x2), some (.int x3), some (.int x4), some (.int x5), some (.int x6), some (.int (x7 + 1)), none] [] (sA u 54 (((64 * x3) + x4) + t0).toNatClampNeg (u.2 54 (((64 * x1) + x2) + t0).toNatClampNeg)) Q))) : Go g iX12_copy 167 [some (.ref (gd g 12)), some (.int x1), some (.int x2), some (.int x3), some (.int x4), some (.int x5), some (.int x6), some (.int x7), none] [.int t0] u Q := by
  refine go_istore (lm := [some (.ref (gd g 12)), some (.int x1), some (.int x2), some (.int x3), some (.int x4), some (.int x5), some (.int x6), some (.int x7), some (.int t0)]) dX12_copy_167 (by decide) rfl rfl ?_
  refine go_aload_n dX12_copy_169 rfl rfl ?_
  refine go_get (k := 4) (v := .ref (gd g 54)) dX12_copy_170 ob_12 (by decide) qf_X12_24 rfl ?_
  refine go_bipush (v := 64) dX12_copy_173 (by decide) ?_
  refine go_iload_n dX12_copy_175 rfl rfl ?_
  refine go_imul dX12_copy_176 ?_
  refine go_iload dX12_copy_177 rfl ?_
  refine go_iadd dX12_copy_179 ?_
  refine go_iload dX12_copy_180 rfl ?_
  refine go_iadd dX12_copy_182 ?_
  refine go_aload_n dX12_copy_183 rfl rfl ?_
  refine go_get (k := 4) (v := .ref (gd g 54)) dX12_copy_184 ob_12 (by decide) qf_X12_24 rfl ?_
  refine go_bipush (v := 64) dX12_copy_187 (by decide) ?_
  refine go_iload_n dX12_copy_189 rfl rfl ?_
  refine go_imul dX12_copy_190 ?_
  refine go_iload_n dX12_copy_191 rfl rfl ?_
  refine go_iadd dX12_copy_192 ?_
  refine go_iload dX12_copy_193 rfl ?_
  refine go_iadd dX12_copy_195 ?_
  obtain ⟨hi, h⟩ := h
  refine go_ild (a := 54) (n := 512) dX12_copy_196 (by decide) (by decide) rfl hi ?_
  obtain ⟨hi, h⟩ := h
  refine go_ist (a := 54) (n := 512) dX12_copy_197 (by decide) (by decide) rfl hi ?_
  refine go_iinc (v := x7 + 1) (lm := [some (.ref (gd g 12)), some (.int x1), some (.int x2), some (.int x3), some (.int x4), some (.int x5), some (.int x6), some (.int (x7 + 1)), some (.int t0)]) dX12_copy_198 rfl rfl (by decide) rfl rfl ?_
  refine go_goto (tgt := 143) dX12_copy_201 (by decide) ?_
  refine go_mask [true, true, true, true, true, true, true, true, false] rfl ?_
  exact h
set_option maxRecDepth 100000 in
set_option maxHeartbeats 4000000 in
theorem B_X12_drop_0 {g : gp} {u : sg} {Q : Option Value → sg → Prop} (x1 : Int32) (h : Go g iX12_isSheet 0 [some (.int x1)] [] (sI u 12 0 (0 : Int32)) (QI (fun r1 u1 => ((¬ r1 = (0 : Int32) → (vp_in x1 8 ∧ (((0 : Int32) ≤ (u1.2 52 x1.toNatClampNeg) → (vp_in x1 8 ∧ (vp_in x1 8 ∧ Q (some (.int (u1.2 53 x1.toNatClampNeg))) (sA (sI u1 12 1 (0 : Int32)) 52 x1.toNatClampNeg (-1 : Int32))))) ∧ (¬ (0 : Int32) ≤ (u1.2 52 x1.toNatClampNeg) → Go g iX12_finding 0 [some (.ref (gd g 12)), some (.int 1)] [] (sI u1 12 1 (0 : Int32)) (QI (fun r2 u2 => Q (some (.int r2)) u2)))))) ∧ (r1 = (0 : Int32) → Q (some (.int (-1000001 : Int32))) u1))))) : Go g iX12_drop 0 [some (.ref (gd g 12)), some (.int x1)] [] u Q := by
  refine go_aload_n dX12_drop_0 rfl rfl ?_
  refine go_iconst (v := 0) dX12_drop_1 (by decide) ?_
  refine go_put (k := 0) dX12_drop_2 ob_12 (by decide) qf_X12_1 rfl rfl pf_I ?_
  refine go_iload_n dX12_drop_5 rfl rfl ?_
  refine go_cSi (As := [.int x1]) (st := []) (lc := [some (.int x1)]) dX12_drop_6 me_X12_isSheet qm_X12_136 rfl (Nat.le_of_ble_eq_true rfl) rfl ⟨Nat.le_of_ble_eq_true rfl, Nat.le_of_ble_eq_true rfl⟩ rfl (Nat.le_of_ble_eq_true rfl) h (fun r1 u1 h => ?_)
  refine go_if_ne (tgt := 15) dX12_drop_9 (by decide) (fun hc => ?_) (fun hc => ?_)
  · replace h := h.1 hc
    refine go_aload_n dX12_drop_15 rfl rfl ?_
    refine go_iconst (v := 0) dX12_drop_16 (by decide) ?_
    refine go_put (k := 1) dX12_drop_17 ob_12 (by decide) qf_X12_7 rfl rfl pf_I ?_
    refine go_aload_n dX12_drop_20 rfl rfl ?_
    refine go_get (k := 2) (v := .ref (gd g 52)) dX12_drop_21 ob_12 (by decide) qf_X12_17 rfl ?_
    refine go_iload_n dX12_drop_24 rfl rfl ?_
    obtain ⟨hi, h⟩ := h
    refine go_ild (a := 52) (n := 8) dX12_drop_25 (by decide) (by decide) rfl hi ?_
    refine go_if_ge (tgt := 35) dX12_drop_26 (by decide) (fun hc => ?_) (fun hc => ?_)
    · replace h := h.1 hc
      refine go_aload_n dX12_drop_35 rfl rfl ?_
      refine go_get (k := 2) (v := .ref (gd g 52)) dX12_drop_36 ob_12 (by decide) qf_X12_17 rfl ?_
      refine go_iload_n dX12_drop_39 rfl rfl ?_
      refine go_iconst (v := (-1)) dX12_drop_40 (by decide) ?_
      obtain ⟨hi, h⟩ := h
      refine go_ist (a := 52) (n := 8) dX12_drop_41 (by decide) (by decide) rfl hi ?_
      refine go_aload_n dX12_drop_42 rfl rfl ?_
      refine go_get (k := 3) (v := .ref (gd g 53)) dX12_drop_43 ob_12 (by decide) qf_X12_21 rfl ?_
      refine go_iload_n dX12_drop_46 rfl rfl ?_
      obtain ⟨hi, h⟩ := h
      refine go_ild (a := 53) (n := 8) dX12_drop_47 (by decide) (by decide) rfl hi ?_
      exact go_iret dX12_drop_48 rfl h
    · replace h := h.2 hc
      refine go_aload_n dX12_drop_29 rfl rfl ?_
      refine go_iconst (v := 1) dX12_drop_30 (by decide) ?_
      refine go_cVi (o := 12) (As := [.int 1]) (st := []) (lc := [some (.ref (gd g 12)), some (.int 1)]) dX12_drop_31 me_X12_finding rfl ob_12 qm_X12_143 rfl (Nat.le_of_ble_eq_true rfl) rfl ⟨Nat.le_of_ble_eq_true rfl, Nat.le_of_ble_eq_true rfl⟩ rfl (Nat.le_of_ble_eq_true rfl) h (fun r2 u2 h => ?_)
      exact go_iret dX12_drop_34 rfl h
  · replace h := h.2 hc
    refine go_ldc dX12_drop_12 qc_X12_142 ?_
    exact go_iret dX12_drop_14 rfl h
set_option maxRecDepth 100000 in
set_option maxHeartbeats 4000000 in
theorem B_X12_lookItems_0 {g : gp} {u : sg} {Q : Option Value → sg → Prop} (x1 : Int32) (x2 : Int32) (x3 : Int32) (h : (vp_in x1 8 ∧ (((0 : Int32) ≤ (u.2 52 x1.toNatClampNeg) → ((x2 < (0 : Int32) → Go g iX12_finding 0 [some (.ref (gd g 12)), some (.int 2)] [] u (QI (fun r1 u1 => Q (some (.int r1)) u1))) ∧ (¬ x2 < (0 : Int32) → (vp_in x1 8 ∧ (((lg_cmp ((x2.toInt64) + (x3.toInt64)) ((u.2 53 x1.toNatClampNeg).toInt64)) ≤ (0 : Int32) → Q (some (.int (0 : Int32))) u) ∧ (¬ (lg_cmp ((x2.toInt64) + (x3.toInt64)) ((u.2 53 x1.toNatClampNeg).toInt64)) ≤ (0 : Int32) → Go g iX12_finding 0 [some (.ref (gd g 12)), some (.int 2)] [] u (QI (fun r2 u2 => Q (some (.int r2)) u2)))))))) ∧ (¬ (0 : Int32) ≤ (u.2 52 x1.toNatClampNeg) → Go g iX12_finding 0 [some (.ref (gd g 12)), some (.int 1)] [] u (QI (fun r3 u3 => Q (some (.int r3)) u3)))))) : Go g iX12_lookItems 0 [some (.ref (gd g 12)), some (.int x1), some (.int x2), some (.int x3)] [] u Q := by
  refine go_aload_n dX12_lookItems_0 rfl rfl ?_
  refine go_get (k := 2) (v := .ref (gd g 52)) dX12_lookItems_1 ob_12 (by decide) qf_X12_17 rfl ?_
  refine go_iload_n dX12_lookItems_4 rfl rfl ?_
  obtain ⟨hi, h⟩ := h
  refine go_ild (a := 52) (n := 8) dX12_lookItems_5 (by decide) (by decide) rfl hi ?_
  refine go_if_ge (tgt := 15) dX12_lookItems_6 (by decide) (fun hc => ?_) (fun hc => ?_)
  · replace h := h.1 hc
    refine go_iload_n dX12_lookItems_15 rfl rfl ?_
    refine go_if_lt (tgt := 35) dX12_lookItems_16 (by decide) (fun hc => ?_) (fun hc => ?_)
    · replace h := h.1 hc
      refine go_aload_n dX12_lookItems_35 rfl rfl ?_
      refine go_iconst (v := 2) dX12_lookItems_36 (by decide) ?_
      refine go_cVi (o := 12) (As := [.int 2]) (st := []) (lc := [some (.ref (gd g 12)), some (.int 2)]) dX12_lookItems_37 me_X12_finding rfl ob_12 qm_X12_143 rfl (Nat.le_of_ble_eq_true rfl) rfl ⟨Nat.le_of_ble_eq_true rfl, Nat.le_of_ble_eq_true rfl⟩ rfl (Nat.le_of_ble_eq_true rfl) h (fun r1 u1 h => ?_)
      refine go_goto (tgt := 44) dX12_lookItems_40 (by decide) ?_
      exact go_iret dX12_lookItems_44 rfl h
    · replace h := h.2 hc
      refine go_iload_n dX12_lookItems_19 rfl rfl ?_
      refine go_i2l dX12_lookItems_20 ?_
      refine go_iload_n dX12_lookItems_21 rfl rfl ?_
      refine go_i2l dX12_lookItems_22 ?_
      refine go_ladd dX12_lookItems_23 ?_
      refine go_aload_n dX12_lookItems_24 rfl rfl ?_
      refine go_get (k := 3) (v := .ref (gd g 53)) dX12_lookItems_25 ob_12 (by decide) qf_X12_21 rfl ?_
      refine go_iload_n dX12_lookItems_28 rfl rfl ?_
      obtain ⟨hi, h⟩ := h
      refine go_ild (a := 53) (n := 8) dX12_lookItems_29 (by decide) (by decide) rfl hi ?_
      refine go_i2l dX12_lookItems_30 ?_
      refine go_lcmp dX12_lookItems_31 ?_
      refine go_if_le (tgt := 43) dX12_lookItems_32 (by decide) (fun hc => ?_) (fun hc => ?_)
      · replace h := h.1 hc
        refine go_iconst (v := 0) dX12_lookItems_43 (by decide) ?_
        exact go_iret dX12_lookItems_44 rfl h
      · replace h := h.2 hc
        refine go_aload_n dX12_lookItems_35 rfl rfl ?_
        refine go_iconst (v := 2) dX12_lookItems_36 (by decide) ?_
        refine go_cVi (o := 12) (As := [.int 2]) (st := []) (lc := [some (.ref (gd g 12)), some (.int 2)]) dX12_lookItems_37 me_X12_finding rfl ob_12 qm_X12_143 rfl (Nat.le_of_ble_eq_true rfl) rfl ⟨Nat.le_of_ble_eq_true rfl, Nat.le_of_ble_eq_true rfl⟩ rfl (Nat.le_of_ble_eq_true rfl) h (fun r2 u2 h => ?_)
        refine go_goto (tgt := 44) dX12_lookItems_40 (by decide) ?_
        exact go_iret dX12_lookItems_44 rfl h
  · replace h := h.2 hc
    refine go_aload_n dX12_lookItems_9 rfl rfl ?_
    refine go_iconst (v := 1) dX12_lookItems_10 (by decide) ?_
    refine go_cVi (o := 12) (As := [.int 1]) (st := []) (lc := [some (.ref (gd g 12)), some (.int 1)]) dX12_lookItems_11 me_X12_finding rfl ob_12 qm_X12_143 rfl (Nat.le_of_ble_eq_true rfl) rfl ⟨Nat.le_of_ble_eq_true rfl, Nat.le_of_ble_eq_true rfl⟩ rfl (Nat.le_of_ble_eq_true rfl) h (fun r3 u3 h => ?_)
    exact go_iret dX12_lookItems_14 rfl h
set_option maxRecDepth 100000 in
set_option maxHeartbeats 4000000 in
theorem B_X12_isGate_0 {g : gp} {u : sg} {Q : Option Value → sg → Prop} (x0 : Int32) (h : Go g iX12_in 0 [some (.long (x0.toInt64)), none, some (.long 0), none, some (.long 8), none] [] u (QI (fun r1 u1 => (narrow .boolean (.int r1) = .int r1 ∧ Q (some (.int r1)) u1)))) : Go g iX12_isGate 0 [some (.int x0)] [] u Q := by
  refine go_iload_n dX12_isGate_0 rfl rfl ?_
  refine go_i2l dX12_isGate_1 ?_
  refine go_lconst (v := 0) dX12_isGate_2 (by decide) ?_
  refine go_ldc2 dX12_isGate_3 ql_X12_147 ?_
  refine go_cSi (As := [.long (x0.toInt64), .long 0, .long 8]) (st := []) (lc := [some (.long (x0.toInt64)), none, some (.long 0), none, some (.long 8), none]) dX12_isGate_6 me_X12_in qm_X12_132 rfl (Nat.le_of_ble_eq_true rfl) rfl ⟨Nat.le_of_ble_eq_true rfl, Nat.le_of_ble_eq_true rfl⟩ rfl (Nat.le_of_ble_eq_true rfl) h (fun r1 u1 h => ?_)
  exact go_zret dX12_isGate_9 rfl h.1 h.2
set_option maxRecDepth 100000 in
set_option maxHeartbeats 4000000 in
theorem B_X12_isDay_0 {g : gp} {u : sg} {Q : Option Value → sg → Prop} (x0 : Int32) (h : Go g iX12_in 0 [some (.long (x0.toInt64)), none, some (.long 0), none, some (.long 999), none] [] u (QI (fun r1 u1 => (narrow .boolean (.int r1) = .int r1 ∧ Q (some (.int r1)) u1)))) : Go g iX12_isDay 0 [some (.int x0)] [] u Q := by
  refine go_iload_n dX12_isDay_0 rfl rfl ?_
  refine go_i2l dX12_isDay_1 ?_
  refine go_lconst (v := 0) dX12_isDay_2 (by decide) ?_
  refine go_ldc2 dX12_isDay_3 ql_X12_149 ?_
  refine go_cSi (As := [.long (x0.toInt64), .long 0, .long 999]) (st := []) (lc := [some (.long (x0.toInt64)), none, some (.long 0), none, some (.long 999), none]) dX12_isDay_6 me_X12_in qm_X12_132 rfl (Nat.le_of_ble_eq_true rfl) rfl ⟨Nat.le_of_ble_eq_true rfl, Nat.le_of_ble_eq_true rfl⟩ rfl (Nat.le_of_ble_eq_true rfl) h (fun r1 u1 h => ?_)
  exact go_zret dX12_isDay_9 rfl h.1 h.2
set_option maxRecDepth 100000 in
set_option maxHeartbeats 4000000 in
theorem B_X12_isMinute_0 {g : gp} {u : sg} {Q : Option Value → sg → Prop} (x0 : Int32) (h : Go g iX12_in 0 [some (.long (x0.toInt64)), none, some (.long 0), none, some (.long 1439), none] [] u (QI (fun r1 u1 => (narrow .boolean (.int r1) = .int r1 ∧ Q (some (.int r1)) u1)))) : Go g iX12_isMinute 0 [some (.int x0)] [] u Q := by
  refine go_iload_n dX12_isMinute_0 rfl rfl ?_
  refine go_i2l dX12_isMinute_1 ?_
  refine go_lconst (v := 0) dX12_isMinute_2 (by decide) ?_
  refine go_ldc2 dX12_isMinute_3 ql_X12_151 ?_
  refine go_cSi (As := [.long (x0.toInt64), .long 0, .long 1439]) (st := []) (lc := [some (.long (x0.toInt64)), none, some (.long 0), none, some (.long 1439), none]) dX12_isMinute_6 me_X12_in qm_X12_132 rfl (Nat.le_of_ble_eq_true rfl) rfl ⟨Nat.le_of_ble_eq_true rfl, Nat.le_of_ble_eq_true rfl⟩ rfl (Nat.le_of_ble_eq_true rfl) h (fun r1 u1 h => ?_)
  exact go_zret dX12_isMinute_9 rfl h.1 h.2
set_option maxRecDepth 100000 in
set_option maxHeartbeats 4000000 in
theorem B_X12_isSpot_0 {g : gp} {u : sg} {Q : Option Value → sg → Prop} (x0 : Int32) (x1 : Int32) (h : Go g iX12_in 0 [some (.long (x0.toInt64)), none, some (.long 0), none, some (.long 999), none] [] u (QI (fun r1 u1 => ((r1 = (0 : Int32) → Q (some (.int (0 : Int32))) u1) ∧ (¬ r1 = (0 : Int32) → Go g iX12_in 0 [some (.long (x1.toInt64)), none, some (.long 0), none, some (.long 999), none] [] u1 (QI (fun r2 u2 => ((r2 = (0 : Int32) → Q (some (.int (0 : Int32))) u2) ∧ (¬ r2 = (0 : Int32) → Q (some (.int (1 : Int32))) u2))))))))) : Go g iX12_isSpot 0 [some (.int x0), some (.int x1)] [] u Q := by
  refine go_iload_n dX12_isSpot_0 rfl rfl ?_
  refine go_i2l dX12_isSpot_1 ?_
  refine go_lconst (v := 0) dX12_isSpot_2 (by decide) ?_
  refine go_ldc2 dX12_isSpot_3 ql_X12_149 ?_
  refine go_cSi (As := [.long (x0.toInt64), .long 0, .long 999]) (st := []) (lc := [some (.long (x0.toInt64)), none, some (.long 0), none, some (.long 999), none]) dX12_isSpot_6 me_X12_in qm_X12_132 rfl (Nat.le_of_ble_eq_true rfl) rfl ⟨Nat.le_of_ble_eq_true rfl, Nat.le_of_ble_eq_true rfl⟩ rfl (Nat.le_of_ble_eq_true rfl) h (fun r1 u1 h => ?_)
  refine go_if_eq (tgt := 28) dX12_isSpot_9 (by decide) (fun hc => ?_) (fun hc => ?_)
  · replace h := h.1 hc
    refine go_iconst (v := 0) dX12_isSpot_28 (by decide) ?_
    exact go_zret dX12_isSpot_29 rfl (by decide) h
  · replace h := h.2 hc
    refine go_iload_n dX12_isSpot_12 rfl rfl ?_
    refine go_i2l dX12_isSpot_13 ?_
    refine go_lconst (v := 0) dX12_isSpot_14 (by decide) ?_
    refine go_ldc2 dX12_isSpot_15 ql_X12_149 ?_
    refine go_cSi (As := [.long (x1.toInt64), .long 0, .long 999]) (st := []) (lc := [some (.long (x1.toInt64)), none, some (.long 0), none, some (.long 999), none]) dX12_isSpot_18 me_X12_in qm_X12_132 rfl (Nat.le_of_ble_eq_true rfl) rfl ⟨Nat.le_of_ble_eq_true rfl, Nat.le_of_ble_eq_true rfl⟩ rfl (Nat.le_of_ble_eq_true rfl) h (fun r2 u2 h => ?_)
    refine go_if_eq (tgt := 28) dX12_isSpot_21 (by decide) (fun hc => ?_) (fun hc => ?_)
    · replace h := h.1 hc
      refine go_iconst (v := 0) dX12_isSpot_28 (by decide) ?_
      exact go_zret dX12_isSpot_29 rfl (by decide) h
    · replace h := h.2 hc
      refine go_iconst (v := 1) dX12_isSpot_24 (by decide) ?_
      refine go_goto (tgt := 29) dX12_isSpot_25 (by decide) ?_
      exact go_zret dX12_isSpot_29 rfl (by decide) h
set_option maxRecDepth 100000 in
set_option maxHeartbeats 4000000 in
theorem B_X12_bell_0 {g : gp} {u : sg} {Q : Option Value → sg → Prop} (x1 : Int32) (x2 : Int32) (x3 : Int32) (h : Go g iX12_isGate 0 [some (.int x1)] [] (sI u 12 0 (0 : Int32)) (QI (fun r1 u1 => ((r1 = (0 : Int32) → Q (some (.int (-1000001 : Int32))) u1) ∧ (¬ r1 = (0 : Int32) → Go g iX12_isMinute 0 [some (.int x2)] [] u1 (QI (fun r2 u2 => ((r2 = (0 : Int32) → Q (some (.int (-1000001 : Int32))) u2) ∧ (¬ r2 = (0 : Int32) → Go g iX12_in 0 [some (.long (x3.toInt64)), none, some (.long ((x2 + 1).toInt64)), none, some (.long 1440), none] [] u2 (QI (fun r3 u3 => ((¬ r3 = (0 : Int32) → (vp_in x1 9 ∧ (vp_in x1 9 ∧ Q (some (.int (1 : Int32))) (sA (sA u3 55 x1.toNatClampNeg x2) 56 x1.toNatClampNeg x3)))) ∧ (r3 = (0 : Int32) → Q (some (.int (-1000001 : Int32))) u3))))))))))))) : Go g iX12_bell 0 [some (.ref (gd g 12)), some (.int x1), some (.int x2), some (.int x3)] [] u Q := by
  refine go_aload_n dX12_bell_0 rfl rfl ?_
  refine go_iconst (v := 0) dX12_bell_1 (by decide) ?_
  refine go_put (k := 0) dX12_bell_2 ob_12 (by decide) qf_X12_1 rfl rfl pf_I ?_
  refine go_iload_n dX12_bell_5 rfl rfl ?_
  refine go_cSi (As := [.int x1]) (st := []) (lc := [some (.int x1)]) dX12_bell_6 me_X12_isGate qm_X12_153 rfl (Nat.le_of_ble_eq_true rfl) rfl ⟨Nat.le_of_ble_eq_true rfl, Nat.le_of_ble_eq_true rfl⟩ rfl (Nat.le_of_ble_eq_true rfl) h (fun r1 u1 h => ?_)
  refine go_if_eq (tgt := 34) dX12_bell_9 (by decide) (fun hc => ?_) (fun hc => ?_)
  · replace h := h.1 hc
    refine go_ldc dX12_bell_34 qc_X12_142 ?_
    exact go_iret dX12_bell_36 rfl h
  · replace h := h.2 hc
    refine go_iload_n dX12_bell_12 rfl rfl ?_
    refine go_cSi (As := [.int x2]) (st := []) (lc := [some (.int x2)]) dX12_bell_13 me_X12_isMinute qm_X12_156 rfl (Nat.le_of_ble_eq_true rfl) rfl ⟨Nat.le_of_ble_eq_true rfl, Nat.le_of_ble_eq_true rfl⟩ rfl (Nat.le_of_ble_eq_true rfl) h (fun r2 u2 h => ?_)
    refine go_if_eq (tgt := 34) dX12_bell_16 (by decide) (fun hc => ?_) (fun hc => ?_)
    · replace h := h.1 hc
      refine go_ldc dX12_bell_34 qc_X12_142 ?_
      exact go_iret dX12_bell_36 rfl h
    · replace h := h.2 hc
      refine go_iload_n dX12_bell_19 rfl rfl ?_
      refine go_i2l dX12_bell_20 ?_
      refine go_iload_n dX12_bell_21 rfl rfl ?_
      refine go_iconst (v := 1) dX12_bell_22 (by decide) ?_
      refine go_iadd dX12_bell_23 ?_
      refine go_i2l dX12_bell_24 ?_
      refine go_ldc2 dX12_bell_25 ql_X12_159 ?_
      refine go_cSi (As := [.long (x3.toInt64), .long ((x2 + 1).toInt64), .long 1440]) (st := []) (lc := [some (.long (x3.toInt64)), none, some (.long ((x2 + 1).toInt64)), none, some (.long 1440), none]) dX12_bell_28 me_X12_in qm_X12_132 rfl (Nat.le_of_ble_eq_true rfl) rfl ⟨Nat.le_of_ble_eq_true rfl, Nat.le_of_ble_eq_true rfl⟩ rfl (Nat.le_of_ble_eq_true rfl) h (fun r3 u3 h => ?_)
      refine go_if_ne (tgt := 37) dX12_bell_31 (by decide) (fun hc => ?_) (fun hc => ?_)
      · replace h := h.1 hc
        refine go_aload_n dX12_bell_37 rfl rfl ?_
        refine go_get (k := 5) (v := .ref (gd g 55)) dX12_bell_38 ob_12 (by decide) qf_X12_27 rfl ?_
        refine go_iload_n dX12_bell_41 rfl rfl ?_
        refine go_iload_n dX12_bell_42 rfl rfl ?_
        obtain ⟨hi, h⟩ := h
        refine go_ist (a := 55) (n := 9) dX12_bell_43 (by decide) (by decide) rfl hi ?_
        refine go_aload_n dX12_bell_44 rfl rfl ?_
        refine go_get (k := 6) (v := .ref (gd g 56)) dX12_bell_45 ob_12 (by decide) qf_X12_30 rfl ?_
        refine go_iload_n dX12_bell_48 rfl rfl ?_
        refine go_iload_n dX12_bell_49 rfl rfl ?_
        obtain ⟨hi, h⟩ := h
        refine go_ist (a := 56) (n := 9) dX12_bell_50 (by decide) (by decide) rfl hi ?_
        refine go_iconst (v := 1) dX12_bell_51 (by decide) ?_
        exact go_iret dX12_bell_52 rfl h
      · replace h := h.2 hc
        refine go_ldc dX12_bell_34 qc_X12_142 ?_
        exact go_iret dX12_bell_36 rfl h
set_option maxRecDepth 100000 in
set_option maxHeartbeats 4000000 in
theorem B_X12_part_0 {g : gp} {u : sg} {Q : Option Value → sg → Prop} (x1 : Int32) (x2 : Int32) (h : Go g iX12_isGate 0 [some (.int x1)] [] (sI u 12 0 (0 : Int32)) (QI (fun r1 u1 => ((r1 = (0 : Int32) → Q (some (.int (-1000001 : Int32))) u1) ∧ (¬ r1 = (0 : Int32) → Go g iX12_in 0 [some (.long (x2.toInt64)), none, some (.long 1), none, some (.long 300), none] [] u1 (QI (fun r2 u2 => ((¬ r2 = (0 : Int32) → (vp_in x1 9 ∧ (vp_in x1 9 ∧ Q (some (.int (u2.2 57 x1.toNatClampNeg))) (sA u2 57 x1.toNatClampNeg x2)))) ∧ (r2 = (0 : Int32) → Q (some (.int (-1000001 : Int32))) u2))))))))) : Go g iX12_part 0 [some (.ref (gd g 12)), some (.int x1), some (.int x2), none] [] u Q := by
  refine go_aload_n dX12_part_0 rfl rfl ?_
  refine go_iconst (v := 0) dX12_part_1 (by decide) ?_
  refine go_put (k := 0) dX12_part_2 ob_12 (by decide) qf_X12_1 rfl rfl pf_I ?_
  refine go_iload_n dX12_part_5 rfl rfl ?_
  refine go_cSi (As := [.int x1]) (st := []) (lc := [some (.int x1)]) dX12_part_6 me_X12_isGate qm_X12_153 rfl (Nat.le_of_ble_eq_true rfl) rfl ⟨Nat.le_of_ble_eq_true rfl, Nat.le_of_ble_eq_true rfl⟩ rfl (Nat.le_of_ble_eq_true rfl) h (fun r1 u1 h => ?_)
  refine go_if_eq (tgt := 24) dX12_part_9 (by decide) (fun hc => ?_) (fun hc => ?_)
  · replace h := h.1 hc
    refine go_ldc dX12_part_24 qc_X12_142 ?_
    exact go_iret dX12_part_26 rfl h
  · replace h := h.2 hc
    refine go_iload_n dX12_part_12 rfl rfl ?_
    refine go_i2l dX12_part_13 ?_
    refine go_lconst (v := 1) dX12_part_14 (by decide) ?_
    refine go_ldc2 dX12_part_15 ql_X12_161 ?_
    refine go_cSi (As := [.long (x2.toInt64), .long 1, .long 300]) (st := []) (lc := [some (.long (x2.toInt64)), none, some (.long 1), none, some (.long 300), none]) dX12_part_18 me_X12_in qm_X12_132 rfl (Nat.le_of_ble_eq_true rfl) rfl ⟨Nat.le_of_ble_eq_true rfl, Nat.le_of_ble_eq_true rfl⟩ rfl (Nat.le_of_ble_eq_true rfl) h (fun r2 u2 h => ?_)
    refine go_if_ne (tgt := 27) dX12_part_21 (by decide) (fun hc => ?_) (fun hc => ?_)
    · replace h := h.1 hc
      refine go_aload_n dX12_part_27 rfl rfl ?_
      refine go_get (k := 7) (v := .ref (gd g 57)) dX12_part_28 ob_12 (by decide) qf_X12_33 rfl ?_
      refine go_iload_n dX12_part_31 rfl rfl ?_
      obtain ⟨hi, h⟩ := h
      refine go_ild (a := 57) (n := 9) dX12_part_32 (by decide) (by decide) rfl hi ?_
      refine go_istore_n (lm := [some (.ref (gd g 12)), some (.int x1), some (.int x2), some (.int (u2.2 57 x1.toNatClampNeg))]) dX12_part_33 rfl (by decide) rfl rfl ?_
      refine go_aload_n dX12_part_34 rfl rfl ?_
      refine go_get (k := 7) (v := .ref (gd g 57)) dX12_part_35 ob_12 (by decide) qf_X12_33 rfl ?_
      refine go_iload_n dX12_part_38 rfl rfl ?_
      refine go_iload_n dX12_part_39 rfl rfl ?_
      obtain ⟨hi, h⟩ := h
      refine go_ist (a := 57) (n := 9) dX12_part_40 (by decide) (by decide) rfl hi ?_
      refine go_iload_n dX12_part_41 rfl rfl ?_
      exact go_iret dX12_part_42 rfl h
    · replace h := h.2 hc
      refine go_ldc dX12_part_24 qc_X12_142 ?_
      exact go_iret dX12_part_26 rfl h
set_option maxRecDepth 100000 in
set_option maxHeartbeats 4000000 in
theorem B_X12_stands_0 {g : gp} {u : sg} {Q : Option Value → sg → Prop} (x1 : Int32) (x2 : Int32) (x3 : Int32) (h : Go g iX12_isGate 0 [some (.int x1)] [] (sI u 12 0 (0 : Int32)) (QI (fun r1 u1 => ((r1 = (0 : Int32) → Q (some (.int (-1000001 : Int32))) u1) ∧ (¬ r1 = (0 : Int32) → Go g iX12_isSpot 0 [some (.int x2), some (.int x3)] [] u1 (QI (fun r2 u2 => ((¬ r2 = (0 : Int32) → (vp_in x1 9 ∧ (vp_in x1 9 ∧ Q (some (.int (1 : Int32))) (sA (sA u2 58 x1.toNatClampNeg x2) 59 x1.toNatClampNeg x3)))) ∧ (r2 = (0 : Int32) → Q (some (.int (-1000001 : Int32))) u2))))))))) : Go g iX12_stands 0 [some (.ref (gd g 12)), some (.int x1), some (.int x2), some (.int x3)] [] u Q := by
  refine go_aload_n dX12_stands_0 rfl rfl ?_
  refine go_iconst (v := 0) dX12_stands_1 (by decide) ?_
  refine go_put (k := 0) dX12_stands_2 ob_12 (by decide) qf_X12_1 rfl rfl pf_I ?_
  refine go_iload_n dX12_stands_5 rfl rfl ?_
  refine go_cSi (As := [.int x1]) (st := []) (lc := [some (.int x1)]) dX12_stands_6 me_X12_isGate qm_X12_153 rfl (Nat.le_of_ble_eq_true rfl) rfl ⟨Nat.le_of_ble_eq_true rfl, Nat.le_of_ble_eq_true rfl⟩ rfl (Nat.le_of_ble_eq_true rfl) h (fun r1 u1 h => ?_)
  refine go_if_eq (tgt := 20) dX12_stands_9 (by decide) (fun hc => ?_) (fun hc => ?_)
  · replace h := h.1 hc
    refine go_ldc dX12_stands_20 qc_X12_142 ?_
    exact go_iret dX12_stands_22 rfl h
  · replace h := h.2 hc
    refine go_iload_n dX12_stands_12 rfl rfl ?_
    refine go_iload_n dX12_stands_13 rfl rfl ?_
    refine go_cSi (As := [.int x2, .int x3]) (st := []) (lc := [some (.int x2), some (.int x3)]) dX12_stands_14 me_X12_isSpot qm_X12_163 rfl (Nat.le_of_ble_eq_true rfl) rfl ⟨Nat.le_of_ble_eq_true rfl, Nat.le_of_ble_eq_true rfl⟩ rfl (Nat.le_of_ble_eq_true rfl) h (fun r2 u2 h => ?_)
    refine go_if_ne (tgt := 23) dX12_stands_17 (by decide) (fun hc => ?_) (fun hc => ?_)
    · replace h := h.1 hc
      refine go_aload_n dX12_stands_23 rfl rfl ?_
      refine go_get (k := 8) (v := .ref (gd g 58)) dX12_stands_24 ob_12 (by decide) qf_X12_36 rfl ?_
      refine go_iload_n dX12_stands_27 rfl rfl ?_
      refine go_iload_n dX12_stands_28 rfl rfl ?_
      obtain ⟨hi, h⟩ := h
      refine go_ist (a := 58) (n := 9) dX12_stands_29 (by decide) (by decide) rfl hi ?_
      refine go_aload_n dX12_stands_30 rfl rfl ?_
      refine go_get (k := 9) (v := .ref (gd g 59)) dX12_stands_31 ob_12 (by decide) qf_X12_39 rfl ?_
      refine go_iload_n dX12_stands_34 rfl rfl ?_
      refine go_iload_n dX12_stands_35 rfl rfl ?_
      obtain ⟨hi, h⟩ := h
      refine go_ist (a := 59) (n := 9) dX12_stands_36 (by decide) (by decide) rfl hi ?_
      refine go_iconst (v := 1) dX12_stands_37 (by decide) ?_
      exact go_iret dX12_stands_38 rfl h
    · replace h := h.2 hc
      refine go_ldc dX12_stands_20 qc_X12_142 ?_
      exact go_iret dX12_stands_22 rfl h
set_option maxRecDepth 100000 in
set_option maxHeartbeats 4000000 in
theorem B_X12_isOpen_0 {g : gp} {u : sg} {Q : Option Value → sg → Prop} (x1 : Int32) (x2 : Int32) (h : (vp_in x1 9 ∧ ((x2 < (u.2 55 x1.toNatClampNeg) → Q (some (.int (0 : Int32))) u) ∧ (¬ x2 < (u.2 55 x1.toNatClampNeg) → (vp_in x1 9 ∧ (((u.2 56 x1.toNatClampNeg) ≤ x2 → Q (some (.int (0 : Int32))) u) ∧ (¬ (u.2 56 x1.toNatClampNeg) ≤ x2 → Q (some (.int (1 : Int32))) u))))))) : Go g iX12_isOpen 0 [some (.ref (gd g 12)), some (.int x1), some (.int x2)] [] u Q := by
  refine go_iload_n dX12_isOpen_0 rfl rfl ?_
  refine go_aload_n dX12_isOpen_1 rfl rfl ?_
  refine go_get (k := 5) (v := .ref (gd g 55)) dX12_isOpen_2 ob_12 (by decide) qf_X12_27 rfl ?_
  refine go_iload_n dX12_isOpen_5 rfl rfl ?_
  obtain ⟨hi, h⟩ := h
  refine go_ild (a := 55) (n := 9) dX12_isOpen_6 (by decide) (by decide) rfl hi ?_
  refine go_icmp_lt (tgt := 24) dX12_isOpen_7 (by decide) (fun hc => ?_) (fun hc => ?_)
  · replace h := h.1 hc
    refine go_iconst (v := 0) dX12_isOpen_24 (by decide) ?_
    exact go_zret dX12_isOpen_25 rfl (by decide) h
  · replace h := h.2 hc
    refine go_iload_n dX12_isOpen_10 rfl rfl ?_
    refine go_aload_n dX12_isOpen_11 rfl rfl ?_
    refine go_get (k := 6) (v := .ref (gd g 56)) dX12_isOpen_12 ob_12 (by decide) qf_X12_30 rfl ?_
    refine go_iload_n dX12_isOpen_15 rfl rfl ?_
    obtain ⟨hi, h⟩ := h
    refine go_ild (a := 56) (n := 9) dX12_isOpen_16 (by decide) (by decide) rfl hi ?_
    refine go_icmp_ge (tgt := 24) dX12_isOpen_17 (by decide) (fun hc => ?_) (fun hc => ?_)
    · replace h := h.1 hc
      refine go_iconst (v := 0) dX12_isOpen_24 (by decide) ?_
      exact go_zret dX12_isOpen_25 rfl (by decide) h
    · replace h := h.2 hc
      refine go_iconst (v := 1) dX12_isOpen_20 (by decide) ?_
      refine go_goto (tgt := 25) dX12_isOpen_21 (by decide) ?_
      exact go_zret dX12_isOpen_25 rfl (by decide) h
set_option maxRecDepth 100000 in
set_option maxHeartbeats 4000000 in
theorem B_X12_feed_0 {g : gp} {u : sg} {Q : Option Value → sg → Prop} (x1 : Int64) (x3 : Int32) (h : Go g iX12_in 0 [some (.long (x3.toInt64)), none, some (.long 1), none, some (.long 8), none] [] (sI u 12 0 (0 : Int32)) (QI (fun r1 u1 => ((¬ r1 = (0 : Int32) → ((((u1.1 12 17) + x3) ≤ (400 : Int32) → Go g iX12_feed 40 [some (.ref (gd g 12)), some (.long x1), none, none, some (.int (x3 - 1))] [] u1 Q) ∧ (¬ ((u1.1 12 17) + x3) ≤ (400 : Int32) → Q (some (.int (-1000003 : Int32))) u1))) ∧ (r1 = (0 : Int32) → Q (some (.int (-1000001 : Int32))) u1))))) : Go g iX12_feed 0 [some (.ref (gd g 12)), some (.long x1), none, some (.int x3), none] [] u Q := by
  refine go_aload_n dX12_feed_0 rfl rfl ?_
  refine go_iconst (v := 0) dX12_feed_1 (by decide) ?_
  refine go_put (k := 0) dX12_feed_2 ob_12 (by decide) qf_X12_1 rfl rfl pf_I ?_
  refine go_iload_n dX12_feed_5 rfl rfl ?_
  refine go_i2l dX12_feed_6 ?_
  refine go_lconst (v := 1) dX12_feed_7 (by decide) ?_
  refine go_ldc2 dX12_feed_8 ql_X12_147 ?_
  refine go_cSi (As := [.long (x3.toInt64), .long 1, .long 8]) (st := []) (lc := [some (.long (x3.toInt64)), none, some (.long 1), none, some (.long 8), none]) dX12_feed_11 me_X12_in qm_X12_132 rfl (Nat.le_of_ble_eq_true rfl) rfl ⟨Nat.le_of_ble_eq_true rfl, Nat.le_of_ble_eq_true rfl⟩ rfl (Nat.le_of_ble_eq_true rfl) h (fun r1 u1 h => ?_)
  refine go_if_ne (tgt := 20) dX12_feed_14 (by decide) (fun hc => ?_) (fun hc => ?_)
  · replace h := h.1 hc
    refine go_aload_n dX12_feed_20 rfl rfl ?_
    refine go_get (k := 17) (v := .int (u1.1 12 17)) dX12_feed_21 ob_12 (by decide) qf_X12_167 rfl ?_
    refine go_iload_n dX12_feed_24 rfl rfl ?_
    refine go_iadd dX12_feed_25 ?_
    refine go_sipush (v := 400) dX12_feed_26 (by decide) ?_
    refine go_icmp_le (tgt := 35) dX12_feed_29 (by decide) (fun hc => ?_) (fun hc => ?_)
    · replace h := h.1 hc
      refine go_iload_n dX12_feed_35 rfl rfl ?_
      refine go_iconst (v := 1) dX12_feed_36 (by decide) ?_
      refine go_isub dX12_feed_37 ?_
      refine go_istore (lm := [some (.ref (gd g 12)), some (.long x1), none, some (.int x3), some (.int (x3 - 1))]) dX12_feed_38 (by decide) rfl rfl ?_
      refine go_mask [true, true, true, false, true] rfl ?_
      exact h
    · replace h := h.2 hc
      refine go_ldc dX12_feed_32 qc_X12_170 ?_
      exact go_iret dX12_feed_34 rfl h
  · replace h := h.2 hc
    refine go_ldc dX12_feed_17 qc_X12_142 ?_
    exact go_iret dX12_feed_19 rfl h
set_option maxRecDepth 100000 in
set_option maxHeartbeats 4000000 in
theorem B_X12_feed_40 {g : gp} {u : sg} {Q : Option Value → sg → Prop} (x1 : Int64) (x4 : Int32) (h : ((x4 < (0 : Int32) → Q (some (.int (u.1 12 17))) u) ∧ (¬ x4 < (0 : Int32) → (vp_in (u.1 12 17) 400 ∧ Go g iX12_feed 40 [some (.ref (gd g 12)), some (.long x1), none, none, some (.int (x4 + (-1)))] [] (sI (sA u 64 (u.1 12 17).toNatClampNeg (((x1 >>> ((8 * x4).toInt64 &&& 63)) &&& (255 : Int64)).toInt32)) 12 17 ((u.1 12 17) + 1)) Q)))) : Go g iX12_feed 40 [some (.ref (gd g 12)), some (.long x1), none, none, some (.int x4)] [] u Q := by
  refine go_iload dX12_feed_40 rfl ?_
  refine go_if_lt (tgt := 82) dX12_feed_42 (by decide) (fun hc => ?_) (fun hc => ?_)
  · replace h := h.1 hc
    refine go_aload_n dX12_feed_82 rfl rfl ?_
    refine go_get (k := 17) (v := .int (u.1 12 17)) dX12_feed_83 ob_12 (by decide) qf_X12_167 rfl ?_
    exact go_iret dX12_feed_86 rfl h
  · replace h := h.2 hc
    refine go_aload_n dX12_feed_45 rfl rfl ?_
    refine go_get (k := 16) (v := .ref (gd g 64)) dX12_feed_46 ob_12 (by decide) qf_X12_54 rfl ?_
    refine go_aload_n dX12_feed_49 rfl rfl ?_
    refine go_get (k := 17) (v := .int (u.1 12 17)) dX12_feed_50 ob_12 (by decide) qf_X12_167 rfl ?_
    refine go_lload_n dX12_feed_53 rfl rfl ?_
    refine go_bipush (v := 8) dX12_feed_54 (by decide) ?_
    refine go_iload dX12_feed_56 rfl ?_
    refine go_imul dX12_feed_58 ?_
    refine go_lshr dX12_feed_59 ?_
    refine go_ldc2 dX12_feed_60 ql_X12_171 ?_
    refine go_land dX12_feed_63 ?_
    refine go_l2i dX12_feed_64 ?_
    obtain ⟨hi, h⟩ := h
    refine go_ist (a := 64) (n := 400) dX12_feed_65 (by decide) (by decide) rfl hi ?_
    refine go_aload_n dX12_feed_66 rfl rfl ?_
    refine go_dup dX12_feed_67 rfl ?_
    refine go_get (k := 17) (v := .int (u.1 12 17)) dX12_feed_68 ob_12 (by decide) qf_X12_167 rfl ?_
    refine go_iconst (v := 1) dX12_feed_71 (by decide) ?_
    refine go_iadd dX12_feed_72 ?_
    refine go_put (k := 17) dX12_feed_73 ob_12 (by decide) qf_X12_167 rfl rfl pf_I ?_
    refine go_iinc (v := x4 + (-1)) (lm := [some (.ref (gd g 12)), some (.long x1), none, none, some (.int (x4 + (-1)))]) dX12_feed_76 rfl rfl (by decide) rfl rfl ?_
    refine go_goto (tgt := 40) dX12_feed_79 (by decide) ?_
    exact h
set_option maxRecDepth 100000 in
set_option maxHeartbeats 4000000 in
theorem B_X12_byteAt_0 {g : gp} {u : sg} {Q : Option Value → sg → Prop} (x1 : Int32) (h : (((u.1 12 19) ≤ x1 → Q (some (.int (-1000000 : Int32))) u) ∧ (¬ (u.1 12 19) ≤ x1 → (vp_in x1 400 ∧ Q (some (.int (u.2 64 x1.toNatClampNeg))) u)))) : Go g iX12_byteAt 0 [some (.ref (gd g 12)), some (.int x1)] [] u Q := by
  refine go_iload_n dX12_byteAt_0 rfl rfl ?_
  refine go_aload_n dX12_byteAt_1 rfl rfl ?_
  refine go_get (k := 19) (v := .int (u.1 12 19)) dX12_byteAt_2 ob_12 (by decide) qf_X12_173 rfl ?_
  refine go_icmp_ge (tgt := 17) dX12_byteAt_5 (by decide) (fun hc => ?_) (fun hc => ?_)
  · replace h := h.1 hc
    refine go_ldc dX12_byteAt_17 qc_X12_129 ?_
    exact go_iret dX12_byteAt_19 rfl h
  · replace h := h.2 hc
    refine go_aload_n dX12_byteAt_8 rfl rfl ?_
    refine go_get (k := 16) (v := .ref (gd g 64)) dX12_byteAt_9 ob_12 (by decide) qf_X12_54 rfl ?_
    refine go_iload_n dX12_byteAt_12 rfl rfl ?_
    obtain ⟨hi, h⟩ := h
    refine go_ild (a := 64) (n := 400) dX12_byteAt_13 (by decide) (by decide) rfl hi ?_
    refine go_goto (tgt := 19) dX12_byteAt_14 (by decide) ?_
    exact go_iret dX12_byteAt_19 rfl h
set_option maxRecDepth 100000 in
set_option maxHeartbeats 4000000 in
theorem B_X12_isLetter_0 {g : gp} {u : sg} {Q : Option Value → sg → Prop} (x0 : Int32) (h : ((x0 < (97 : Int32) → Q (some (.int (0 : Int32))) u) ∧ (¬ x0 < (97 : Int32) → (((122 : Int32) < x0 → Q (some (.int (0 : Int32))) u) ∧ (¬ (122 : Int32) < x0 → Q (some (.int (1 : Int32))) u))))) : Go g iX12_isLetter 0 [some (.int x0)] [] u Q := by
  refine go_iload_n dX12_isLetter_0 rfl rfl ?_
  refine go_bipush (v := 97) dX12_isLetter_1 (by decide) ?_
  refine go_icmp_lt (tgt := 16) dX12_isLetter_3 (by decide) (fun hc => ?_) (fun hc => ?_)
  · replace h := h.1 hc
    refine go_iconst (v := 0) dX12_isLetter_16 (by decide) ?_
    exact go_zret dX12_isLetter_17 rfl (by decide) h
  · replace h := h.2 hc
    refine go_iload_n dX12_isLetter_6 rfl rfl ?_
    refine go_bipush (v := 122) dX12_isLetter_7 (by decide) ?_
    refine go_icmp_gt (tgt := 16) dX12_isLetter_9 (by decide) (fun hc => ?_) (fun hc => ?_)
    · replace h := h.1 hc
      refine go_iconst (v := 0) dX12_isLetter_16 (by decide) ?_
      exact go_zret dX12_isLetter_17 rfl (by decide) h
    · replace h := h.2 hc
      refine go_iconst (v := 1) dX12_isLetter_12 (by decide) ?_
      refine go_goto (tgt := 17) dX12_isLetter_13 (by decide) ?_
      exact go_zret dX12_isLetter_17 rfl (by decide) h
set_option maxRecDepth 100000 in
set_option maxHeartbeats 4000000 in
theorem B_X12_isFigure_0 {g : gp} {u : sg} {Q : Option Value → sg → Prop} (x0 : Int32) (h : ((x0 < (48 : Int32) → Q (some (.int (0 : Int32))) u) ∧ (¬ x0 < (48 : Int32) → (((57 : Int32) < x0 → Q (some (.int (0 : Int32))) u) ∧ (¬ (57 : Int32) < x0 → Q (some (.int (1 : Int32))) u))))) : Go g iX12_isFigure 0 [some (.int x0)] [] u Q := by
  refine go_iload_n dX12_isFigure_0 rfl rfl ?_
  refine go_bipush (v := 48) dX12_isFigure_1 (by decide) ?_
  refine go_icmp_lt (tgt := 16) dX12_isFigure_3 (by decide) (fun hc => ?_) (fun hc => ?_)
  · replace h := h.1 hc
    refine go_iconst (v := 0) dX12_isFigure_16 (by decide) ?_
    exact go_zret dX12_isFigure_17 rfl (by decide) h
  · replace h := h.2 hc
    refine go_iload_n dX12_isFigure_6 rfl rfl ?_
    refine go_bipush (v := 57) dX12_isFigure_7 (by decide) ?_
    refine go_icmp_gt (tgt := 16) dX12_isFigure_9 (by decide) (fun hc => ?_) (fun hc => ?_)
    · replace h := h.1 hc
      refine go_iconst (v := 0) dX12_isFigure_16 (by decide) ?_
      exact go_zret dX12_isFigure_17 rfl (by decide) h
    · replace h := h.2 hc
      refine go_iconst (v := 1) dX12_isFigure_12 (by decide) ?_
      refine go_goto (tgt := 17) dX12_isFigure_13 (by decide) ?_
      exact go_zret dX12_isFigure_17 rfl (by decide) h
set_option maxRecDepth 100000 in
set_option maxHeartbeats 4000000 in
theorem B_X12_step_0 {g : gp} {u : sg} {Q : Option Value → sg → Prop}  (h : Go g iX12_byteAt 0 [some (.ref (gd g 12)), some (.int (u.1 12 20))] [] u (QI (fun r1 u1 => ((r1 = (32 : Int32) → Go g iX12_step 0 [some (.ref (gd g 12)), none] [] (sI u1 12 20 ((u1.1 12 20) + 1)) Q) ∧ (¬ r1 = (32 : Int32) → Go g iX12_byteAt 0 [some (.ref (gd g 12)), some (.int (u1.1 12 20))] [] u1 (QI (fun r2 u2 => ((¬ r2 = (10 : Int32) → Go g iX12_byteAt 0 [some (.ref (gd g 12)), some (.int (u2.1 12 20))] [] (sI u2 12 22 (u2.1 12 20)) (QI (fun r3 u3 => ((¬ r3 = (-1000000 : Int32) → Go g iX12_isLetter 0 [some (.int r3)] [] u3 (QI (fun r4 u4 => ((r4 = (0 : Int32) → Go g iX12_isFigure 0 [some (.int r3)] [] u4 (QI (fun r5 u5 => ((r5 = (0 : Int32) → ((¬ r3 = (59 : Int32) → Q none (sI (sI (sI u5 12 20 ((u5.1 12 20) + 1)) 12 21 (0 : Int32)) 12 23 ((u5.1 12 20) + 1))) ∧ (r3 = (59 : Int32) → Q none (sI (sI (sI u5 12 20 ((u5.1 12 20) + 1)) 12 21 (4 : Int32)) 12 23 ((u5.1 12 20) + 1))))) ∧ (¬ r5 = (0 : Int32) → Go g iX12_step 119 [some (.ref (gd g 12)), none] [] u5 Q))))) ∧ (¬ r4 = (0 : Int32) → Go g iX12_step 77 [some (.ref (gd g 12)), none] [] u4 Q))))) ∧ (r3 = (-1000000 : Int32) → Q none (sI (sI u3 12 21 (1 : Int32)) 12 23 (u3.1 12 20))))))) ∧ (r2 = (10 : Int32) → Go g iX12_step 0 [some (.ref (gd g 12)), none] [] (sI u2 12 20 ((u2.1 12 20) + 1)) Q))))))))) : Go g iX12_step 0 [some (.ref (gd g 12)), none] [] u Q := by
  refine go_aload_n dX12_step_0 rfl rfl ?_
  refine go_aload_n dX12_step_1 rfl rfl ?_
  refine go_get (k := 20) (v := .int (u.1 12 20)) dX12_step_2 ob_12 (by decide) qf_X12_176 rfl ?_
  refine go_cVi (o := 12) (As := [.int (u.1 12 20)]) (st := []) (lc := [some (.ref (gd g 12)), some (.int (u.1 12 20))]) dX12_step_5 me_X12_byteAt rfl ob_12 qm_X12_179 rfl (Nat.le_of_ble_eq_true rfl) rfl ⟨Nat.le_of_ble_eq_true rfl, Nat.le_of_ble_eq_true rfl⟩ rfl (Nat.le_of_ble_eq_true rfl) h (fun r1 u1 h => ?_)
  refine go_bipush (v := 32) dX12_step_8 (by decide) ?_
  refine go_icmp_eq (tgt := 26) dX12_step_10 (by decide) (fun hc => ?_) (fun hc => ?_)
  · replace h := h.1 hc
    refine go_aload_n dX12_step_26 rfl rfl ?_
    refine go_dup dX12_step_27 rfl ?_
    refine go_get (k := 20) (v := .int (u1.1 12 20)) dX12_step_28 ob_12 (by decide) qf_X12_176 rfl ?_
    refine go_iconst (v := 1) dX12_step_31 (by decide) ?_
    refine go_iadd dX12_step_32 ?_
    refine go_put (k := 20) dX12_step_33 ob_12 (by decide) qf_X12_176 rfl rfl pf_I ?_
    refine go_goto (tgt := 0) dX12_step_36 (by decide) ?_
    exact h
  · replace h := h.2 hc
    refine go_aload_n dX12_step_13 rfl rfl ?_
    refine go_aload_n dX12_step_14 rfl rfl ?_
    refine go_get (k := 20) (v := .int (u1.1 12 20)) dX12_step_15 ob_12 (by decide) qf_X12_176 rfl ?_
    refine go_cVi (o := 12) (As := [.int (u1.1 12 20)]) (st := []) (lc := [some (.ref (gd g 12)), some (.int (u1.1 12 20))]) dX12_step_18 me_X12_byteAt rfl ob_12 qm_X12_179 rfl (Nat.le_of_ble_eq_true rfl) rfl ⟨Nat.le_of_ble_eq_true rfl, Nat.le_of_ble_eq_true rfl⟩ rfl (Nat.le_of_ble_eq_true rfl) h (fun r2 u2 h => ?_)
    refine go_bipush (v := 10) dX12_step_21 (by decide) ?_
    refine go_icmp_ne (tgt := 39) dX12_step_23 (by decide) (fun hc => ?_) (fun hc => ?_)
    · replace h := h.1 hc
      refine go_aload_n dX12_step_39 rfl rfl ?_
      refine go_aload_n dX12_step_40 rfl rfl ?_
      refine go_get (k := 20) (v := .int (u2.1 12 20)) dX12_step_41 ob_12 (by decide) qf_X12_176 rfl ?_
      refine go_put (k := 22) dX12_step_44 ob_12 (by decide) qf_X12_182 rfl rfl pf_I ?_
      refine go_aload_n dX12_step_47 rfl rfl ?_
      refine go_aload_n dX12_step_48 rfl rfl ?_
      refine go_get (k := 20) (v := .int (u2.1 12 20)) dX12_step_49 ob_12 (by decide) qf_X12_176 rfl ?_
      refine go_cVi (o := 12) (As := [.int (u2.1 12 20)]) (st := []) (lc := [some (.ref (gd g 12)), some (.int (u2.1 12 20))]) dX12_step_52 me_X12_byteAt rfl ob_12 qm_X12_179 rfl (Nat.le_of_ble_eq_true rfl) rfl ⟨Nat.le_of_ble_eq_true rfl, Nat.le_of_ble_eq_true rfl⟩ rfl (Nat.le_of_ble_eq_true rfl) h (fun r3 u3 h => ?_)
      refine go_istore_n (lm := [some (.ref (gd g 12)), some (.int r3)]) dX12_step_55 rfl (by decide) rfl rfl ?_
      refine go_iload_n dX12_step_56 rfl rfl ?_
      refine go_ldc dX12_step_57 qc_X12_129 ?_
      refine go_icmp_ne (tgt := 70) dX12_step_59 (by decide) (fun hc => ?_) (fun hc => ?_)
      · replace h := h.1 hc
        refine go_iload_n dX12_step_70 rfl rfl ?_
        refine go_cSi (As := [.int r3]) (st := []) (lc := [some (.int r3)]) dX12_step_71 me_X12_isLetter qm_X12_188 rfl (Nat.le_of_ble_eq_true rfl) rfl ⟨Nat.le_of_ble_eq_true rfl, Nat.le_of_ble_eq_true rfl⟩ rfl (Nat.le_of_ble_eq_true rfl) h (fun r4 u4 h => ?_)
        refine go_if_eq (tgt := 112) dX12_step_74 (by decide) (fun hc => ?_) (fun hc => ?_)
        · replace h := h.1 hc
          refine go_iload_n dX12_step_112 rfl rfl ?_
          refine go_cSi (As := [.int r3]) (st := []) (lc := [some (.int r3)]) dX12_step_113 me_X12_isFigure qm_X12_191 rfl (Nat.le_of_ble_eq_true rfl) rfl ⟨Nat.le_of_ble_eq_true rfl, Nat.le_of_ble_eq_true rfl⟩ rfl (Nat.le_of_ble_eq_true rfl) h (fun r5 u5 h => ?_)
          refine go_if_eq (tgt := 171) dX12_step_116 (by decide) (fun hc => ?_) (fun hc => ?_)
          · replace h := h.1 hc
            refine go_aload_n dX12_step_171 rfl rfl ?_
            refine go_dup dX12_step_172 rfl ?_
            refine go_get (k := 20) (v := .int (u5.1 12 20)) dX12_step_173 ob_12 (by decide) qf_X12_176 rfl ?_
            refine go_iconst (v := 1) dX12_step_176 (by decide) ?_
            refine go_iadd dX12_step_177 ?_
            refine go_put (k := 20) dX12_step_178 ob_12 (by decide) qf_X12_176 rfl rfl pf_I ?_
            refine go_aload_n dX12_step_181 rfl rfl ?_
            refine go_iload_n dX12_step_182 rfl rfl ?_
            refine go_bipush (v := 59) dX12_step_183 (by decide) ?_
            refine go_icmp_ne (tgt := 192) dX12_step_185 (by decide) (fun hc => ?_) (fun hc => ?_)
            · replace h := h.1 hc
              refine go_iconst (v := 0) dX12_step_192 (by decide) ?_
              refine go_put (k := 21) dX12_step_193 ob_12 (by decide) qf_X12_185 rfl rfl pf_I ?_
              refine go_aload_n dX12_step_196 rfl rfl ?_
              refine go_aload_n dX12_step_197 rfl rfl ?_
              refine go_get (k := 20) (v := .int ((u5.1 12 20) + 1)) dX12_step_198 ob_12 (by decide) qf_X12_176 rfl ?_
              refine go_put (k := 23) dX12_step_201 ob_12 (by decide) qf_X12_194 rfl rfl pf_I ?_
              exact go_vret dX12_step_204 rfl h
            · replace h := h.2 hc
              refine go_iconst (v := 4) dX12_step_188 (by decide) ?_
              refine go_goto (tgt := 193) dX12_step_189 (by decide) ?_
              refine go_put (k := 21) dX12_step_193 ob_12 (by decide) qf_X12_185 rfl rfl pf_I ?_
              refine go_aload_n dX12_step_196 rfl rfl ?_
              refine go_aload_n dX12_step_197 rfl rfl ?_
              refine go_get (k := 20) (v := .int ((u5.1 12 20) + 1)) dX12_step_198 ob_12 (by decide) qf_X12_176 rfl ?_
              refine go_put (k := 23) dX12_step_201 ob_12 (by decide) qf_X12_194 rfl rfl pf_I ?_
              exact go_vret dX12_step_204 rfl h
          · replace h := h.2 hc
            refine go_mask [true, false] rfl ?_
            exact h
        · replace h := h.2 hc
          refine go_mask [true, false] rfl ?_
          exact h
      · replace h := h.2 hc
        refine go_aload_n dX12_step_62 rfl rfl ?_
        refine go_iconst (v := 1) dX12_step_63 (by decide) ?_
        refine go_put (k := 21) dX12_step_64 ob_12 (by decide) qf_X12_185 rfl rfl pf_I ?_
        refine go_goto (tgt := 196) dX12_step_67 (by decide) ?_
        refine go_aload_n dX12_step_196 rfl rfl ?_
        refine go_aload_n dX12_step_197 rfl rfl ?_
        refine go_get (k := 20) (v := .int (u3.1 12 20)) dX12_step_198 ob_12 (by decide) qf_X12_176 rfl ?_
        refine go_put (k := 23) dX12_step_201 ob_12 (by decide) qf_X12_194 rfl rfl pf_I ?_
        exact go_vret dX12_step_204 rfl h
    · replace h := h.2 hc
      refine go_aload_n dX12_step_26 rfl rfl ?_
      refine go_dup dX12_step_27 rfl ?_
      refine go_get (k := 20) (v := .int (u2.1 12 20)) dX12_step_28 ob_12 (by decide) qf_X12_176 rfl ?_
      refine go_iconst (v := 1) dX12_step_31 (by decide) ?_
      refine go_iadd dX12_step_32 ?_
      refine go_put (k := 20) dX12_step_33 ob_12 (by decide) qf_X12_176 rfl rfl pf_I ?_
      refine go_goto (tgt := 0) dX12_step_36 (by decide) ?_
      exact h
set_option maxRecDepth 100000 in
set_option maxHeartbeats 4000000 in
theorem B_X12_step_77 {g : gp} {u : sg} {Q : Option Value → sg → Prop}  (h : Go g iX12_byteAt 0 [some (.ref (gd g 12)), some (.int (u.1 12 20))] [] u (QI (fun r1 u1 => Go g iX12_isLetter 0 [some (.int r1)] [] u1 (QI (fun r2 u2 => ((r2 = (0 : Int32) → Q none (sI (sI u2 12 21 (2 : Int32)) 12 23 (u2.1 12 20))) ∧ (¬ r2 = (0 : Int32) → Go g iX12_step 77 [some (.ref (gd g 12)), none] [] (sI u2 12 20 ((u2.1 12 20) + 1)) Q))))))) : Go g iX12_step 77 [some (.ref (gd g 12)), none] [] u Q := by
  refine go_aload_n dX12_step_77 rfl rfl ?_
  refine go_aload_n dX12_step_78 rfl rfl ?_
  refine go_get (k := 20) (v := .int (u.1 12 20)) dX12_step_79 ob_12 (by decide) qf_X12_176 rfl ?_
  refine go_cVi (o := 12) (As := [.int (u.1 12 20)]) (st := []) (lc := [some (.ref (gd g 12)), some (.int (u.1 12 20))]) dX12_step_82 me_X12_byteAt rfl ob_12 qm_X12_179 rfl (Nat.le_of_ble_eq_true rfl) rfl ⟨Nat.le_of_ble_eq_true rfl, Nat.le_of_ble_eq_true rfl⟩ rfl (Nat.le_of_ble_eq_true rfl) h (fun r1 u1 h => ?_)
  refine go_cSi (As := [.int r1]) (st := []) (lc := [some (.int r1)]) dX12_step_85 me_X12_isLetter qm_X12_188 rfl (Nat.le_of_ble_eq_true rfl) rfl ⟨Nat.le_of_ble_eq_true rfl, Nat.le_of_ble_eq_true rfl⟩ rfl (Nat.le_of_ble_eq_true rfl) h (fun r2 u2 h => ?_)
  refine go_if_eq (tgt := 104) dX12_step_88 (by decide) (fun hc => ?_) (fun hc => ?_)
  · replace h := h.1 hc
    refine go_aload_n dX12_step_104 rfl rfl ?_
    refine go_iconst (v := 2) dX12_step_105 (by decide) ?_
    refine go_put (k := 21) dX12_step_106 ob_12 (by decide) qf_X12_185 rfl rfl pf_I ?_
    refine go_goto (tgt := 196) dX12_step_109 (by decide) ?_
    refine go_aload_n dX12_step_196 rfl rfl ?_
    refine go_aload_n dX12_step_197 rfl rfl ?_
    refine go_get (k := 20) (v := .int (u2.1 12 20)) dX12_step_198 ob_12 (by decide) qf_X12_176 rfl ?_
    refine go_put (k := 23) dX12_step_201 ob_12 (by decide) qf_X12_194 rfl rfl pf_I ?_
    exact go_vret dX12_step_204 rfl h
  · replace h := h.2 hc
    refine go_aload_n dX12_step_91 rfl rfl ?_
    refine go_dup dX12_step_92 rfl ?_
    refine go_get (k := 20) (v := .int (u2.1 12 20)) dX12_step_93 ob_12 (by decide) qf_X12_176 rfl ?_
    refine go_iconst (v := 1) dX12_step_96 (by decide) ?_
    refine go_iadd dX12_step_97 ?_
    refine go_put (k := 20) dX12_step_98 ob_12 (by decide) qf_X12_176 rfl rfl pf_I ?_
    refine go_goto (tgt := 77) dX12_step_101 (by decide) ?_
    exact h
set_option maxRecDepth 100000 in
set_option maxHeartbeats 4000000 in
theorem B_X12_step_119 {g : gp} {u : sg} {Q : Option Value → sg → Prop}  (h : Go g iX12_byteAt 0 [some (.ref (gd g 12)), some (.int (u.1 12 20))] [] u (QI (fun r1 u1 => Go g iX12_isFigure 0 [some (.int r1)] [] u1 (QI (fun r2 u2 => ((r2 = (0 : Int32) → ((((u2.1 12 20) - (u2.1 12 22)) ≤ (4 : Int32) → Q none (sI (sI u2 12 21 (3 : Int32)) 12 23 (u2.1 12 20))) ∧ (¬ ((u2.1 12 20) - (u2.1 12 22)) ≤ (4 : Int32) → Q none (sI (sI u2 12 21 (0 : Int32)) 12 23 (u2.1 12 20))))) ∧ (¬ r2 = (0 : Int32) → Go g iX12_step 119 [some (.ref (gd g 12)), none] [] (sI u2 12 20 ((u2.1 12 20) + 1)) Q))))))) : Go g iX12_step 119 [some (.ref (gd g 12)), none] [] u Q := by
  refine go_aload_n dX12_step_119 rfl rfl ?_
  refine go_aload_n dX12_step_120 rfl rfl ?_
  refine go_get (k := 20) (v := .int (u.1 12 20)) dX12_step_121 ob_12 (by decide) qf_X12_176 rfl ?_
  refine go_cVi (o := 12) (As := [.int (u.1 12 20)]) (st := []) (lc := [some (.ref (gd g 12)), some (.int (u.1 12 20))]) dX12_step_124 me_X12_byteAt rfl ob_12 qm_X12_179 rfl (Nat.le_of_ble_eq_true rfl) rfl ⟨Nat.le_of_ble_eq_true rfl, Nat.le_of_ble_eq_true rfl⟩ rfl (Nat.le_of_ble_eq_true rfl) h (fun r1 u1 h => ?_)
  refine go_cSi (As := [.int r1]) (st := []) (lc := [some (.int r1)]) dX12_step_127 me_X12_isFigure qm_X12_191 rfl (Nat.le_of_ble_eq_true rfl) rfl ⟨Nat.le_of_ble_eq_true rfl, Nat.le_of_ble_eq_true rfl⟩ rfl (Nat.le_of_ble_eq_true rfl) h (fun r2 u2 h => ?_)
  refine go_if_eq (tgt := 146) dX12_step_130 (by decide) (fun hc => ?_) (fun hc => ?_)
  · replace h := h.1 hc
    refine go_aload_n dX12_step_146 rfl rfl ?_
    refine go_aload_n dX12_step_147 rfl rfl ?_
    refine go_get (k := 20) (v := .int (u2.1 12 20)) dX12_step_148 ob_12 (by decide) qf_X12_176 rfl ?_
    refine go_aload_n dX12_step_151 rfl rfl ?_
    refine go_get (k := 22) (v := .int (u2.1 12 22)) dX12_step_152 ob_12 (by decide) qf_X12_182 rfl ?_
    refine go_isub dX12_step_155 ?_
    refine go_iconst (v := 4) dX12_step_156 (by decide) ?_
    refine go_icmp_le (tgt := 164) dX12_step_157 (by decide) (fun hc => ?_) (fun hc => ?_)
    · replace h := h.1 hc
      refine go_iconst (v := 3) dX12_step_164 (by decide) ?_
      refine go_put (k := 21) dX12_step_165 ob_12 (by decide) qf_X12_185 rfl rfl pf_I ?_
      refine go_goto (tgt := 196) dX12_step_168 (by decide) ?_
      refine go_aload_n dX12_step_196 rfl rfl ?_
      refine go_aload_n dX12_step_197 rfl rfl ?_
      refine go_get (k := 20) (v := .int (u2.1 12 20)) dX12_step_198 ob_12 (by decide) qf_X12_176 rfl ?_
      refine go_put (k := 23) dX12_step_201 ob_12 (by decide) qf_X12_194 rfl rfl pf_I ?_
      exact go_vret dX12_step_204 rfl h
    · replace h := h.2 hc
      refine go_iconst (v := 0) dX12_step_160 (by decide) ?_
      refine go_goto (tgt := 165) dX12_step_161 (by decide) ?_
      refine go_put (k := 21) dX12_step_165 ob_12 (by decide) qf_X12_185 rfl rfl pf_I ?_
      refine go_goto (tgt := 196) dX12_step_168 (by decide) ?_
      refine go_aload_n dX12_step_196 rfl rfl ?_
      refine go_aload_n dX12_step_197 rfl rfl ?_
      refine go_get (k := 20) (v := .int (u2.1 12 20)) dX12_step_198 ob_12 (by decide) qf_X12_176 rfl ?_
      refine go_put (k := 23) dX12_step_201 ob_12 (by decide) qf_X12_194 rfl rfl pf_I ?_
      exact go_vret dX12_step_204 rfl h
  · replace h := h.2 hc
    refine go_aload_n dX12_step_133 rfl rfl ?_
    refine go_dup dX12_step_134 rfl ?_
    refine go_get (k := 20) (v := .int (u2.1 12 20)) dX12_step_135 ob_12 (by decide) qf_X12_176 rfl ?_
    refine go_iconst (v := 1) dX12_step_138 (by decide) ?_
    refine go_iadd dX12_step_139 ?_
    refine go_put (k := 20) dX12_step_140 ob_12 (by decide) qf_X12_176 rfl rfl pf_I ?_
    refine go_goto (tgt := 119) dX12_step_143 (by decide) ?_
    exact h
set_option maxRecDepth 100000 in
set_option maxHeartbeats 4000000 in
theorem B_X12_bad_0 {g : gp} {u : sg} {Q : Option Value → sg → Prop} (x1 : Int32) (h : ((¬ (u.1 12 24) = (0 : Int32) → Q none u) ∧ ((u.1 12 24) = (0 : Int32) → Q none (sI (sI u 12 24 x1) 12 25 (u.1 12 22))))) : Go g iX12_bad 0 [some (.ref (gd g 12)), some (.int x1)] [] u Q := by
  refine go_aload_n dX12_bad_0 rfl rfl ?_
  refine go_get (k := 24) (v := .int (u.1 12 24)) dX12_bad_1 ob_12 (by decide) qf_X12_197 rfl ?_
  refine go_if_ne (tgt := 20) dX12_bad_4 (by decide) (fun hc => ?_) (fun hc => ?_)
  · replace h := h.1 hc
    exact go_vret dX12_bad_20 rfl h
  · replace h := h.2 hc
    refine go_aload_n dX12_bad_7 rfl rfl ?_
    refine go_iload_n dX12_bad_8 rfl rfl ?_
    refine go_put (k := 24) dX12_bad_9 ob_12 (by decide) qf_X12_197 rfl rfl pf_I ?_
    refine go_aload_n dX12_bad_12 rfl rfl ?_
    refine go_aload_n dX12_bad_13 rfl rfl ?_
    refine go_get (k := 22) (v := .int (u.1 12 22)) dX12_bad_14 ob_12 (by decide) qf_X12_182 rfl ?_
    refine go_put (k := 25) dX12_bad_17 ob_12 (by decide) qf_X12_200 rfl rfl pf_I ?_
    exact go_vret dX12_bad_20 rfl h
set_option maxRecDepth 100000 in
set_option maxHeartbeats 4000000 in
theorem B_X12_need_0 {g : gp} {u : sg} {Q : Option Value → sg → Prop} (x1 : Int32) (h : ((¬ x1 = (0 : Int32) → ((¬ (u.1 12 24) = (0 : Int32) → Q none u) ∧ ((u.1 12 24) = (0 : Int32) → Go g iX12_step 0 [some (.ref (gd g 12)), none] [] u (QV (fun u1 => Q none u1))))) ∧ (x1 = (0 : Int32) → Go g iX12_bad 0 [some (.ref (gd g 12)), some (.int 1)] [] u (QV (fun u2 => ((¬ (u2.1 12 24) = (0 : Int32) → Q none u2) ∧ ((u2.1 12 24) = (0 : Int32) → Go g iX12_step 0 [some (.ref (gd g 12)), none] [] u2 (QV (fun u3 => Q none u3))))))))) : Go g iX12_need 0 [some (.ref (gd g 12)), some (.int x1)] [] u Q := by
  refine go_iload_n dX12_need_0 rfl rfl ?_
  refine go_if_ne (tgt := 9) dX12_need_1 (by decide) (fun hc => ?_) (fun hc => ?_)
  · replace h := h.1 hc
    refine go_aload_n dX12_need_9 rfl rfl ?_
    refine go_get (k := 24) (v := .int (u.1 12 24)) dX12_need_10 ob_12 (by decide) qf_X12_197 rfl ?_
    refine go_if_ne (tgt := 20) dX12_need_13 (by decide) (fun hc => ?_) (fun hc => ?_)
    · replace h := h.1 hc
      exact go_vret dX12_need_20 rfl h
    · replace h := h.2 hc
      refine go_aload_n dX12_need_16 rfl rfl ?_
      refine go_cVv (o := 12) (As := []) (st := []) (lc := [some (.ref (gd g 12)), none]) dX12_need_17 me_X12_step rfl ob_12 qm_X12_207 rfl (Nat.le_of_ble_eq_true rfl) rfl ⟨Nat.le_of_ble_eq_true rfl, Nat.le_of_ble_eq_true rfl⟩ rfl (Nat.le_of_ble_eq_true rfl) h (fun u1 h => ?_)
      exact go_vret dX12_need_20 rfl h
  · replace h := h.2 hc
    refine go_aload_n dX12_need_4 rfl rfl ?_
    refine go_iconst (v := 1) dX12_need_5 (by decide) ?_
    refine go_cVv (o := 12) (As := [.int 1]) (st := []) (lc := [some (.ref (gd g 12)), some (.int 1)]) dX12_need_6 me_X12_bad rfl ob_12 qm_X12_203 rfl (Nat.le_of_ble_eq_true rfl) rfl ⟨Nat.le_of_ble_eq_true rfl, Nat.le_of_ble_eq_true rfl⟩ rfl (Nat.le_of_ble_eq_true rfl) h (fun u2 h => ?_)
    refine go_aload_n dX12_need_9 rfl rfl ?_
    refine go_get (k := 24) (v := .int (u2.1 12 24)) dX12_need_10 ob_12 (by decide) qf_X12_197 rfl ?_
    refine go_if_ne (tgt := 20) dX12_need_13 (by decide) (fun hc => ?_) (fun hc => ?_)
    · replace h := h.1 hc
      exact go_vret dX12_need_20 rfl h
    · replace h := h.2 hc
      refine go_aload_n dX12_need_16 rfl rfl ?_
      refine go_cVv (o := 12) (As := []) (st := []) (lc := [some (.ref (gd g 12)), none]) dX12_need_17 me_X12_step rfl ob_12 qm_X12_207 rfl (Nat.le_of_ble_eq_true rfl) rfl ⟨Nat.le_of_ble_eq_true rfl, Nat.le_of_ble_eq_true rfl⟩ rfl (Nat.le_of_ble_eq_true rfl) h (fun u3 h => ?_)
      exact go_vret dX12_need_20 rfl h
set_option maxRecDepth 100000 in
set_option maxHeartbeats 4000000 in
theorem B_X12_word_0 {g : gp} {u : sg} {Q : Option Value → sg → Prop}  (h : Go g iX12_word 7 [some (.ref (gd g 12)), some (.long 0), none, some (.int (u.1 12 22))] [] u Q) : Go g iX12_word 0 [some (.ref (gd g 12)), none, none, none] [] u Q := by
  refine go_lconst (v := 0) dX12_word_0 (by decide) ?_
  refine go_lstore_n (lm := [some (.ref (gd g 12)), some (.long 0), none, none]) dX12_word_1 rfl (by decide) rfl rfl ?_
  refine go_aload_n dX12_word_2 rfl rfl ?_
  refine go_get (k := 22) (v := .int (u.1 12 22)) dX12_word_3 ob_12 (by decide) qf_X12_182 rfl ?_
  refine go_istore_n (lm := [some (.ref (gd g 12)), some (.long 0), none, some (.int (u.1 12 22))]) dX12_word_6 rfl (by decide) rfl rfl ?_
  exact h
set_option maxRecDepth 100000 in
set_option maxHeartbeats 4000000 in
theorem B_X12_word_7 {g : gp} {u : sg} {Q : Option Value → sg → Prop} (x1 : Int64) (x3 : Int32) (h : (((u.1 12 23) ≤ x3 → Q (some (.long x1)) u) ∧ (¬ (u.1 12 23) ≤ x3 → ((¬ (u.1 12 21) = (2 : Int32) → Q (some (.long x1)) u) ∧ ((u.1 12 21) = (2 : Int32) → (((8 : Int32) ≤ ((u.1 12 23) - (u.1 12 22)) → Q (some (.long x1)) u) ∧ (¬ (8 : Int32) ≤ ((u.1 12 23) - (u.1 12 22)) → (vp_in x3 400 ∧ Go g iX12_word 7 [some (.ref (gd g 12)), some (.long ((x1 <<< ((8 : Int32).toInt64 &&& 63)) ||| ((u.2 64 x3.toNatClampNeg).toInt64))), none, some (.int (x3 + 1))] [] u Q)))))))) : Go g iX12_word 7 [some (.ref (gd g 12)), some (.long x1), none, some (.int x3)] [] u Q := by
  refine go_iload_n dX12_word_7 rfl rfl ?_
  refine go_aload_n dX12_word_8 rfl rfl ?_
  refine go_get (k := 23) (v := .int (u.1 12 23)) dX12_word_9 ob_12 (by decide) qf_X12_194 rfl ?_
  refine go_icmp_ge (tgt := 56) dX12_word_12 (by decide) (fun hc => ?_) (fun hc => ?_)
  · replace h := h.1 hc
    refine go_lload_n dX12_word_56 rfl rfl ?_
    exact go_lret dX12_word_57 rfl h
  · replace h := h.2 hc
    refine go_aload_n dX12_word_15 rfl rfl ?_
    refine go_get (k := 21) (v := .int (u.1 12 21)) dX12_word_16 ob_12 (by decide) qf_X12_185 rfl ?_
    refine go_iconst (v := 2) dX12_word_19 (by decide) ?_
    refine go_icmp_ne (tgt := 56) dX12_word_20 (by decide) (fun hc => ?_) (fun hc => ?_)
    · replace h := h.1 hc
      refine go_lload_n dX12_word_56 rfl rfl ?_
      exact go_lret dX12_word_57 rfl h
    · replace h := h.2 hc
      refine go_aload_n dX12_word_23 rfl rfl ?_
      refine go_get (k := 23) (v := .int (u.1 12 23)) dX12_word_24 ob_12 (by decide) qf_X12_194 rfl ?_
      refine go_aload_n dX12_word_27 rfl rfl ?_
      refine go_get (k := 22) (v := .int (u.1 12 22)) dX12_word_28 ob_12 (by decide) qf_X12_182 rfl ?_
      refine go_isub dX12_word_31 ?_
      refine go_bipush (v := 8) dX12_word_32 (by decide) ?_
      refine go_icmp_ge (tgt := 56) dX12_word_34 (by decide) (fun hc => ?_) (fun hc => ?_)
      · replace h := h.1 hc
        refine go_lload_n dX12_word_56 rfl rfl ?_
        exact go_lret dX12_word_57 rfl h
      · replace h := h.2 hc
        refine go_lload_n dX12_word_37 rfl rfl ?_
        refine go_bipush (v := 8) dX12_word_38 (by decide) ?_
        refine go_lshl dX12_word_40 ?_
        refine go_aload_n dX12_word_41 rfl rfl ?_
        refine go_get (k := 16) (v := .ref (gd g 64)) dX12_word_42 ob_12 (by decide) qf_X12_54 rfl ?_
        refine go_iload_n dX12_word_45 rfl rfl ?_
        obtain ⟨hi, h⟩ := h
        refine go_ild (a := 64) (n := 400) dX12_word_46 (by decide) (by decide) rfl hi ?_
        refine go_i2l dX12_word_47 ?_
        refine go_lor dX12_word_48 ?_
        refine go_lstore_n (lm := [some (.ref (gd g 12)), some (.long ((x1 <<< ((8 : Int32).toInt64 &&& 63)) ||| ((u.2 64 x3.toNatClampNeg).toInt64))), none, some (.int x3)]) dX12_word_49 rfl (by decide) rfl rfl ?_
        refine go_iinc (v := x3 + 1) (lm := [some (.ref (gd g 12)), some (.long ((x1 <<< ((8 : Int32).toInt64 &&& 63)) ||| ((u.2 64 x3.toNatClampNeg).toInt64))), none, some (.int (x3 + 1))]) dX12_word_50 rfl rfl (by decide) rfl rfl ?_
        refine go_goto (tgt := 7) dX12_word_53 (by decide) ?_
        exact h
set_option maxRecDepth 100000 in
set_option maxHeartbeats 4000000 in
theorem B_X12_numberTo_0 {g : gp} {u : sg} {Q : Option Value → sg → Prop} (x1 : Int32) (h : (((u.1 12 24) ≤ (0 : Int32) → Go g iX12_numberTo 16 [some (.ref (gd g 12)), some (.int x1), some (.int 0), some (.int (u.1 12 22))] [] u Q) ∧ (¬ (u.1 12 24) ≤ (0 : Int32) → Q (some (.int (0 : Int32))) u))) : Go g iX12_numberTo 0 [some (.ref (gd g 12)), some (.int x1), none, none] [] u Q := by
  refine go_aload_n dX12_numberTo_0 rfl rfl ?_
  refine go_get (k := 24) (v := .int (u.1 12 24)) dX12_numberTo_1 ob_12 (by decide) qf_X12_197 rfl ?_
  refine go_if_le (tgt := 9) dX12_numberTo_4 (by decide) (fun hc => ?_) (fun hc => ?_)
  · replace h := h.1 hc
    refine go_iconst (v := 0) dX12_numberTo_9 (by decide) ?_
    refine go_istore_n (lm := [some (.ref (gd g 12)), some (.int x1), some (.int 0), none]) dX12_numberTo_10 rfl (by decide) rfl rfl ?_
    refine go_aload_n dX12_numberTo_11 rfl rfl ?_
    refine go_get (k := 22) (v := .int (u.1 12 22)) dX12_numberTo_12 ob_12 (by decide) qf_X12_182 rfl ?_
    refine go_istore_n (lm := [some (.ref (gd g 12)), some (.int x1), some (.int 0), some (.int (u.1 12 22))]) dX12_numberTo_15 rfl (by decide) rfl rfl ?_
    exact h
  · replace h := h.2 hc
    refine go_iconst (v := 0) dX12_numberTo_7 (by decide) ?_
    exact go_iret dX12_numberTo_8 rfl h
set_option maxRecDepth 100000 in
set_option maxHeartbeats 4000000 in
theorem B_X12_numberTo_16 {g : gp} {u : sg} {Q : Option Value → sg → Prop} (x1 : Int32) (x2 : Int32) (x3 : Int32) (h : (((u.1 12 23) ≤ x3 → Go g iX12_numberTo 53 [some (.ref (gd g 12)), some (.int x1), some (.int x2), none] [] u Q) ∧ (¬ (u.1 12 23) ≤ x3 → ((¬ (u.1 12 21) = (3 : Int32) → Go g iX12_numberTo 53 [some (.ref (gd g 12)), some (.int x1), some (.int x2), none] [] u Q) ∧ ((u.1 12 21) = (3 : Int32) → (vp_in x3 400 ∧ Go g iX12_numberTo 16 [some (.ref (gd g 12)), some (.int x1), some (.int (((10 * x2) + (u.2 64 x3.toNatClampNeg)) - 48)), some (.int (x3 + 1))] [] u Q)))))) : Go g iX12_numberTo 16 [some (.ref (gd g 12)), some (.int x1), some (.int x2), some (.int x3)] [] u Q := by
  refine go_iload_n dX12_numberTo_16 rfl rfl ?_
  refine go_aload_n dX12_numberTo_17 rfl rfl ?_
  refine go_get (k := 23) (v := .int (u.1 12 23)) dX12_numberTo_18 ob_12 (by decide) qf_X12_194 rfl ?_
  refine go_icmp_ge (tgt := 53) dX12_numberTo_21 (by decide) (fun hc => ?_) (fun hc => ?_)
  · replace h := h.1 hc
    refine go_mask [true, true, true, false] rfl ?_
    exact h
  · replace h := h.2 hc
    refine go_aload_n dX12_numberTo_24 rfl rfl ?_
    refine go_get (k := 21) (v := .int (u.1 12 21)) dX12_numberTo_25 ob_12 (by decide) qf_X12_185 rfl ?_
    refine go_iconst (v := 3) dX12_numberTo_28 (by decide) ?_
    refine go_icmp_ne (tgt := 53) dX12_numberTo_29 (by decide) (fun hc => ?_) (fun hc => ?_)
    · replace h := h.1 hc
      refine go_mask [true, true, true, false] rfl ?_
      exact h
    · replace h := h.2 hc
      refine go_bipush (v := 10) dX12_numberTo_32 (by decide) ?_
      refine go_iload_n dX12_numberTo_34 rfl rfl ?_
      refine go_imul dX12_numberTo_35 ?_
      refine go_aload_n dX12_numberTo_36 rfl rfl ?_
      refine go_get (k := 16) (v := .ref (gd g 64)) dX12_numberTo_37 ob_12 (by decide) qf_X12_54 rfl ?_
      refine go_iload_n dX12_numberTo_40 rfl rfl ?_
      obtain ⟨hi, h⟩ := h
      refine go_ild (a := 64) (n := 400) dX12_numberTo_41 (by decide) (by decide) rfl hi ?_
      refine go_iadd dX12_numberTo_42 ?_
      refine go_bipush (v := 48) dX12_numberTo_43 (by decide) ?_
      refine go_isub dX12_numberTo_45 ?_
      refine go_istore_n (lm := [some (.ref (gd g 12)), some (.int x1), some (.int (((10 * x2) + (u.2 64 x3.toNatClampNeg)) - 48)), some (.int x3)]) dX12_numberTo_46 rfl (by decide) rfl rfl ?_
      refine go_iinc (v := x3 + 1) (lm := [some (.ref (gd g 12)), some (.int x1), some (.int (((10 * x2) + (u.2 64 x3.toNatClampNeg)) - 48)), some (.int (x3 + 1))]) dX12_numberTo_47 rfl rfl (by decide) rfl rfl ?_
      refine go_goto (tgt := 16) dX12_numberTo_50 (by decide) ?_
      exact h
set_option maxRecDepth 100000 in
set_option maxHeartbeats 4000000 in
theorem B_X12_numberTo_53 {g : gp} {u : sg} {Q : Option Value → sg → Prop} (x1 : Int32) (x2 : Int32) (h : ((¬ (u.1 12 21) = (3 : Int32) → Go g iX12_numberTo 71 [some (.ref (gd g 12)), none, some (.int x2), none] [] u Q) ∧ ((u.1 12 21) = (3 : Int32) → ((x2 ≤ x1 → Go g iX12_numberTo 71 [some (.ref (gd g 12)), none, some (.int x2), none] [] u Q) ∧ (¬ x2 ≤ x1 → Go g iX12_bad 0 [some (.ref (gd g 12)), some (.int 2)] [] u (QV (fun u1 => Go g iX12_numberTo 71 [some (.ref (gd g 12)), none, some (.int x2), none] [] u1 Q))))))) : Go g iX12_numberTo 53 [some (.ref (gd g 12)), some (.int x1), some (.int x2), none] [] u Q := by
  refine go_aload_n dX12_numberTo_53 rfl rfl ?_
  refine go_get (k := 21) (v := .int (u.1 12 21)) dX12_numberTo_54 ob_12 (by decide) qf_X12_185 rfl ?_
  refine go_iconst (v := 3) dX12_numberTo_57 (by decide) ?_
  refine go_icmp_ne (tgt := 71) dX12_numberTo_58 (by decide) (fun hc => ?_) (fun hc => ?_)
  · replace h := h.1 hc
    refine go_mask [true, false, true, true] rfl ?_
    exact h
  · replace h := h.2 hc
    refine go_iload_n dX12_numberTo_61 rfl rfl ?_
    refine go_iload_n dX12_numberTo_62 rfl rfl ?_
    refine go_icmp_le (tgt := 71) dX12_numberTo_63 (by decide) (fun hc => ?_) (fun hc => ?_)
    · replace h := h.1 hc
      refine go_mask [true, false, true, true] rfl ?_
      exact h
    · replace h := h.2 hc
      refine go_aload_n dX12_numberTo_66 rfl rfl ?_
      refine go_iconst (v := 2) dX12_numberTo_67 (by decide) ?_
      refine go_cVv (o := 12) (As := [.int 2]) (st := []) (lc := [some (.ref (gd g 12)), some (.int 2)]) dX12_numberTo_68 me_X12_bad rfl ob_12 qm_X12_203 rfl (Nat.le_of_ble_eq_true rfl) rfl ⟨Nat.le_of_ble_eq_true rfl, Nat.le_of_ble_eq_true rfl⟩ rfl (Nat.le_of_ble_eq_true rfl) h (fun u1 h => ?_)
      refine go_mask [true, false, true, true] rfl ?_
      exact h
set_option maxRecDepth 100000 in
set_option maxHeartbeats 4000000 in
theorem B_X12_numberTo_71 {g : gp} {u : sg} {Q : Option Value → sg → Prop} (x2 : Int32) (h : ((¬ (u.1 12 21) = (3 : Int32) → Go g iX12_need 0 [some (.ref (gd g 12)), some (.int 0)] [] u (QV (fun u1 => Q (some (.int x2)) u1))) ∧ ((u.1 12 21) = (3 : Int32) → Go g iX12_need 0 [some (.ref (gd g 12)), some (.int 1)] [] u (QV (fun u2 => Q (some (.int x2)) u2))))) : Go g iX12_numberTo 71 [some (.ref (gd g 12)), none, some (.int x2), none] [] u Q := by
  refine go_aload_n dX12_numberTo_71 rfl rfl ?_
  refine go_aload_n dX12_numberTo_72 rfl rfl ?_
  refine go_get (k := 21) (v := .int (u.1 12 21)) dX12_numberTo_73 ob_12 (by decide) qf_X12_185 rfl ?_
  refine go_iconst (v := 3) dX12_numberTo_76 (by decide) ?_
  refine go_icmp_ne (tgt := 84) dX12_numberTo_77 (by decide) (fun hc => ?_) (fun hc => ?_)
  · replace h := h.1 hc
    refine go_iconst (v := 0) dX12_numberTo_84 (by decide) ?_
    refine go_cVv (o := 12) (As := [.int 0]) (st := []) (lc := [some (.ref (gd g 12)), some (.int 0)]) dX12_numberTo_85 me_X12_need rfl ob_12 qm_X12_210 rfl (Nat.le_of_ble_eq_true rfl) rfl ⟨Nat.le_of_ble_eq_true rfl, Nat.le_of_ble_eq_true rfl⟩ rfl (Nat.le_of_ble_eq_true rfl) h (fun u1 h => ?_)
    refine go_iload_n dX12_numberTo_88 rfl rfl ?_
    exact go_iret dX12_numberTo_89 rfl h
  · replace h := h.2 hc
    refine go_iconst (v := 1) dX12_numberTo_80 (by decide) ?_
    refine go_goto (tgt := 85) dX12_numberTo_81 (by decide) ?_
    refine go_cVv (o := 12) (As := [.int 1]) (st := []) (lc := [some (.ref (gd g 12)), some (.int 1)]) dX12_numberTo_85 me_X12_need rfl ob_12 qm_X12_210 rfl (Nat.le_of_ble_eq_true rfl) rfl ⟨Nat.le_of_ble_eq_true rfl, Nat.le_of_ble_eq_true rfl⟩ rfl (Nat.le_of_ble_eq_true rfl) h (fun u2 h => ?_)
    refine go_iload_n dX12_numberTo_88 rfl rfl ?_
    exact go_iret dX12_numberTo_89 rfl h
set_option maxRecDepth 100000 in
set_option maxHeartbeats 4000000 in
theorem B_X12_lawOfWord_0 {g : gp} {u : sg} {Q : Option Value → sg → Prop}  (h : Go g iX12_word 0 [some (.ref (gd g 12)), none, none, none] [] u (QL (fun r1 u1 => ((¬ (lg_cmp r1 (512852583788 : Int64)) = (0 : Int32) → ((¬ (lg_cmp r1 (1953459308 : Int64)) = (0 : Int32) → ((¬ (lg_cmp r1 (1718773093 : Int64)) = (0 : Int32) → ((¬ (lg_cmp r1 (1735356260 : Int64)) = (0 : Int32) → ((¬ (lg_cmp r1 (6447460 : Int64)) = (0 : Int32) → ((¬ (lg_cmp r1 (6447470 : Int64)) = (0 : Int32) → ((¬ (lg_cmp r1 (1818846836 : Int64)) = (0 : Int32) → Q (some (.int (-1000000 : Int32))) u1) ∧ ((lg_cmp r1 (1818846836 : Int64)) = (0 : Int32) → Q (some (.int (6 : Int32))) u1))) ∧ ((lg_cmp r1 (6447470 : Int64)) = (0 : Int32) → Q (some (.int (5 : Int32))) u1))) ∧ ((lg_cmp r1 (6447460 : Int64)) = (0 : Int32) → Q (some (.int (4 : Int32))) u1))) ∧ ((lg_cmp r1 (1735356260 : Int64)) = (0 : Int32) → Q (some (.int (3 : Int32))) u1))) ∧ ((lg_cmp r1 (1718773093 : Int64)) = (0 : Int32) → Q (some (.int (2 : Int32))) u1))) ∧ ((lg_cmp r1 (1953459308 : Int64)) = (0 : Int32) → Q (some (.int (1 : Int32))) u1))) ∧ ((lg_cmp r1 (512852583788 : Int64)) = (0 : Int32) → Q (some (.int (0 : Int32))) u1))))) : Go g iX12_lawOfWord 0 [some (.ref (gd g 12)), none, none] [] u Q := by
  refine go_aload_n dX12_lawOfWord_0 rfl rfl ?_
  refine go_cVl (o := 12) (As := []) (st := []) (lc := [some (.ref (gd g 12)), none, none, none]) dX12_lawOfWord_1 me_X12_word rfl ob_12 qm_X12_214 rfl (Nat.le_of_ble_eq_true rfl) rfl ⟨Nat.le_of_ble_eq_true rfl, Nat.le_of_ble_eq_true rfl⟩ rfl (Nat.le_of_ble_eq_true rfl) h (fun r1 u1 h => ?_)
  refine go_lstore_n (lm := [some (.ref (gd g 12)), some (.long r1), none]) dX12_lawOfWord_4 rfl (by decide) rfl rfl ?_
  refine go_lload_n dX12_lawOfWord_5 rfl rfl ?_
  refine go_ldc2 dX12_lawOfWord_6 ql_X12_218 ?_
  refine go_lcmp dX12_lawOfWord_9 ?_
  refine go_if_ne (tgt := 17) dX12_lawOfWord_10 (by decide) (fun hc => ?_) (fun hc => ?_)
  · replace h := h.1 hc
    refine go_lload_n dX12_lawOfWord_17 rfl rfl ?_
    refine go_ldc2 dX12_lawOfWord_18 ql_X12_220 ?_
    refine go_lcmp dX12_lawOfWord_21 ?_
    refine go_if_ne (tgt := 29) dX12_lawOfWord_22 (by decide) (fun hc => ?_) (fun hc => ?_)
    · replace h := h.1 hc
      refine go_lload_n dX12_lawOfWord_29 rfl rfl ?_
      refine go_ldc2 dX12_lawOfWord_30 ql_X12_222 ?_
      refine go_lcmp dX12_lawOfWord_33 ?_
      refine go_if_ne (tgt := 41) dX12_lawOfWord_34 (by decide) (fun hc => ?_) (fun hc => ?_)
      · replace h := h.1 hc
        refine go_lload_n dX12_lawOfWord_41 rfl rfl ?_
        refine go_ldc2 dX12_lawOfWord_42 ql_X12_224 ?_
        refine go_lcmp dX12_lawOfWord_45 ?_
        refine go_if_ne (tgt := 53) dX12_lawOfWord_46 (by decide) (fun hc => ?_) (fun hc => ?_)
        · replace h := h.1 hc
          refine go_lload_n dX12_lawOfWord_53 rfl rfl ?_
          refine go_ldc2 dX12_lawOfWord_54 ql_X12_226 ?_
          refine go_lcmp dX12_lawOfWord_57 ?_
          refine go_if_ne (tgt := 65) dX12_lawOfWord_58 (by decide) (fun hc => ?_) (fun hc => ?_)
          · replace h := h.1 hc
            refine go_lload_n dX12_lawOfWord_65 rfl rfl ?_
            refine go_ldc2 dX12_lawOfWord_66 ql_X12_228 ?_
            refine go_lcmp dX12_lawOfWord_69 ?_
            refine go_if_ne (tgt := 77) dX12_lawOfWord_70 (by decide) (fun hc => ?_) (fun hc => ?_)
            · replace h := h.1 hc
              refine go_lload_n dX12_lawOfWord_77 rfl rfl ?_
              refine go_ldc2 dX12_lawOfWord_78 ql_X12_230 ?_
              refine go_lcmp dX12_lawOfWord_81 ?_
              refine go_if_ne (tgt := 90) dX12_lawOfWord_82 (by decide) (fun hc => ?_) (fun hc => ?_)
              · replace h := h.1 hc
                refine go_ldc dX12_lawOfWord_90 qc_X12_129 ?_
                exact go_iret dX12_lawOfWord_92 rfl h
              · replace h := h.2 hc
                refine go_bipush (v := 6) dX12_lawOfWord_85 (by decide) ?_
                refine go_goto (tgt := 92) dX12_lawOfWord_87 (by decide) ?_
                exact go_iret dX12_lawOfWord_92 rfl h
            · replace h := h.2 hc
              refine go_iconst (v := 5) dX12_lawOfWord_73 (by decide) ?_
              refine go_goto (tgt := 92) dX12_lawOfWord_74 (by decide) ?_
              exact go_iret dX12_lawOfWord_92 rfl h
          · replace h := h.2 hc
            refine go_iconst (v := 4) dX12_lawOfWord_61 (by decide) ?_
            refine go_goto (tgt := 92) dX12_lawOfWord_62 (by decide) ?_
            exact go_iret dX12_lawOfWord_92 rfl h
        · replace h := h.2 hc
          refine go_iconst (v := 3) dX12_lawOfWord_49 (by decide) ?_
          refine go_goto (tgt := 92) dX12_lawOfWord_50 (by decide) ?_
          exact go_iret dX12_lawOfWord_92 rfl h
      · replace h := h.2 hc
        refine go_iconst (v := 2) dX12_lawOfWord_37 (by decide) ?_
        refine go_goto (tgt := 92) dX12_lawOfWord_38 (by decide) ?_
        exact go_iret dX12_lawOfWord_92 rfl h
    · replace h := h.2 hc
      refine go_iconst (v := 1) dX12_lawOfWord_25 (by decide) ?_
      refine go_goto (tgt := 92) dX12_lawOfWord_26 (by decide) ?_
      exact go_iret dX12_lawOfWord_92 rfl h
  · replace h := h.2 hc
    refine go_iconst (v := 0) dX12_lawOfWord_13 (by decide) ?_
    refine go_goto (tgt := 92) dX12_lawOfWord_14 (by decide) ?_
    exact go_iret dX12_lawOfWord_92 rfl h
set_option maxRecDepth 100000 in
set_option maxHeartbeats 4000000 in
theorem B_X12_readLaw_0 {g : gp} {u : sg} {Q : Option Value → sg → Prop} (x1 : Int32) (h : Go g iX12_lawOfWord 0 [some (.ref (gd g 12)), none, none] [] u (QI (fun r1 u1 => ((r1 = (-1000000 : Int32) → ((r1 = (-1000000 : Int32) → Go g iX12_readLaw 37 [some (.ref (gd g 12)), some (.int x1), some (.int r1)] [.int 0, .ref (gd g 12)] u1 Q) ∧ (¬ r1 = (-1000000 : Int32) → Go g iX12_readLaw 37 [some (.ref (gd g 12)), some (.int x1), some (.int r1)] [.int 1, .ref (gd g 12)] u1 Q))) ∧ (¬ r1 = (-1000000 : Int32) → ((¬ (u1.1 12 15) = (30 : Int32) → ((r1 = (-1000000 : Int32) → Go g iX12_readLaw 37 [some (.ref (gd g 12)), some (.int x1), some (.int r1)] [.int 0, .ref (gd g 12)] u1 Q) ∧ (¬ r1 = (-1000000 : Int32) → Go g iX12_readLaw 37 [some (.ref (gd g 12)), some (.int x1), some (.int r1)] [.int 1, .ref (gd g 12)] u1 Q))) ∧ ((u1.1 12 15) = (30 : Int32) → Go g iX12_bad 0 [some (.ref (gd g 12)), some (.int 3)] [] u1 (QV (fun u2 => ((r1 = (-1000000 : Int32) → Go g iX12_readLaw 37 [some (.ref (gd g 12)), some (.int x1), some (.int r1)] [.int 0, .ref (gd g 12)] u2 Q) ∧ (¬ r1 = (-1000000 : Int32) → Go g iX12_readLaw 37 [some (.ref (gd g 12)), some (.int x1), some (.int r1)] [.int 1, .ref (gd g 12)] u2 Q))))))))))) : Go g iX12_readLaw 0 [some (.ref (gd g 12)), some (.int x1), none] [] u Q := by
  refine go_aload_n dX12_readLaw_0 rfl rfl ?_
  refine go_cVi (o := 12) (As := []) (st := []) (lc := [some (.ref (gd g 12)), none, none]) dX12_readLaw_1 me_X12_lawOfWord rfl ob_12 qm_X12_232 rfl (Nat.le_of_ble_eq_true rfl) rfl ⟨Nat.le_of_ble_eq_true rfl, Nat.le_of_ble_eq_true rfl⟩ rfl (Nat.le_of_ble_eq_true rfl) h (fun r1 u1 h => ?_)
  refine go_istore_n (lm := [some (.ref (gd g 12)), some (.int x1), some (.int r1)]) dX12_readLaw_4 rfl (by decide) rfl rfl ?_
  refine go_iload_n dX12_readLaw_5 rfl rfl ?_
  refine go_ldc dX12_readLaw_6 qc_X12_129 ?_
  refine go_icmp_eq (tgt := 25) dX12_readLaw_8 (by decide) (fun hc => ?_) (fun hc => ?_)
  · replace h := h.1 hc
    refine go_aload_n dX12_readLaw_25 rfl rfl ?_
    refine go_iload_n dX12_readLaw_26 rfl rfl ?_
    refine go_ldc dX12_readLaw_27 qc_X12_129 ?_
    refine go_icmp_eq (tgt := 36) dX12_readLaw_29 (by decide) (fun hc => ?_) (fun hc => ?_)
    · replace h := h.1 hc
      refine go_iconst (v := 0) dX12_readLaw_36 (by decide) ?_
      exact h
    · replace h := h.2 hc
      refine go_iconst (v := 1) dX12_readLaw_32 (by decide) ?_
      refine go_goto (tgt := 37) dX12_readLaw_33 (by decide) ?_
      exact h
  · replace h := h.2 hc
    refine go_aload_n dX12_readLaw_11 rfl rfl ?_
    refine go_get (k := 15) (v := .int (u1.1 12 15)) dX12_readLaw_12 ob_12 (by decide) qf_X12_236 rfl ?_
    refine go_bipush (v := 30) dX12_readLaw_15 (by decide) ?_
    refine go_icmp_ne (tgt := 25) dX12_readLaw_17 (by decide) (fun hc => ?_) (fun hc => ?_)
    · replace h := h.1 hc
      refine go_aload_n dX12_readLaw_25 rfl rfl ?_
      refine go_iload_n dX12_readLaw_26 rfl rfl ?_
      refine go_ldc dX12_readLaw_27 qc_X12_129 ?_
      refine go_icmp_eq (tgt := 36) dX12_readLaw_29 (by decide) (fun hc => ?_) (fun hc => ?_)
      · replace h := h.1 hc
        refine go_iconst (v := 0) dX12_readLaw_36 (by decide) ?_
        exact h
      · replace h := h.2 hc
        refine go_iconst (v := 1) dX12_readLaw_32 (by decide) ?_
        refine go_goto (tgt := 37) dX12_readLaw_33 (by decide) ?_
        exact h
    · replace h := h.2 hc
      refine go_aload_n dX12_readLaw_20 rfl rfl ?_
      refine go_iconst (v := 3) dX12_readLaw_21 (by decide) ?_
      refine go_cVv (o := 12) (As := [.int 3]) (st := []) (lc := [some (.ref (gd g 12)), some (.int 3)]) dX12_readLaw_22 me_X12_bad rfl ob_12 qm_X12_203 rfl (Nat.le_of_ble_eq_true rfl) rfl ⟨Nat.le_of_ble_eq_true rfl, Nat.le_of_ble_eq_true rfl⟩ rfl (Nat.le_of_ble_eq_true rfl) h (fun u2 h => ?_)
      refine go_aload_n dX12_readLaw_25 rfl rfl ?_
      refine go_iload_n dX12_readLaw_26 rfl rfl ?_
      refine go_ldc dX12_readLaw_27 qc_X12_129 ?_
      refine go_icmp_eq (tgt := 36) dX12_readLaw_29 (by decide) (fun hc => ?_) (fun hc => ?_)
      · replace h := h.1 hc
        refine go_iconst (v := 0) dX12_readLaw_36 (by decide) ?_
        exact h
      · replace h := h.2 hc
        refine go_iconst (v := 1) dX12_readLaw_32 (by decide) ?_
        refine go_goto (tgt := 37) dX12_readLaw_33 (by decide) ?_
        exact h
set_option maxRecDepth 100000 in
set_option maxHeartbeats 4000000 in
theorem B_X12_readLaw_37 {g : gp} {u : sg} {Q : Option Value → sg → Prop} (x1 : Int32) (x2 : Int32) (t0 : Int32) (h : Go g iX12_need 0 [some (.ref (gd g 12)), some (.int t0)] [] u (QV (fun u1 => (((u1.1 12 24) ≤ (0 : Int32) → (vp_in (u1.1 12 15) 30 ∧ (vp_in (u1.1 12 15) 30 ∧ ((¬ x2 = (0 : Int32) → ((x2 = (5 : Int32) → Go g iX12_numberTo 0 [some (.ref (gd g 12)), some (.int 11), none, none] [] (sA (sA u1 60 (u1.1 12 15).toNatClampNeg x1) 61 (u1.1 12 15).toNatClampNeg x2) (QI (fun r2 u2 => Go g iX12_readLaw 106 [some (.ref (gd g 12)), none, some (.int x2)] [.int r2, .int (u1.1 12 15), .ref (gd g 62)] u2 Q))) ∧ (¬ x2 = (5 : Int32) → ((¬ x2 = (6 : Int32) → Go g iX12_numberTo 0 [some (.ref (gd g 12)), some (.int 7), none, none] [] (sA (sA u1 60 (u1.1 12 15).toNatClampNeg x1) 61 (u1.1 12 15).toNatClampNeg x2) (QI (fun r3 u3 => Go g iX12_readLaw 106 [some (.ref (gd g 12)), none, some (.int x2)] [.int r3, .int (u1.1 12 15), .ref (gd g 62)] u3 Q))) ∧ (x2 = (6 : Int32) → Go g iX12_numberTo 0 [some (.ref (gd g 12)), some (.int 11), none, none] [] (sA (sA u1 60 (u1.1 12 15).toNatClampNeg x1) 61 (u1.1 12 15).toNatClampNeg x2) (QI (fun r4 u4 => Go g iX12_readLaw 106 [some (.ref (gd g 12)), none, some (.int x2)] [.int r4, .int (u1.1 12 15), .ref (gd g 62)] u4 Q))))))) ∧ (x2 = (0 : Int32) → Go g iX12_readLaw 106 [some (.ref (gd g 12)), none, some (.int x2)] [.int 0, .int (u1.1 12 15), .ref (gd g 62)] (sA (sA u1 60 (u1.1 12 15).toNatClampNeg x1) 61 (u1.1 12 15).toNatClampNeg x2) Q))))) ∧ (¬ (u1.1 12 24) ≤ (0 : Int32) → Q none u1))))) : Go g iX12_readLaw 37 [some (.ref (gd g 12)), some (.int x1), some (.int x2)] [.int t0, .ref (gd g 12)] u Q := by
  refine go_cVv (o := 12) (As := [.int t0]) (st := []) (lc := [some (.ref (gd g 12)), some (.int t0)]) dX12_readLaw_37 me_X12_need rfl ob_12 qm_X12_210 rfl (Nat.le_of_ble_eq_true rfl) rfl ⟨Nat.le_of_ble_eq_true rfl, Nat.le_of_ble_eq_true rfl⟩ rfl (Nat.le_of_ble_eq_true rfl) h (fun u1 h => ?_)
  refine go_aload_n dX12_readLaw_40 rfl rfl ?_
  refine go_get (k := 24) (v := .int (u1.1 12 24)) dX12_readLaw_41 ob_12 (by decide) qf_X12_197 rfl ?_
  refine go_if_le (tgt := 48) dX12_readLaw_44 (by decide) (fun hc => ?_) (fun hc => ?_)
  · replace h := h.1 hc
    refine go_aload_n dX12_readLaw_48 rfl rfl ?_
    refine go_get (k := 11) (v := .ref (gd g 60)) dX12_readLaw_49 ob_12 (by decide) qf_X12_42 rfl ?_
    refine go_aload_n dX12_readLaw_52 rfl rfl ?_
    refine go_get (k := 15) (v := .int (u1.1 12 15)) dX12_readLaw_53 ob_12 (by decide) qf_X12_236 rfl ?_
    refine go_iload_n dX12_readLaw_56 rfl rfl ?_
    obtain ⟨hi, h⟩ := h
    refine go_ist (a := 60) (n := 30) dX12_readLaw_57 (by decide) (by decide) rfl hi ?_
    refine go_aload_n dX12_readLaw_58 rfl rfl ?_
    refine go_get (k := 12) (v := .ref (gd g 61)) dX12_readLaw_59 ob_12 (by decide) qf_X12_45 rfl ?_
    refine go_aload_n dX12_readLaw_62 rfl rfl ?_
    refine go_get (k := 15) (v := .int (u1.1 12 15)) dX12_readLaw_63 ob_12 (by decide) qf_X12_236 rfl ?_
    refine go_iload_n dX12_readLaw_66 rfl rfl ?_
    obtain ⟨hi, h⟩ := h
    refine go_ist (a := 61) (n := 30) dX12_readLaw_67 (by decide) (by decide) rfl hi ?_
    refine go_aload_n dX12_readLaw_68 rfl rfl ?_
    refine go_get (k := 13) (v := .ref (gd g 62)) dX12_readLaw_69 ob_12 (by decide) qf_X12_48 rfl ?_
    refine go_aload_n dX12_readLaw_72 rfl rfl ?_
    refine go_get (k := 15) (v := .int (u1.1 12 15)) dX12_readLaw_73 ob_12 (by decide) qf_X12_236 rfl ?_
    refine go_iload_n dX12_readLaw_76 rfl rfl ?_
    refine go_if_ne (tgt := 84) dX12_readLaw_77 (by decide) (fun hc => ?_) (fun hc => ?_)
    · replace h := h.1 hc
      refine go_aload_n dX12_readLaw_84 rfl rfl ?_
      refine go_iload_n dX12_readLaw_85 rfl rfl ?_
      refine go_iconst (v := 5) dX12_readLaw_86 (by decide) ?_
      refine go_icmp_eq (tgt := 96) dX12_readLaw_87 (by decide) (fun hc => ?_) (fun hc => ?_)
      · replace h := h.1 hc
        refine go_bipush (v := 11) dX12_readLaw_96 (by decide) ?_
        refine go_goto (tgt := 103) dX12_readLaw_98 (by decide) ?_
        refine go_cVi (o := 12) (As := [.int 11]) (st := [.int (u1.1 12 15), .ref (gd g 62)]) (lc := [some (.ref (gd g 12)), some (.int 11), none, none]) dX12_readLaw_103 me_X12_numberTo rfl ob_12 qm_X12_239 rfl (Nat.le_of_ble_eq_true rfl) rfl ⟨Nat.le_of_ble_eq_true rfl, Nat.le_of_ble_eq_true rfl⟩ rfl (Nat.le_of_ble_eq_true rfl) h (fun r2 u2 h => ?_)
        refine go_mask [true, false, true] rfl ?_
        exact h
      · replace h := h.2 hc
        refine go_iload_n dX12_readLaw_90 rfl rfl ?_
        refine go_bipush (v := 6) dX12_readLaw_91 (by decide) ?_
        refine go_icmp_ne (tgt := 101) dX12_readLaw_93 (by decide) (fun hc => ?_) (fun hc => ?_)
        · replace h := h.1 hc
          refine go_bipush (v := 7) dX12_readLaw_101 (by decide) ?_
          refine go_cVi (o := 12) (As := [.int 7]) (st := [.int (u1.1 12 15), .ref (gd g 62)]) (lc := [some (.ref (gd g 12)), some (.int 7), none, none]) dX12_readLaw_103 me_X12_numberTo rfl ob_12 qm_X12_239 rfl (Nat.le_of_ble_eq_true rfl) rfl ⟨Nat.le_of_ble_eq_true rfl, Nat.le_of_ble_eq_true rfl⟩ rfl (Nat.le_of_ble_eq_true rfl) h (fun r3 u3 h => ?_)
          refine go_mask [true, false, true] rfl ?_
          exact h
        · replace h := h.2 hc
          refine go_bipush (v := 11) dX12_readLaw_96 (by decide) ?_
          refine go_goto (tgt := 103) dX12_readLaw_98 (by decide) ?_
          refine go_cVi (o := 12) (As := [.int 11]) (st := [.int (u1.1 12 15), .ref (gd g 62)]) (lc := [some (.ref (gd g 12)), some (.int 11), none, none]) dX12_readLaw_103 me_X12_numberTo rfl ob_12 qm_X12_239 rfl (Nat.le_of_ble_eq_true rfl) rfl ⟨Nat.le_of_ble_eq_true rfl, Nat.le_of_ble_eq_true rfl⟩ rfl (Nat.le_of_ble_eq_true rfl) h (fun r4 u4 h => ?_)
          refine go_mask [true, false, true] rfl ?_
          exact h
    · replace h := h.2 hc
      refine go_iconst (v := 0) dX12_readLaw_80 (by decide) ?_
      refine go_goto (tgt := 106) dX12_readLaw_81 (by decide) ?_
      refine go_mask [true, false, true] rfl ?_
      exact h
  · replace h := h.2 hc
    exact go_vret dX12_readLaw_47 rfl h
set_option maxRecDepth 100000 in
set_option maxHeartbeats 4000000 in
theorem B_X12_readLaw_106 {g : gp} {u : sg} {Q : Option Value → sg → Prop} (x2 : Int32) (t0 : Int32) (t1 : Int32) (h : (vp_in t1 30 ∧ (((3 : Int32) ≤ x2 → (vp_in (u.1 12 15) 30 ∧ Q none (sI (sA (sA u 62 t1.toNatClampNeg t0) 63 (u.1 12 15).toNatClampNeg (0 : Int32)) 12 15 ((u.1 12 15) + 1)))) ∧ (¬ (3 : Int32) ≤ x2 → Go g iX12_numberTo 0 [some (.ref (gd g 12)), some (.int 999), none, none] [] (sA u 62 t1.toNatClampNeg t0) (QI (fun r1 u1 => (vp_in (u.1 12 15) 30 ∧ Q none (sI (sA u1 63 (u.1 12 15).toNatClampNeg r1) 12 15 ((u1.1 12 15) + 1))))))))) : Go g iX12_readLaw 106 [some (.ref (gd g 12)), none, some (.int x2)] [.int t0, .int t1, .ref (gd g 62)] u Q := by
  obtain ⟨hi, h⟩ := h
  refine go_ist (a := 62) (n := 30) dX12_readLaw_106 (by decide) (by decide) rfl hi ?_
  refine go_aload_n dX12_readLaw_107 rfl rfl ?_
  refine go_get (k := 14) (v := .ref (gd g 63)) dX12_readLaw_108 ob_12 (by decide) qf_X12_51 rfl ?_
  refine go_aload_n dX12_readLaw_111 rfl rfl ?_
  refine go_get (k := 15) (v := .int (u.1 12 15)) dX12_readLaw_112 ob_12 (by decide) qf_X12_236 rfl ?_
  refine go_iload_n dX12_readLaw_115 rfl rfl ?_
  refine go_iconst (v := 3) dX12_readLaw_116 (by decide) ?_
  refine go_icmp_ge (tgt := 130) dX12_readLaw_117 (by decide) (fun hc => ?_) (fun hc => ?_)
  · replace h := h.1 hc
    refine go_iconst (v := 0) dX12_readLaw_130 (by decide) ?_
    obtain ⟨hi, h⟩ := h
    refine go_ist (a := 63) (n := 30) dX12_readLaw_131 (by decide) (by decide) rfl hi ?_
    refine go_aload_n dX12_readLaw_132 rfl rfl ?_
    refine go_dup dX12_readLaw_133 rfl ?_
    refine go_get (k := 15) (v := .int (u.1 12 15)) dX12_readLaw_134 ob_12 (by decide) qf_X12_236 rfl ?_
    refine go_iconst (v := 1) dX12_readLaw_137 (by decide) ?_
    refine go_iadd dX12_readLaw_138 ?_
    refine go_put (k := 15) dX12_readLaw_139 ob_12 (by decide) qf_X12_236 rfl rfl pf_I ?_
    exact go_vret dX12_readLaw_142 rfl h
  · replace h := h.2 hc
    refine go_aload_n dX12_readLaw_120 rfl rfl ?_
    refine go_sipush (v := 999) dX12_readLaw_121 (by decide) ?_
    refine go_cVi (o := 12) (As := [.int 999]) (st := [.int (u.1 12 15), .ref (gd g 63)]) (lc := [some (.ref (gd g 12)), some (.int 999), none, none]) dX12_readLaw_124 me_X12_numberTo rfl ob_12 qm_X12_239 rfl (Nat.le_of_ble_eq_true rfl) rfl ⟨Nat.le_of_ble_eq_true rfl, Nat.le_of_ble_eq_true rfl⟩ rfl (Nat.le_of_ble_eq_true rfl) h (fun r1 u1 h => ?_)
    refine go_goto (tgt := 131) dX12_readLaw_127 (by decide) ?_
    obtain ⟨hi, h⟩ := h
    refine go_ist (a := 63) (n := 30) dX12_readLaw_131 (by decide) (by decide) rfl hi ?_
    refine go_aload_n dX12_readLaw_132 rfl rfl ?_
    refine go_dup dX12_readLaw_133 rfl ?_
    refine go_get (k := 15) (v := .int (u1.1 12 15)) dX12_readLaw_134 ob_12 (by decide) qf_X12_236 rfl ?_
    refine go_iconst (v := 1) dX12_readLaw_137 (by decide) ?_
    refine go_iadd dX12_readLaw_138 ?_
    refine go_put (k := 15) dX12_readLaw_139 ob_12 (by decide) qf_X12_236 rfl rfl pf_I ?_
    exact go_vret dX12_readLaw_142 rfl h
set_option maxRecDepth 100000 in
set_option maxHeartbeats 4000000 in
theorem B_X12_laws_0 {g : gp} {u : sg} {Q : Option Value → sg → Prop}  (h : Go g iX12_step 0 [some (.ref (gd g 12)), none] [] (sI (sI (sI (sI (sI (sI u 12 0 (0 : Int32)) 12 19 (u.1 12 17)) 12 17 (0 : Int32)) 12 20 (0 : Int32)) 12 24 (0 : Int32)) 12 15 (u.1 12 10)) (QV (fun u1 => Go g iX12_laws 40 [some (.ref (gd g 12)), none, none] [] u1 Q))) : Go g iX12_laws 0 [some (.ref (gd g 12)), none, none] [] u Q := by
  refine go_aload_n dX12_laws_0 rfl rfl ?_
  refine go_iconst (v := 0) dX12_laws_1 (by decide) ?_
  refine go_put (k := 0) dX12_laws_2 ob_12 (by decide) qf_X12_1 rfl rfl pf_I ?_
  refine go_aload_n dX12_laws_5 rfl rfl ?_
  refine go_aload_n dX12_laws_6 rfl rfl ?_
  refine go_get (k := 17) (v := .int (u.1 12 17)) dX12_laws_7 ob_12 (by decide) qf_X12_167 rfl ?_
  refine go_put (k := 19) dX12_laws_10 ob_12 (by decide) qf_X12_173 rfl rfl pf_I ?_
  refine go_aload_n dX12_laws_13 rfl rfl ?_
  refine go_iconst (v := 0) dX12_laws_14 (by decide) ?_
  refine go_put (k := 17) dX12_laws_15 ob_12 (by decide) qf_X12_167 rfl rfl pf_I ?_
  refine go_aload_n dX12_laws_18 rfl rfl ?_
  refine go_iconst (v := 0) dX12_laws_19 (by decide) ?_
  refine go_put (k := 20) dX12_laws_20 ob_12 (by decide) qf_X12_176 rfl rfl pf_I ?_
  refine go_aload_n dX12_laws_23 rfl rfl ?_
  refine go_iconst (v := 0) dX12_laws_24 (by decide) ?_
  refine go_put (k := 24) dX12_laws_25 ob_12 (by decide) qf_X12_197 rfl rfl pf_I ?_
  refine go_aload_n dX12_laws_28 rfl rfl ?_
  refine go_aload_n dX12_laws_29 rfl rfl ?_
  refine go_get (k := 10) (v := .int (u.1 12 10)) dX12_laws_30 ob_12 (by decide) qf_X12_242 rfl ?_
  refine go_put (k := 15) dX12_laws_33 ob_12 (by decide) qf_X12_236 rfl rfl pf_I ?_
  refine go_aload_n dX12_laws_36 rfl rfl ?_
  refine go_cVv (o := 12) (As := []) (st := []) (lc := [some (.ref (gd g 12)), none]) dX12_laws_37 me_X12_step rfl ob_12 qm_X12_207 rfl (Nat.le_of_ble_eq_true rfl) rfl ⟨Nat.le_of_ble_eq_true rfl, Nat.le_of_ble_eq_true rfl⟩ rfl (Nat.le_of_ble_eq_true rfl) h (fun u1 h => ?_)
  exact h
set_option maxRecDepth 100000 in
set_option maxHeartbeats 4000000 in
theorem B_X12_laws_40 {g : gp} {u : sg} {Q : Option Value → sg → Prop}  (h : ((¬ (u.1 12 24) = (0 : Int32) → Go g iX12_laws 157 [some (.ref (gd g 12)), none, none] [] u Q) ∧ ((u.1 12 24) = (0 : Int32) → (((u.1 12 21) = (1 : Int32) → Go g iX12_laws 157 [some (.ref (gd g 12)), none, none] [] u Q) ∧ (¬ (u.1 12 21) = (1 : Int32) → Go g iX12_word 0 [some (.ref (gd g 12)), none, none, none] [] u (QL (fun r1 u1 => ((¬ (lg_cmp r1 (1718775661 : Int64)) = (0 : Int32) → Go g iX12_laws 72 [some (.ref (gd g 12)), none, none] [.int 0, .ref (gd g 12)] u1 Q) ∧ ((lg_cmp r1 (1718775661 : Int64)) = (0 : Int32) → Go g iX12_laws 72 [some (.ref (gd g 12)), none, none] [.int 1, .ref (gd g 12)] u1 Q))))))))) : Go g iX12_laws 40 [some (.ref (gd g 12)), none, none] [] u Q := by
  refine go_aload_n dX12_laws_40 rfl rfl ?_
  refine go_get (k := 24) (v := .int (u.1 12 24)) dX12_laws_41 ob_12 (by decide) qf_X12_197 rfl ?_
  refine go_if_ne (tgt := 157) dX12_laws_44 (by decide) (fun hc => ?_) (fun hc => ?_)
  · replace h := h.1 hc
    exact h
  · replace h := h.2 hc
    refine go_aload_n dX12_laws_47 rfl rfl ?_
    refine go_get (k := 21) (v := .int (u.1 12 21)) dX12_laws_48 ob_12 (by decide) qf_X12_185 rfl ?_
    refine go_iconst (v := 1) dX12_laws_51 (by decide) ?_
    refine go_icmp_eq (tgt := 157) dX12_laws_52 (by decide) (fun hc => ?_) (fun hc => ?_)
    · replace h := h.1 hc
      exact h
    · replace h := h.2 hc
      refine go_aload_n dX12_laws_55 rfl rfl ?_
      refine go_aload_n dX12_laws_56 rfl rfl ?_
      refine go_cVl (o := 12) (As := []) (st := [.ref (gd g 12)]) (lc := [some (.ref (gd g 12)), none, none, none]) dX12_laws_57 me_X12_word rfl ob_12 qm_X12_214 rfl (Nat.le_of_ble_eq_true rfl) rfl ⟨Nat.le_of_ble_eq_true rfl, Nat.le_of_ble_eq_true rfl⟩ rfl (Nat.le_of_ble_eq_true rfl) h (fun r1 u1 h => ?_)
      refine go_ldc2 dX12_laws_60 ql_X12_245 ?_
      refine go_lcmp dX12_laws_63 ?_
      refine go_if_ne (tgt := 71) dX12_laws_64 (by decide) (fun hc => ?_) (fun hc => ?_)
      · replace h := h.1 hc
        refine go_iconst (v := 0) dX12_laws_71 (by decide) ?_
        exact h
      · replace h := h.2 hc
        refine go_iconst (v := 1) dX12_laws_67 (by decide) ?_
        refine go_goto (tgt := 72) dX12_laws_68 (by decide) ?_
        exact h
set_option maxRecDepth 100000 in
set_option maxHeartbeats 4000000 in
theorem B_X12_laws_72 {g : gp} {u : sg} {Q : Option Value → sg → Prop} (t0 : Int32) (h : Go g iX12_need 0 [some (.ref (gd g 12)), some (.int t0)] [] u (QV (fun u1 => Go g iX12_numberTo 0 [some (.ref (gd g 12)), some (.int 999), none, none] [] u1 (QI (fun r2 u2 => ((¬ (u2.1 12 24) = (0 : Int32) → Go g iX12_laws 96 [some (.ref (gd g 12)), some (.int r2), some (.int 0)] [] u2 Q) ∧ ((u2.1 12 24) = (0 : Int32) → Go g iX12_laws 96 [some (.ref (gd g 12)), some (.int r2), some (.int 1)] [] u2 Q))))))) : Go g iX12_laws 72 [some (.ref (gd g 12)), none, none] [.int t0, .ref (gd g 12)] u Q := by
  refine go_cVv (o := 12) (As := [.int t0]) (st := []) (lc := [some (.ref (gd g 12)), some (.int t0)]) dX12_laws_72 me_X12_need rfl ob_12 qm_X12_210 rfl (Nat.le_of_ble_eq_true rfl) rfl ⟨Nat.le_of_ble_eq_true rfl, Nat.le_of_ble_eq_true rfl⟩ rfl (Nat.le_of_ble_eq_true rfl) h (fun u1 h => ?_)
  refine go_aload_n dX12_laws_75 rfl rfl ?_
  refine go_sipush (v := 999) dX12_laws_76 (by decide) ?_
  refine go_cVi (o := 12) (As := [.int 999]) (st := []) (lc := [some (.ref (gd g 12)), some (.int 999), none, none]) dX12_laws_79 me_X12_numberTo rfl ob_12 qm_X12_239 rfl (Nat.le_of_ble_eq_true rfl) rfl ⟨Nat.le_of_ble_eq_true rfl, Nat.le_of_ble_eq_true rfl⟩ rfl (Nat.le_of_ble_eq_true rfl) h (fun r2 u2 h => ?_)
  refine go_istore_n (lm := [some (.ref (gd g 12)), some (.int r2), none]) dX12_laws_82 rfl (by decide) rfl rfl ?_
  refine go_aload_n dX12_laws_83 rfl rfl ?_
  refine go_get (k := 24) (v := .int (u2.1 12 24)) dX12_laws_84 ob_12 (by decide) qf_X12_197 rfl ?_
  refine go_if_ne (tgt := 94) dX12_laws_87 (by decide) (fun hc => ?_) (fun hc => ?_)
  · replace h := h.1 hc
    refine go_iconst (v := 0) dX12_laws_94 (by decide) ?_
    refine go_istore_n (lm := [some (.ref (gd g 12)), some (.int r2), some (.int 0)]) dX12_laws_95 rfl (by decide) rfl rfl ?_
    exact h
  · replace h := h.2 hc
    refine go_iconst (v := 1) dX12_laws_90 (by decide) ?_
    refine go_goto (tgt := 95) dX12_laws_91 (by decide) ?_
    refine go_istore_n (lm := [some (.ref (gd g 12)), some (.int r2), some (.int 1)]) dX12_laws_95 rfl (by decide) rfl rfl ?_
    exact h
set_option maxRecDepth 100000 in
set_option maxHeartbeats 4000000 in
theorem B_X12_laws_96 {g : gp} {u : sg} {Q : Option Value → sg → Prop} (x1 : Int32) (x2 : Int32) (h : ((x2 = (0 : Int32) → ((¬ (u.1 12 24) = (0 : Int32) → Go g iX12_laws 40 [some (.ref (gd g 12)), none, none] [] u Q) ∧ ((u.1 12 24) = (0 : Int32) → ((¬ (u.1 12 21) = (4 : Int32) → Go g iX12_need 0 [some (.ref (gd g 12)), some (.int 0)] [] u (QV (fun u1 => Go g iX12_laws 40 [some (.ref (gd g 12)), none, none] [] u1 Q))) ∧ ((u.1 12 21) = (4 : Int32) → Go g iX12_need 0 [some (.ref (gd g 12)), some (.int 1)] [] u (QV (fun u2 => Go g iX12_laws 40 [some (.ref (gd g 12)), none, none] [] u2 Q))))))) ∧ (¬ x2 = (0 : Int32) → Go g iX12_readLaw 0 [some (.ref (gd g 12)), some (.int x1), none] [] u (QV (fun u3 => ((¬ (u3.1 12 24) = (0 : Int32) → Go g iX12_laws 96 [some (.ref (gd g 12)), some (.int x1), some (.int 0)] [] u3 Q) ∧ ((u3.1 12 24) = (0 : Int32) → Go g iX12_lawOfWord 0 [some (.ref (gd g 12)), none, none] [] u3 (QI (fun r4 u4 => ((r4 = (-1000000 : Int32) → Go g iX12_laws 96 [some (.ref (gd g 12)), some (.int x1), some (.int 0)] [] u4 Q) ∧ (¬ r4 = (-1000000 : Int32) → Go g iX12_laws 96 [some (.ref (gd g 12)), some (.int x1), some (.int 1)] [] u4 Q))))))))))) : Go g iX12_laws 96 [some (.ref (gd g 12)), some (.int x1), some (.int x2)] [] u Q := by
  refine go_iload_n dX12_laws_96 rfl rfl ?_
  refine go_if_eq (tgt := 130) dX12_laws_97 (by decide) (fun hc => ?_) (fun hc => ?_)
  · replace h := h.1 hc
    refine go_aload_n dX12_laws_130 rfl rfl ?_
    refine go_get (k := 24) (v := .int (u.1 12 24)) dX12_laws_131 ob_12 (by decide) qf_X12_197 rfl ?_
    refine go_if_ne (tgt := 154) dX12_laws_134 (by decide) (fun hc => ?_) (fun hc => ?_)
    · replace h := h.1 hc
      refine go_goto (tgt := 40) dX12_laws_154 (by decide) ?_
      refine go_mask [true, false, false] rfl ?_
      exact h
    · replace h := h.2 hc
      refine go_aload_n dX12_laws_137 rfl rfl ?_
      refine go_aload_n dX12_laws_138 rfl rfl ?_
      refine go_get (k := 21) (v := .int (u.1 12 21)) dX12_laws_139 ob_12 (by decide) qf_X12_185 rfl ?_
      refine go_iconst (v := 4) dX12_laws_142 (by decide) ?_
      refine go_icmp_ne (tgt := 150) dX12_laws_143 (by decide) (fun hc => ?_) (fun hc => ?_)
      · replace h := h.1 hc
        refine go_iconst (v := 0) dX12_laws_150 (by decide) ?_
        refine go_cVv (o := 12) (As := [.int 0]) (st := []) (lc := [some (.ref (gd g 12)), some (.int 0)]) dX12_laws_151 me_X12_need rfl ob_12 qm_X12_210 rfl (Nat.le_of_ble_eq_true rfl) rfl ⟨Nat.le_of_ble_eq_true rfl, Nat.le_of_ble_eq_true rfl⟩ rfl (Nat.le_of_ble_eq_true rfl) h (fun u1 h => ?_)
        refine go_goto (tgt := 40) dX12_laws_154 (by decide) ?_
        refine go_mask [true, false, false] rfl ?_
        exact h
      · replace h := h.2 hc
        refine go_iconst (v := 1) dX12_laws_146 (by decide) ?_
        refine go_goto (tgt := 151) dX12_laws_147 (by decide) ?_
        refine go_cVv (o := 12) (As := [.int 1]) (st := []) (lc := [some (.ref (gd g 12)), some (.int 1)]) dX12_laws_151 me_X12_need rfl ob_12 qm_X12_210 rfl (Nat.le_of_ble_eq_true rfl) rfl ⟨Nat.le_of_ble_eq_true rfl, Nat.le_of_ble_eq_true rfl⟩ rfl (Nat.le_of_ble_eq_true rfl) h (fun u2 h => ?_)
        refine go_goto (tgt := 40) dX12_laws_154 (by decide) ?_
        refine go_mask [true, false, false] rfl ?_
        exact h
  · replace h := h.2 hc
    refine go_aload_n dX12_laws_100 rfl rfl ?_
    refine go_iload_n dX12_laws_101 rfl rfl ?_
    refine go_cVv (o := 12) (As := [.int x1]) (st := []) (lc := [some (.ref (gd g 12)), some (.int x1), none]) dX12_laws_102 me_X12_readLaw rfl ob_12 qm_X12_247 rfl (Nat.le_of_ble_eq_true rfl) rfl ⟨Nat.le_of_ble_eq_true rfl, Nat.le_of_ble_eq_true rfl⟩ rfl (Nat.le_of_ble_eq_true rfl) h (fun u3 h => ?_)
    refine go_aload_n dX12_laws_105 rfl rfl ?_
    refine go_get (k := 24) (v := .int (u3.1 12 24)) dX12_laws_106 ob_12 (by decide) qf_X12_197 rfl ?_
    refine go_if_ne (tgt := 125) dX12_laws_109 (by decide) (fun hc => ?_) (fun hc => ?_)
    · replace h := h.1 hc
      refine go_iconst (v := 0) dX12_laws_125 (by decide) ?_
      refine go_istore_n (lm := [some (.ref (gd g 12)), some (.int x1), some (.int 0)]) dX12_laws_126 rfl (by decide) rfl rfl ?_
      refine go_goto (tgt := 96) dX12_laws_127 (by decide) ?_
      exact h
    · replace h := h.2 hc
      refine go_aload_n dX12_laws_112 rfl rfl ?_
      refine go_cVi (o := 12) (As := []) (st := []) (lc := [some (.ref (gd g 12)), none, none]) dX12_laws_113 me_X12_lawOfWord rfl ob_12 qm_X12_232 rfl (Nat.le_of_ble_eq_true rfl) rfl ⟨Nat.le_of_ble_eq_true rfl, Nat.le_of_ble_eq_true rfl⟩ rfl (Nat.le_of_ble_eq_true rfl) h (fun r4 u4 h => ?_)
      refine go_ldc dX12_laws_116 qc_X12_129 ?_
      refine go_icmp_eq (tgt := 125) dX12_laws_118 (by decide) (fun hc => ?_) (fun hc => ?_)
      · replace h := h.1 hc
        refine go_iconst (v := 0) dX12_laws_125 (by decide) ?_
        refine go_istore_n (lm := [some (.ref (gd g 12)), some (.int x1), some (.int 0)]) dX12_laws_126 rfl (by decide) rfl rfl ?_
        refine go_goto (tgt := 96) dX12_laws_127 (by decide) ?_
        exact h
      · replace h := h.2 hc
        refine go_iconst (v := 1) dX12_laws_121 (by decide) ?_
        refine go_goto (tgt := 126) dX12_laws_122 (by decide) ?_
        refine go_istore_n (lm := [some (.ref (gd g 12)), some (.int x1), some (.int 1)]) dX12_laws_126 rfl (by decide) rfl rfl ?_
        refine go_goto (tgt := 96) dX12_laws_127 (by decide) ?_
        exact h
set_option maxRecDepth 100000 in
set_option maxHeartbeats 4000000 in
theorem B_X12_laws_157 {g : gp} {u : sg} {Q : Option Value → sg → Prop}  (h : (((u.1 12 24) ≤ (0 : Int32) → Q (some (.int (u.1 12 15))) (sI u 12 10 (u.1 12 15))) ∧ (¬ (u.1 12 24) ≤ (0 : Int32) → Q (some (.int ((-1000100) - (u.1 12 25)))) (sI u 12 18 (u.1 12 24))))) : Go g iX12_laws 157 [some (.ref (gd g 12)), none, none] [] u Q := by
  refine go_aload_n dX12_laws_157 rfl rfl ?_
  refine go_get (k := 24) (v := .int (u.1 12 24)) dX12_laws_158 ob_12 (by decide) qf_X12_197 rfl ?_
  refine go_if_le (tgt := 180) dX12_laws_161 (by decide) (fun hc => ?_) (fun hc => ?_)
  · replace h := h.1 hc
    refine go_aload_n dX12_laws_180 rfl rfl ?_
    refine go_aload_n dX12_laws_181 rfl rfl ?_
    refine go_get (k := 15) (v := .int (u.1 12 15)) dX12_laws_182 ob_12 (by decide) qf_X12_236 rfl ?_
    refine go_put (k := 10) dX12_laws_185 ob_12 (by decide) qf_X12_242 rfl rfl pf_I ?_
    refine go_aload_n dX12_laws_188 rfl rfl ?_
    refine go_get (k := 10) (v := .int (u.1 12 15)) dX12_laws_189 ob_12 (by decide) qf_X12_242 rfl ?_
    exact go_iret dX12_laws_192 rfl h
  · replace h := h.2 hc
    refine go_aload_n dX12_laws_164 rfl rfl ?_
    refine go_aload_n dX12_laws_165 rfl rfl ?_
    refine go_get (k := 24) (v := .int (u.1 12 24)) dX12_laws_166 ob_12 (by decide) qf_X12_197 rfl ?_
    refine go_put (k := 18) dX12_laws_169 ob_12 (by decide) qf_X12_250 rfl rfl pf_I ?_
    refine go_ldc dX12_laws_172 qc_X12_253 ?_
    refine go_aload_n dX12_laws_174 rfl rfl ?_
    refine go_get (k := 25) (v := .int (u.1 12 25)) dX12_laws_175 ob_12 (by decide) qf_X12_200 rfl ?_
    refine go_isub dX12_laws_178 ?_
    exact go_iret dX12_laws_179 rfl h
