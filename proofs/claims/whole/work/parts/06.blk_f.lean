theorem dX11_sheet_0 : decode cX11_sheet 0 = .ok (.iload_n 1, 1) := by decide +kernel
theorem dX11_sheet_1 : decode cX11_sheet 1 = .ok (.invokestatic 92, 3) := by decide +kernel
theorem dX11_sheet_4 : decode cX11_sheet 4 = .ok (.ifCond .eq 18, 3) := by decide +kernel
theorem dX11_sheet_7 : decode cX11_sheet 7 = .ok (.iload_n 2, 1) := by decide +kernel
theorem dX11_sheet_8 : decode cX11_sheet 8 = .ok (.iconst 0, 1) := by decide +kernel
theorem dX11_sheet_9 : decode cX11_sheet 9 = .ok (.iconst 2, 1) := by decide +kernel
theorem dX11_sheet_10 : decode cX11_sheet 10 = .ok (.invokestatic 96, 3) := by decide +kernel
theorem dX11_sheet_13 : decode cX11_sheet 13 = .ok (.ifCond .eq 9, 3) := by decide +kernel
theorem dX11_sheet_16 : decode cX11_sheet 16 = .ok (.iload_n 3, 1) := by decide +kernel
theorem dX11_sheet_17 : decode cX11_sheet 17 = .ok (.bipush 64, 2) := by decide +kernel
theorem dX11_sheet_19 : decode cX11_sheet 19 = .ok (.if_icmp .le 6, 3) := by decide +kernel
theorem dX11_sheet_22 : decode cX11_sheet 22 = .ok (.ldc 100, 2) := by decide +kernel
theorem dX11_sheet_24 : decode cX11_sheet 24 = .ok (.ireturn, 1) := by decide +kernel
theorem dX11_sheet_25 : decode cX11_sheet 25 = .ok (.iload_n 3, 1) := by decide +kernel
theorem dX11_sheet_26 : decode cX11_sheet 26 = .ok (.ifCond .ge 9, 3) := by decide +kernel
theorem dX11_sheet_29 : decode cX11_sheet 29 = .ok (.aload_n 0, 1) := by decide +kernel
theorem dX11_sheet_30 : decode cX11_sheet 30 = .ok (.iconst 4, 1) := by decide +kernel
theorem dX11_sheet_31 : decode cX11_sheet 31 = .ok (.invokevirtual 101, 3) := by decide +kernel
theorem dX11_sheet_34 : decode cX11_sheet 34 = .ok (.ireturn, 1) := by decide +kernel
theorem dX11_sheet_35 : decode cX11_sheet 35 = .ok (.aload_n 0, 1) := by decide +kernel
theorem dX11_sheet_36 : decode cX11_sheet 36 = .ok (.getfield 10, 3) := by decide +kernel
theorem dX11_sheet_39 : decode cX11_sheet 39 = .ok (.iload_n 1, 1) := by decide +kernel
theorem dX11_sheet_40 : decode cX11_sheet 40 = .ok (.iload_n 2, 1) := by decide +kernel
theorem dX11_sheet_41 : decode cX11_sheet 41 = .ok (.iload_n 3, 1) := by decide +kernel
theorem dX11_sheet_42 : decode cX11_sheet 42 = .ok (.invokevirtual 105, 3) := by decide +kernel
theorem dX11_sheet_45 : decode cX11_sheet 45 = .ok (.aload_n 0, 1) := by decide +kernel
theorem dX11_sheet_46 : decode cX11_sheet 46 = .ok (.iload_n 3, 1) := by decide +kernel
theorem dX11_sheet_47 : decode cX11_sheet 47 = .ok (.invokevirtual 109, 3) := by decide +kernel
theorem dX11_sheet_50 : decode cX11_sheet 50 = .ok (.ireturn, 1) := by decide +kernel
theorem dX11_set_0 : decode cX11_set 0 = .ok (.iload_n 1, 1) := by decide +kernel
theorem dX11_set_1 : decode cX11_set 1 = .ok (.invokestatic 92, 3) := by decide +kernel
theorem dX11_set_4 : decode cX11_set 4 = .ok (.ifCond .ne 6, 3) := by decide +kernel
theorem dX11_set_7 : decode cX11_set 7 = .ok (.ldc 100, 2) := by decide +kernel
theorem dX11_set_9 : decode cX11_set 9 = .ok (.ireturn, 1) := by decide +kernel
theorem dX11_set_10 : decode cX11_set 10 = .ok (.aload_n 0, 1) := by decide +kernel
theorem dX11_set_11 : decode cX11_set 11 = .ok (.iload_n 1, 1) := by decide +kernel
theorem dX11_set_12 : decode cX11_set 12 = .ok (.iload_n 2, 1) := by decide +kernel
theorem dX11_set_13 : decode cX11_set 13 = .ok (.iconst 1, 1) := by decide +kernel
theorem dX11_set_14 : decode cX11_set 14 = .ok (.invokevirtual 112, 3) := by decide +kernel
theorem dX11_set_17 : decode cX11_set 17 = .ok (.istore 4, 2) := by decide +kernel
theorem dX11_set_19 : decode cX11_set 19 = .ok (.iload 4, 2) := by decide +kernel
theorem dX11_set_21 : decode cX11_set 21 = .ok (.ifCond .eq 10, 3) := by decide +kernel
theorem dX11_set_24 : decode cX11_set 24 = .ok (.aload_n 0, 1) := by decide +kernel
theorem dX11_set_25 : decode cX11_set 25 = .ok (.iload 4, 2) := by decide +kernel
theorem dX11_set_27 : decode cX11_set 27 = .ok (.invokevirtual 101, 3) := by decide +kernel
theorem dX11_set_30 : decode cX11_set 30 = .ok (.ireturn, 1) := by decide +kernel
theorem dX11_set_31 : decode cX11_set 31 = .ok (.aload_n 0, 1) := by decide +kernel
theorem dX11_set_32 : decode cX11_set 32 = .ok (.aload_n 0, 1) := by decide +kernel
theorem dX11_set_33 : decode cX11_set 33 = .ok (.getfield 10, 3) := by decide +kernel
theorem dX11_set_36 : decode cX11_set 36 = .ok (.iload_n 1, 1) := by decide +kernel
theorem dX11_set_37 : decode cX11_set 37 = .ok (.iload_n 2, 1) := by decide +kernel
theorem dX11_set_38 : decode cX11_set 38 = .ok (.iload_n 3, 1) := by decide +kernel
theorem dX11_set_39 : decode cX11_set 39 = .ok (.invokevirtual 116, 3) := by decide +kernel
theorem dX11_set_42 : decode cX11_set 42 = .ok (.invokevirtual 109, 3) := by decide +kernel
theorem dX11_set_45 : decode cX11_set 45 = .ok (.ireturn, 1) := by decide +kernel
theorem dX11_copy_0 : decode cX11_copy 0 = .ok (.iload_n 1, 1) := by decide +kernel
theorem dX11_copy_1 : decode cX11_copy 1 = .ok (.invokestatic 92, 3) := by decide +kernel
theorem dX11_copy_4 : decode cX11_copy 4 = .ok (.ifCond .eq 10, 3) := by decide +kernel
theorem dX11_copy_7 : decode cX11_copy 7 = .ok (.iload_n 3, 1) := by decide +kernel
theorem dX11_copy_8 : decode cX11_copy 8 = .ok (.invokestatic 92, 3) := by decide +kernel
theorem dX11_copy_11 : decode cX11_copy 11 = .ok (.ifCond .ne 6, 3) := by decide +kernel
theorem dX11_copy_14 : decode cX11_copy 14 = .ok (.ldc 100, 2) := by decide +kernel
theorem dX11_copy_16 : decode cX11_copy 16 = .ok (.ireturn, 1) := by decide +kernel
theorem dX11_copy_17 : decode cX11_copy 17 = .ok (.aload_n 0, 1) := by decide +kernel
theorem dX11_copy_18 : decode cX11_copy 18 = .ok (.getfield 10, 3) := by decide +kernel
theorem dX11_copy_21 : decode cX11_copy 21 = .ok (.iload_n 1, 1) := by decide +kernel
theorem dX11_copy_22 : decode cX11_copy 22 = .ok (.invokevirtual 119, 3) := by decide +kernel
theorem dX11_copy_25 : decode cX11_copy 25 = .ok (.ifCond .ne 14, 3) := by decide +kernel
theorem dX11_copy_28 : decode cX11_copy 28 = .ok (.aload_n 0, 1) := by decide +kernel
theorem dX11_copy_29 : decode cX11_copy 29 = .ok (.getfield 10, 3) := by decide +kernel
theorem dX11_copy_32 : decode cX11_copy 32 = .ok (.iload_n 3, 1) := by decide +kernel
theorem dX11_copy_33 : decode cX11_copy 33 = .ok (.invokevirtual 119, 3) := by decide +kernel
theorem dX11_copy_36 : decode cX11_copy 36 = .ok (.ifCond .eq 9, 3) := by decide +kernel
theorem dX11_copy_39 : decode cX11_copy 39 = .ok (.aload_n 0, 1) := by decide +kernel
theorem dX11_copy_40 : decode cX11_copy 40 = .ok (.iconst 1, 1) := by decide +kernel
theorem dX11_copy_41 : decode cX11_copy 41 = .ok (.invokevirtual 101, 3) := by decide +kernel
theorem dX11_copy_44 : decode cX11_copy 44 = .ok (.ireturn, 1) := by decide +kernel
theorem dX11_copy_45 : decode cX11_copy 45 = .ok (.aload_n 0, 1) := by decide +kernel
theorem dX11_copy_46 : decode cX11_copy 46 = .ok (.getfield 10, 3) := by decide +kernel
theorem dX11_copy_49 : decode cX11_copy 49 = .ok (.iload_n 1, 1) := by decide +kernel
theorem dX11_copy_50 : decode cX11_copy 50 = .ok (.invokevirtual 122, 3) := by decide +kernel
theorem dX11_copy_53 : decode cX11_copy 53 = .ok (.aload_n 0, 1) := by decide +kernel
theorem dX11_copy_54 : decode cX11_copy 54 = .ok (.getfield 10, 3) := by decide +kernel
theorem dX11_copy_57 : decode cX11_copy 57 = .ok (.iload_n 3, 1) := by decide +kernel
theorem dX11_copy_58 : decode cX11_copy 58 = .ok (.invokevirtual 122, 3) := by decide +kernel
theorem dX11_copy_61 : decode cX11_copy 61 = .ok (.if_icmp .eq 9, 3) := by decide +kernel
theorem dX11_copy_64 : decode cX11_copy 64 = .ok (.aload_n 0, 1) := by decide +kernel
theorem dX11_copy_65 : decode cX11_copy 65 = .ok (.iconst 5, 1) := by decide +kernel
theorem dX11_copy_66 : decode cX11_copy 66 = .ok (.invokevirtual 101, 3) := by decide +kernel
theorem dX11_copy_69 : decode cX11_copy 69 = .ok (.ireturn, 1) := by decide +kernel
theorem dX11_copy_70 : decode cX11_copy 70 = .ok (.aload_n 0, 1) := by decide +kernel
theorem dX11_copy_71 : decode cX11_copy 71 = .ok (.getfield 10, 3) := by decide +kernel
theorem dX11_copy_74 : decode cX11_copy 74 = .ok (.iload_n 1, 1) := by decide +kernel
theorem dX11_copy_75 : decode cX11_copy 75 = .ok (.iload_n 2, 1) := by decide +kernel
theorem dX11_copy_76 : decode cX11_copy 76 = .ok (.iload 5, 2) := by decide +kernel
theorem dX11_copy_78 : decode cX11_copy 78 = .ok (.invokevirtual 125, 3) := by decide +kernel
theorem dX11_copy_81 : decode cX11_copy 81 = .ok (.ifCond .eq 18, 3) := by decide +kernel
theorem dX11_copy_84 : decode cX11_copy 84 = .ok (.aload_n 0, 1) := by decide +kernel
theorem dX11_copy_85 : decode cX11_copy 85 = .ok (.getfield 10, 3) := by decide +kernel
theorem dX11_copy_88 : decode cX11_copy 88 = .ok (.iload_n 3, 1) := by decide +kernel
theorem dX11_copy_89 : decode cX11_copy 89 = .ok (.iload 4, 2) := by decide +kernel
theorem dX11_copy_91 : decode cX11_copy 91 = .ok (.iload 5, 2) := by decide +kernel
theorem dX11_copy_93 : decode cX11_copy 93 = .ok (.invokevirtual 125, 3) := by decide +kernel
theorem dX11_copy_96 : decode cX11_copy 96 = .ok (.ifCond .ne 9, 3) := by decide +kernel
theorem dX11_copy_99 : decode cX11_copy 99 = .ok (.aload_n 0, 1) := by decide +kernel
theorem dX11_copy_100 : decode cX11_copy 100 = .ok (.iconst 2, 1) := by decide +kernel
theorem dX11_copy_101 : decode cX11_copy 101 = .ok (.invokevirtual 101, 3) := by decide +kernel
theorem dX11_copy_104 : decode cX11_copy 104 = .ok (.ireturn, 1) := by decide +kernel
theorem dX11_copy_105 : decode cX11_copy 105 = .ok (.aload_n 0, 1) := by decide +kernel
theorem dX11_copy_106 : decode cX11_copy 106 = .ok (.getfield 10, 3) := by decide +kernel
theorem dX11_copy_109 : decode cX11_copy 109 = .ok (.iload_n 1, 1) := by decide +kernel
theorem dX11_copy_110 : decode cX11_copy 110 = .ok (.iload_n 2, 1) := by decide +kernel
theorem dX11_copy_111 : decode cX11_copy 111 = .ok (.iload_n 3, 1) := by decide +kernel
theorem dX11_copy_112 : decode cX11_copy 112 = .ok (.iload 4, 2) := by decide +kernel
theorem dX11_copy_114 : decode cX11_copy 114 = .ok (.iload 5, 2) := by decide +kernel
theorem dX11_copy_116 : decode cX11_copy 116 = .ok (.invokevirtual 128, 3) := by decide +kernel
theorem dX11_copy_119 : decode cX11_copy 119 = .ok (.aload_n 0, 1) := by decide +kernel
theorem dX11_copy_120 : decode cX11_copy 120 = .ok (.iload 5, 2) := by decide +kernel
theorem dX11_copy_122 : decode cX11_copy 122 = .ok (.invokevirtual 109, 3) := by decide +kernel
theorem dX11_copy_125 : decode cX11_copy 125 = .ok (.ireturn, 1) := by decide +kernel
theorem dX11_drop_0 : decode cX11_drop 0 = .ok (.iload_n 1, 1) := by decide +kernel
theorem dX11_drop_1 : decode cX11_drop 1 = .ok (.invokestatic 92, 3) := by decide +kernel
theorem dX11_drop_4 : decode cX11_drop 4 = .ok (.ifCond .ne 6, 3) := by decide +kernel
theorem dX11_drop_7 : decode cX11_drop 7 = .ok (.ldc 100, 2) := by decide +kernel
theorem dX11_drop_9 : decode cX11_drop 9 = .ok (.ireturn, 1) := by decide +kernel
theorem dX11_drop_10 : decode cX11_drop 10 = .ok (.aload_n 0, 1) := by decide +kernel
theorem dX11_drop_11 : decode cX11_drop 11 = .ok (.getfield 10, 3) := by decide +kernel
theorem dX11_drop_14 : decode cX11_drop 14 = .ok (.iload_n 1, 1) := by decide +kernel
theorem dX11_drop_15 : decode cX11_drop 15 = .ok (.invokevirtual 119, 3) := by decide +kernel
theorem dX11_drop_18 : decode cX11_drop 18 = .ok (.ifCond .eq 9, 3) := by decide +kernel
theorem dX11_drop_21 : decode cX11_drop 21 = .ok (.aload_n 0, 1) := by decide +kernel
theorem dX11_drop_22 : decode cX11_drop 22 = .ok (.iconst 1, 1) := by decide +kernel
theorem dX11_drop_23 : decode cX11_drop 23 = .ok (.invokevirtual 101, 3) := by decide +kernel
theorem dX11_drop_26 : decode cX11_drop 26 = .ok (.ireturn, 1) := by decide +kernel
theorem dX11_drop_27 : decode cX11_drop 27 = .ok (.aload_n 0, 1) := by decide +kernel
theorem dX11_drop_28 : decode cX11_drop 28 = .ok (.aload_n 0, 1) := by decide +kernel
theorem dX11_drop_29 : decode cX11_drop 29 = .ok (.getfield 10, 3) := by decide +kernel
theorem dX11_drop_32 : decode cX11_drop 32 = .ok (.iload_n 1, 1) := by decide +kernel
theorem dX11_drop_33 : decode cX11_drop 33 = .ok (.invokevirtual 132, 3) := by decide +kernel
theorem dX11_drop_36 : decode cX11_drop 36 = .ok (.invokevirtual 109, 3) := by decide +kernel
theorem dX11_drop_39 : decode cX11_drop 39 = .ok (.ireturn, 1) := by decide +kernel
theorem dX11_bell_0 : decode cX11_bell 0 = .ok (.iload_n 1, 1) := by decide +kernel
theorem dX11_bell_1 : decode cX11_bell 1 = .ok (.invokestatic 135, 3) := by decide +kernel
theorem dX11_bell_4 : decode cX11_bell 4 = .ok (.ifCond .eq 19, 3) := by decide +kernel
theorem dX11_bell_7 : decode cX11_bell 7 = .ok (.iload_n 2, 1) := by decide +kernel
theorem dX11_bell_8 : decode cX11_bell 8 = .ok (.ifCond .lt 15, 3) := by decide +kernel
theorem dX11_bell_11 : decode cX11_bell 11 = .ok (.iload_n 3, 1) := by decide +kernel
theorem dX11_bell_12 : decode cX11_bell 12 = .ok (.sipush 1440, 3) := by decide +kernel
theorem dX11_bell_15 : decode cX11_bell 15 = .ok (.if_icmp .gt 8, 3) := by decide +kernel
theorem dX11_bell_18 : decode cX11_bell 18 = .ok (.iload_n 3, 1) := by decide +kernel
theorem dX11_bell_19 : decode cX11_bell 19 = .ok (.iload_n 2, 1) := by decide +kernel
theorem dX11_bell_20 : decode cX11_bell 20 = .ok (.if_icmp .gt 6, 3) := by decide +kernel
theorem dX11_bell_23 : decode cX11_bell 23 = .ok (.ldc 100, 2) := by decide +kernel
theorem dX11_bell_25 : decode cX11_bell 25 = .ok (.ireturn, 1) := by decide +kernel
theorem dX11_bell_26 : decode cX11_bell 26 = .ok (.aload_n 0, 1) := by decide +kernel
theorem dX11_bell_27 : decode cX11_bell 27 = .ok (.getfield 19, 3) := by decide +kernel
theorem dX11_bell_30 : decode cX11_bell 30 = .ok (.getfield 138, 3) := by decide +kernel
theorem dX11_bell_33 : decode cX11_bell 33 = .ok (.iload_n 1, 1) := by decide +kernel
theorem dX11_bell_34 : decode cX11_bell 34 = .ok (.iload_n 2, 1) := by decide +kernel
theorem dX11_bell_35 : decode cX11_bell 35 = .ok (.iastore, 1) := by decide +kernel
theorem dX11_bell_36 : decode cX11_bell 36 = .ok (.aload_n 0, 1) := by decide +kernel
theorem dX11_bell_37 : decode cX11_bell 37 = .ok (.getfield 19, 3) := by decide +kernel
theorem dX11_bell_40 : decode cX11_bell 40 = .ok (.getfield 142, 3) := by decide +kernel
theorem dX11_bell_43 : decode cX11_bell 43 = .ok (.iload_n 1, 1) := by decide +kernel
theorem dX11_bell_44 : decode cX11_bell 44 = .ok (.iload_n 3, 1) := by decide +kernel
theorem dX11_bell_45 : decode cX11_bell 45 = .ok (.iastore, 1) := by decide +kernel
theorem dX11_bell_46 : decode cX11_bell 46 = .ok (.iconst 1, 1) := by decide +kernel
theorem dX11_bell_47 : decode cX11_bell 47 = .ok (.ireturn, 1) := by decide +kernel
theorem dX11_part_0 : decode cX11_part 0 = .ok (.iload_n 1, 1) := by decide +kernel
theorem dX11_part_1 : decode cX11_part 1 = .ok (.invokestatic 135, 3) := by decide +kernel
theorem dX11_part_4 : decode cX11_part 4 = .ok (.ifCond .eq 14, 3) := by decide +kernel
theorem dX11_part_7 : decode cX11_part 7 = .ok (.iload_n 2, 1) := by decide +kernel
theorem dX11_part_8 : decode cX11_part 8 = .ok (.iconst 1, 1) := by decide +kernel
theorem dX11_part_9 : decode cX11_part 9 = .ok (.sipush 300, 3) := by decide +kernel
theorem dX11_part_12 : decode cX11_part 12 = .ok (.invokestatic 96, 3) := by decide +kernel
theorem dX11_part_15 : decode cX11_part 15 = .ok (.ifCond .ne 6, 3) := by decide +kernel
theorem dX11_part_18 : decode cX11_part 18 = .ok (.ldc 100, 2) := by decide +kernel
theorem dX11_part_20 : decode cX11_part 20 = .ok (.ireturn, 1) := by decide +kernel
theorem dX11_part_21 : decode cX11_part 21 = .ok (.aload_n 0, 1) := by decide +kernel
theorem dX11_part_22 : decode cX11_part 22 = .ok (.getfield 19, 3) := by decide +kernel
theorem dX11_part_25 : decode cX11_part 25 = .ok (.getfield 145, 3) := by decide +kernel
theorem dX11_part_28 : decode cX11_part 28 = .ok (.iload_n 1, 1) := by decide +kernel
theorem dX11_part_29 : decode cX11_part 29 = .ok (.iaload, 1) := by decide +kernel
theorem dX11_part_30 : decode cX11_part 30 = .ok (.istore_n 3, 1) := by decide +kernel
theorem dX11_part_31 : decode cX11_part 31 = .ok (.aload_n 0, 1) := by decide +kernel
theorem dX11_part_32 : decode cX11_part 32 = .ok (.getfield 19, 3) := by decide +kernel
theorem dX11_part_35 : decode cX11_part 35 = .ok (.getfield 145, 3) := by decide +kernel
theorem dX11_part_38 : decode cX11_part 38 = .ok (.iload_n 1, 1) := by decide +kernel
theorem dX11_part_39 : decode cX11_part 39 = .ok (.iload_n 2, 1) := by decide +kernel
theorem dX11_part_40 : decode cX11_part 40 = .ok (.iastore, 1) := by decide +kernel
theorem dX11_part_41 : decode cX11_part 41 = .ok (.iload_n 3, 1) := by decide +kernel
theorem dX11_part_42 : decode cX11_part 42 = .ok (.ireturn, 1) := by decide +kernel
theorem dX11_stands_0 : decode cX11_stands 0 = .ok (.iload_n 1, 1) := by decide +kernel
theorem dX11_stands_1 : decode cX11_stands 1 = .ok (.invokestatic 135, 3) := by decide +kernel
theorem dX11_stands_4 : decode cX11_stands 4 = .ok (.ifCond .eq 11, 3) := by decide +kernel
theorem dX11_stands_7 : decode cX11_stands 7 = .ok (.iload_n 2, 1) := by decide +kernel
theorem dX11_stands_8 : decode cX11_stands 8 = .ok (.iload_n 3, 1) := by decide +kernel
theorem dX11_stands_9 : decode cX11_stands 9 = .ok (.invokestatic 148, 3) := by decide +kernel
theorem dX11_stands_12 : decode cX11_stands 12 = .ok (.ifCond .ne 6, 3) := by decide +kernel
theorem dX11_stands_15 : decode cX11_stands 15 = .ok (.ldc 100, 2) := by decide +kernel
theorem dX11_stands_17 : decode cX11_stands 17 = .ok (.ireturn, 1) := by decide +kernel
theorem dX11_stands_18 : decode cX11_stands 18 = .ok (.aload_n 0, 1) := by decide +kernel
theorem dX11_stands_19 : decode cX11_stands 19 = .ok (.getfield 19, 3) := by decide +kernel
theorem dX11_stands_22 : decode cX11_stands 22 = .ok (.getfield 152, 3) := by decide +kernel
theorem dX11_stands_25 : decode cX11_stands 25 = .ok (.iload_n 1, 1) := by decide +kernel
theorem dX11_stands_26 : decode cX11_stands 26 = .ok (.iload_n 2, 1) := by decide +kernel
theorem dX11_stands_27 : decode cX11_stands 27 = .ok (.iastore, 1) := by decide +kernel
theorem dX11_stands_28 : decode cX11_stands 28 = .ok (.aload_n 0, 1) := by decide +kernel
theorem dX11_stands_29 : decode cX11_stands 29 = .ok (.getfield 19, 3) := by decide +kernel
theorem dX11_stands_32 : decode cX11_stands 32 = .ok (.getfield 155, 3) := by decide +kernel
theorem dX11_stands_35 : decode cX11_stands 35 = .ok (.iload_n 1, 1) := by decide +kernel
theorem dX11_stands_36 : decode cX11_stands 36 = .ok (.iload_n 3, 1) := by decide +kernel
theorem dX11_stands_37 : decode cX11_stands 37 = .ok (.iastore, 1) := by decide +kernel
theorem dX11_stands_38 : decode cX11_stands 38 = .ok (.iconst 1, 1) := by decide +kernel
theorem dX11_stands_39 : decode cX11_stands 39 = .ok (.ireturn, 1) := by decide +kernel
theorem dX11_feed_0 : decode cX11_feed 0 = .ok (.iload_n 3, 1) := by decide +kernel
theorem dX11_feed_1 : decode cX11_feed 1 = .ok (.iconst 1, 1) := by decide +kernel
theorem dX11_feed_2 : decode cX11_feed 2 = .ok (.bipush 8, 2) := by decide +kernel
theorem dX11_feed_4 : decode cX11_feed 4 = .ok (.invokestatic 96, 3) := by decide +kernel
theorem dX11_feed_7 : decode cX11_feed 7 = .ok (.ifCond .ne 6, 3) := by decide +kernel
theorem dX11_feed_10 : decode cX11_feed 10 = .ok (.ldc 100, 2) := by decide +kernel
theorem dX11_feed_12 : decode cX11_feed 12 = .ok (.ireturn, 1) := by decide +kernel
theorem dX11_feed_13 : decode cX11_feed 13 = .ok (.aload_n 0, 1) := by decide +kernel
theorem dX11_feed_14 : decode cX11_feed 14 = .ok (.getfield 35, 3) := by decide +kernel
theorem dX11_feed_17 : decode cX11_feed 17 = .ok (.iload_n 3, 1) := by decide +kernel
theorem dX11_feed_18 : decode cX11_feed 18 = .ok (.invokevirtual 158, 3) := by decide +kernel
theorem dX11_feed_21 : decode cX11_feed 21 = .ok (.ifCond .ne 6, 3) := by decide +kernel
theorem dX11_feed_24 : decode cX11_feed 24 = .ok (.ldc 161, 2) := by decide +kernel
theorem dX11_feed_26 : decode cX11_feed 26 = .ok (.ireturn, 1) := by decide +kernel
theorem dX11_feed_27 : decode cX11_feed 27 = .ok (.aload_n 0, 1) := by decide +kernel
theorem dX11_feed_28 : decode cX11_feed 28 = .ok (.getfield 35, 3) := by decide +kernel
theorem dX11_feed_31 : decode cX11_feed 31 = .ok (.lload_n 1, 1) := by decide +kernel
theorem dX11_feed_32 : decode cX11_feed 32 = .ok (.iload_n 3, 1) := by decide +kernel
theorem dX11_feed_33 : decode cX11_feed 33 = .ok (.invokevirtual 162, 3) := by decide +kernel
theorem dX11_feed_36 : decode cX11_feed 36 = .ok (.aload_n 0, 1) := by decide +kernel
theorem dX11_feed_37 : decode cX11_feed 37 = .ok (.getfield 35, 3) := by decide +kernel
theorem dX11_feed_40 : decode cX11_feed 40 = .ok (.getfield 166, 3) := by decide +kernel
theorem dX11_feed_43 : decode cX11_feed 43 = .ok (.ireturn, 1) := by decide +kernel
theorem dX11_laws_0 : decode cX11_laws 0 = .ok (.aload_n 0, 1) := by decide +kernel
theorem dX11_laws_1 : decode cX11_laws 1 = .ok (.getfield 35, 3) := by decide +kernel
theorem dX11_laws_4 : decode cX11_laws 4 = .ok (.invokevirtual 170, 3) := by decide +kernel
theorem dX11_laws_7 : decode cX11_laws 7 = .ok (.ifCond .eq 11, 3) := by decide +kernel
theorem dX11_laws_10 : decode cX11_laws 10 = .ok (.aload_n 0, 1) := by decide +kernel
theorem dX11_laws_11 : decode cX11_laws 11 = .ok (.getfield 26, 3) := by decide +kernel
theorem dX11_laws_14 : decode cX11_laws 14 = .ok (.getfield 174, 3) := by decide +kernel
theorem dX11_laws_17 : decode cX11_laws 17 = .ok (.ireturn, 1) := by decide +kernel
theorem dX11_laws_18 : decode cX11_laws 18 = .ok (.ldc 177, 2) := by decide +kernel
theorem dX11_laws_20 : decode cX11_laws 20 = .ok (.aload_n 0, 1) := by decide +kernel
theorem dX11_laws_21 : decode cX11_laws 21 = .ok (.getfield 35, 3) := by decide +kernel
theorem dX11_laws_24 : decode cX11_laws 24 = .ok (.getfield 178, 3) := by decide +kernel
theorem dX11_laws_27 : decode cX11_laws 27 = .ok (.isub, 1) := by decide +kernel
theorem dX11_laws_28 : decode cX11_laws 28 = .ok (.ireturn, 1) := by decide +kernel
theorem dX11_fault_0 : decode cX11_fault 0 = .ok (.aload_n 0, 1) := by decide +kernel
theorem dX11_fault_1 : decode cX11_fault 1 = .ok (.getfield 35, 3) := by decide +kernel
theorem dX11_fault_4 : decode cX11_fault 4 = .ok (.getfield 181, 3) := by decide +kernel
theorem dX11_fault_7 : decode cX11_fault 7 = .ok (.ireturn, 1) := by decide +kernel
theorem dX11_holds_0 : decode cX11_holds 0 = .ok (.iload_n 1, 1) := by decide +kernel
theorem dX11_holds_1 : decode cX11_holds 1 = .ok (.invokestatic 184, 3) := by decide +kernel
theorem dX11_holds_4 : decode cX11_holds 4 = .ok (.ifCond .eq 10, 3) := by decide +kernel
theorem dX11_holds_7 : decode cX11_holds 7 = .ok (.iload_n 2, 1) := by decide +kernel
theorem dX11_holds_8 : decode cX11_holds 8 = .ok (.invokestatic 187, 3) := by decide +kernel
theorem dX11_holds_11 : decode cX11_holds 11 = .ok (.ifCond .ne 6, 3) := by decide +kernel
theorem dX11_holds_14 : decode cX11_holds 14 = .ok (.ldc 100, 2) := by decide +kernel
theorem dX11_holds_16 : decode cX11_holds 16 = .ok (.ireturn, 1) := by decide +kernel
theorem dX11_holds_17 : decode cX11_holds 17 = .ok (.aload_n 0, 1) := by decide +kernel
theorem dX11_holds_18 : decode cX11_holds 18 = .ok (.getfield 26, 3) := by decide +kernel
theorem dX11_holds_21 : decode cX11_holds 21 = .ok (.iload_n 1, 1) := by decide +kernel
theorem dX11_holds_22 : decode cX11_holds 22 = .ok (.iload_n 2, 1) := by decide +kernel
theorem dX11_holds_23 : decode cX11_holds 23 = .ok (.invokevirtual 190, 3) := by decide +kernel
theorem dX11_holds_26 : decode cX11_holds 26 = .ok (.ireturn, 1) := by decide +kernel
theorem dX11_cart_0 : decode cX11_cart 0 = .ok (.iload_n 1, 1) := by decide +kernel
theorem dX11_cart_1 : decode cX11_cart 1 = .ok (.invokestatic 92, 3) := by decide +kernel
theorem dX11_cart_4 : decode cX11_cart 4 = .ok (.ifCond .ne 6, 3) := by decide +kernel
theorem dX11_cart_7 : decode cX11_cart 7 = .ok (.ldc 100, 2) := by decide +kernel
theorem dX11_cart_9 : decode cX11_cart 9 = .ok (.ireturn, 1) := by decide +kernel
theorem dX11_cart_10 : decode cX11_cart 10 = .ok (.aload_n 0, 1) := by decide +kernel
theorem dX11_cart_11 : decode cX11_cart 11 = .ok (.getfield 44, 3) := by decide +kernel
theorem dX11_cart_14 : decode cX11_cart 14 = .ok (.getfield 194, 3) := by decide +kernel
theorem dX11_cart_17 : decode cX11_cart 17 = .ok (.bipush 16, 2) := by decide +kernel
theorem dX11_cart_19 : decode cX11_cart 19 = .ok (.if_icmp .lt 6, 3) := by decide +kernel
theorem dX11_cart_22 : decode cX11_cart 22 = .ok (.ldc 161, 2) := by decide +kernel
theorem dX11_cart_24 : decode cX11_cart 24 = .ok (.ireturn, 1) := by decide +kernel
theorem dX11_cart_25 : decode cX11_cart 25 = .ok (.aload_n 0, 1) := by decide +kernel
theorem dX11_cart_26 : decode cX11_cart 26 = .ok (.iload_n 1, 1) := by decide +kernel
theorem dX11_cart_27 : decode cX11_cart 27 = .ok (.iload_n 2, 1) := by decide +kernel
theorem dX11_cart_28 : decode cX11_cart 28 = .ok (.bipush 9, 2) := by decide +kernel
theorem dX11_cart_30 : decode cX11_cart 30 = .ok (.invokevirtual 112, 3) := by decide +kernel
theorem dX11_cart_33 : decode cX11_cart 33 = .ok (.istore_n 3, 1) := by decide +kernel
theorem dX11_cart_34 : decode cX11_cart 34 = .ok (.iload_n 3, 1) := by decide +kernel
theorem dX11_cart_35 : decode cX11_cart 35 = .ok (.ifCond .eq 9, 3) := by decide +kernel
theorem dX11_cart_38 : decode cX11_cart 38 = .ok (.aload_n 0, 1) := by decide +kernel
theorem dX11_cart_39 : decode cX11_cart 39 = .ok (.iload_n 3, 1) := by decide +kernel
theorem dX11_cart_40 : decode cX11_cart 40 = .ok (.invokevirtual 101, 3) := by decide +kernel
theorem dX11_cart_43 : decode cX11_cart 43 = .ok (.ireturn, 1) := by decide +kernel
theorem dX11_cart_44 : decode cX11_cart 44 = .ok (.iconst 0, 1) := by decide +kernel
theorem dX11_cart_45 : decode cX11_cart 45 = .ok (.istore 4, 2) := by decide +kernel
theorem dX11_cart_47 : decode cX11_cart 47 = .ok (.iload 4, 2) := by decide +kernel
theorem dX11_cart_49 : decode cX11_cart 49 = .ok (.bipush 9, 2) := by decide +kernel
theorem dX11_cart_51 : decode cX11_cart 51 = .ok (.if_icmp .ge 42, 3) := by decide +kernel
theorem dX11_cart_54 : decode cX11_cart 54 = .ok (.aload_n 0, 1) := by decide +kernel
theorem dX11_cart_55 : decode cX11_cart 55 = .ok (.getfield 10, 3) := by decide +kernel
theorem dX11_cart_58 : decode cX11_cart 58 = .ok (.iload_n 1, 1) := by decide +kernel
theorem dX11_cart_59 : decode cX11_cart 59 = .ok (.iload_n 2, 1) := by decide +kernel
theorem dX11_cart_60 : decode cX11_cart 60 = .ok (.iload 4, 2) := by decide +kernel
theorem dX11_cart_62 : decode cX11_cart 62 = .ok (.iadd, 1) := by decide +kernel
theorem dX11_cart_63 : decode cX11_cart 63 = .ok (.invokevirtual 196, 3) := by decide +kernel
theorem dX11_cart_66 : decode cX11_cart 66 = .ok (.iconst 0, 1) := by decide +kernel
theorem dX11_cart_67 : decode cX11_cart 67 = .ok (.iload 4, 2) := by decide +kernel
theorem dX11_cart_69 : decode cX11_cart 69 = .ok (.ifCond .ne 7, 3) := by decide +kernel
theorem dX11_cart_72 : decode cX11_cart 72 = .ok (.iconst 4, 1) := by decide +kernel
theorem dX11_cart_73 : decode cX11_cart 73 = .ok (.goto 5, 3) := by decide +kernel
theorem dX11_cart_76 : decode cX11_cart 76 = .ok (.bipush 99, 2) := by decide +kernel
theorem dX11_cart_78 : decode cX11_cart 78 = .ok (.invokestatic 96, 3) := by decide +kernel
theorem dX11_cart_81 : decode cX11_cart 81 = .ok (.ifCond .ne 6, 3) := by decide +kernel
theorem dX11_cart_84 : decode cX11_cart 84 = .ok (.ldc 100, 2) := by decide +kernel
theorem dX11_cart_86 : decode cX11_cart 86 = .ok (.ireturn, 1) := by decide +kernel
theorem dX11_cart_87 : decode cX11_cart 87 = .ok (.iinc 4 1, 3) := by decide +kernel
theorem dX11_cart_90 : decode cX11_cart 90 = .ok (.goto (-43), 3) := by decide +kernel
theorem dX11_cart_93 : decode cX11_cart 93 = .ok (.aload_n 0, 1) := by decide +kernel
theorem dX11_cart_94 : decode cX11_cart 94 = .ok (.aload_n 0, 1) := by decide +kernel
theorem dX11_cart_95 : decode cX11_cart 95 = .ok (.getfield 44, 3) := by decide +kernel
theorem dX11_cart_98 : decode cX11_cart 98 = .ok (.aload_n 0, 1) := by decide +kernel
theorem dX11_cart_99 : decode cX11_cart 99 = .ok (.getfield 10, 3) := by decide +kernel
theorem dX11_cart_102 : decode cX11_cart 102 = .ok (.iload_n 1, 1) := by decide +kernel
theorem dX11_cart_103 : decode cX11_cart 103 = .ok (.iload_n 2, 1) := by decide +kernel
theorem dX11_cart_104 : decode cX11_cart 104 = .ok (.invokevirtual 199, 3) := by decide +kernel
theorem dX11_cart_107 : decode cX11_cart 107 = .ok (.invokevirtual 109, 3) := by decide +kernel
theorem dX11_cart_110 : decode cX11_cart 110 = .ok (.ireturn, 1) := by decide +kernel
theorem dX11_owed_0 : decode cX11_owed 0 = .ok (.aload_n 0, 1) := by decide +kernel
theorem dX11_owed_1 : decode cX11_owed 1 = .ok (.iload_n 1, 1) := by decide +kernel
theorem dX11_owed_2 : decode cX11_owed 2 = .ok (.invokevirtual 203, 3) := by decide +kernel
theorem dX11_owed_5 : decode cX11_owed 5 = .ok (.ifCond .eq 10, 3) := by decide +kernel
theorem dX11_owed_8 : decode cX11_owed 8 = .ok (.iload_n 3, 1) := by decide +kernel
theorem dX11_owed_9 : decode cX11_owed 9 = .ok (.invokestatic 184, 3) := by decide +kernel
theorem dX11_owed_12 : decode cX11_owed 12 = .ok (.ifCond .ne 6, 3) := by decide +kernel
theorem dX11_owed_15 : decode cX11_owed 15 = .ok (.ldc 100, 2) := by decide +kernel
theorem dX11_owed_17 : decode cX11_owed 17 = .ok (.ireturn, 1) := by decide +kernel
theorem dX11_owed_18 : decode cX11_owed 18 = .ok (.iload_n 2, 1) := by decide +kernel
theorem dX11_owed_19 : decode cX11_owed 19 = .ok (.ldc 206, 2) := by decide +kernel
theorem dX11_owed_21 : decode cX11_owed 21 = .ok (.if_icmp .ne 13, 3) := by decide +kernel
theorem dX11_owed_24 : decode cX11_owed 24 = .ok (.aload_n 0, 1) := by decide +kernel
theorem dX11_owed_25 : decode cX11_owed 25 = .ok (.getfield 44, 3) := by decide +kernel
theorem dX11_owed_28 : decode cX11_owed 28 = .ok (.iload_n 1, 1) := by decide +kernel
theorem dX11_owed_29 : decode cX11_owed 29 = .ok (.iload_n 3, 1) := by decide +kernel
theorem dX11_owed_30 : decode cX11_owed 30 = .ok (.invokevirtual 207, 3) := by decide +kernel
theorem dX11_owed_33 : decode cX11_owed 33 = .ok (.ireturn, 1) := by decide +kernel
theorem dX11_owed_34 : decode cX11_owed 34 = .ok (.iload_n 2, 1) := by decide +kernel
theorem dX11_owed_35 : decode cX11_owed 35 = .ok (.invokestatic 135, 3) := by decide +kernel
theorem dX11_owed_38 : decode cX11_owed 38 = .ok (.ifCond .eq 16, 3) := by decide +kernel
theorem dX11_owed_41 : decode cX11_owed 41 = .ok (.aload_n 0, 1) := by decide +kernel
theorem dX11_owed_42 : decode cX11_owed 42 = .ok (.getfield 44, 3) := by decide +kernel
theorem dX11_owed_45 : decode cX11_owed 45 = .ok (.iload_n 1, 1) := by decide +kernel
theorem dX11_owed_46 : decode cX11_owed 46 = .ok (.iload_n 2, 1) := by decide +kernel
theorem dX11_owed_47 : decode cX11_owed 47 = .ok (.iload_n 3, 1) := by decide +kernel
theorem dX11_owed_48 : decode cX11_owed 48 = .ok (.invokevirtual 210, 3) := by decide +kernel
theorem dX11_owed_51 : decode cX11_owed 51 = .ok (.goto 5, 3) := by decide +kernel
theorem dX11_owed_54 : decode cX11_owed 54 = .ok (.ldc 100, 2) := by decide +kernel
theorem dX11_owed_56 : decode cX11_owed 56 = .ok (.ireturn, 1) := by decide +kernel
theorem dX11_pass_0 : decode cX11_pass 0 = .ok (.aload_n 0, 1) := by decide +kernel
theorem dX11_pass_1 : decode cX11_pass 1 = .ok (.iload_n 1, 1) := by decide +kernel
theorem dX11_pass_2 : decode cX11_pass 2 = .ok (.invokevirtual 203, 3) := by decide +kernel
theorem dX11_pass_5 : decode cX11_pass 5 = .ok (.ifCond .eq 19, 3) := by decide +kernel
theorem dX11_pass_8 : decode cX11_pass 8 = .ok (.iload_n 2, 1) := by decide +kernel
theorem dX11_pass_9 : decode cX11_pass 9 = .ok (.iconst 0, 1) := by decide +kernel
theorem dX11_pass_10 : decode cX11_pass 10 = .ok (.iconst 1, 1) := by decide +kernel
theorem dX11_pass_11 : decode cX11_pass 11 = .ok (.invokestatic 96, 3) := by decide +kernel
theorem dX11_pass_14 : decode cX11_pass 14 = .ok (.ifCond .eq 10, 3) := by decide +kernel
theorem dX11_pass_17 : decode cX11_pass 17 = .ok (.iload_n 3, 1) := by decide +kernel
theorem dX11_pass_18 : decode cX11_pass 18 = .ok (.invokestatic 135, 3) := by decide +kernel
theorem dX11_pass_21 : decode cX11_pass 21 = .ok (.ifCond .ne 6, 3) := by decide +kernel
theorem dX11_pass_24 : decode cX11_pass 24 = .ok (.ldc 100, 2) := by decide +kernel
theorem dX11_pass_26 : decode cX11_pass 26 = .ok (.ireturn, 1) := by decide +kernel
theorem dX11_pass_27 : decode cX11_pass 27 = .ok (.iload 4, 2) := by decide +kernel
theorem dX11_pass_29 : decode cX11_pass 29 = .ok (.invokestatic 184, 3) := by decide +kernel
theorem dX11_pass_32 : decode cX11_pass 32 = .ok (.ifCond .eq 22, 3) := by decide +kernel
theorem dX11_pass_35 : decode cX11_pass 35 = .ok (.iload 5, 2) := by decide +kernel
theorem dX11_pass_37 : decode cX11_pass 37 = .ok (.invokestatic 213, 3) := by decide +kernel
theorem dX11_pass_40 : decode cX11_pass 40 = .ok (.ifCond .eq 14, 3) := by decide +kernel
theorem dX11_pass_43 : decode cX11_pass 43 = .ok (.iload 6, 2) := by decide +kernel
theorem dX11_pass_45 : decode cX11_pass 45 = .ok (.iconst 0, 1) := by decide +kernel
theorem dX11_pass_46 : decode cX11_pass 46 = .ok (.ldc 216, 2) := by decide +kernel
theorem dX11_pass_48 : decode cX11_pass 48 = .ok (.invokestatic 96, 3) := by decide +kernel
theorem dX11_pass_51 : decode cX11_pass 51 = .ok (.ifCond .ne 6, 3) := by decide +kernel
theorem dX11_pass_54 : decode cX11_pass 54 = .ok (.ldc 100, 2) := by decide +kernel
theorem dX11_pass_56 : decode cX11_pass 56 = .ok (.ireturn, 1) := by decide +kernel
theorem dX11_pass_57 : decode cX11_pass 57 = .ok (.aload_n 0, 1) := by decide +kernel
theorem dX11_pass_58 : decode cX11_pass 58 = .ok (.getfield 44, 3) := by decide +kernel
theorem dX11_pass_61 : decode cX11_pass 61 = .ok (.getfield 217, 3) := by decide +kernel
theorem dX11_pass_64 : decode cX11_pass 64 = .ok (.bipush 60, 2) := by decide +kernel
theorem dX11_pass_66 : decode cX11_pass 66 = .ok (.if_icmp .lt 6, 3) := by decide +kernel
theorem dX11_pass_69 : decode cX11_pass 69 = .ok (.ldc 161, 2) := by decide +kernel
theorem dX11_pass_71 : decode cX11_pass 71 = .ok (.ireturn, 1) := by decide +kernel
theorem dX11_pass_72 : decode cX11_pass 72 = .ok (.aload_n 0, 1) := by decide +kernel
theorem dX11_pass_73 : decode cX11_pass 73 = .ok (.getfield 44, 3) := by decide +kernel
theorem dX11_pass_76 : decode cX11_pass 76 = .ok (.iload_n 1, 1) := by decide +kernel
theorem dX11_pass_77 : decode cX11_pass 77 = .ok (.iload_n 2, 1) := by decide +kernel
theorem dX11_pass_78 : decode cX11_pass 78 = .ok (.iload_n 3, 1) := by decide +kernel
theorem dX11_pass_79 : decode cX11_pass 79 = .ok (.iload 4, 2) := by decide +kernel
theorem dX11_pass_81 : decode cX11_pass 81 = .ok (.iload 5, 2) := by decide +kernel
theorem dX11_pass_83 : decode cX11_pass 83 = .ok (.iload 6, 2) := by decide +kernel
theorem dX11_pass_85 : decode cX11_pass 85 = .ok (.invokevirtual 220, 3) := by decide +kernel
theorem dX11_pass_88 : decode cX11_pass 88 = .ok (.ireturn, 1) := by decide +kernel
theorem dX11_agree_0 : decode cX11_agree 0 = .ok (.iload_n 1, 1) := by decide +kernel
theorem dX11_agree_1 : decode cX11_agree 1 = .ok (.tableswitch 51 0 2 #[27, 35, 43], 27) := by decide +kernel
theorem dX11_agree_28 : decode cX11_agree 28 = .ok (.aload_n 0, 1) := by decide +kernel
theorem dX11_agree_29 : decode cX11_agree 29 = .ok (.getfield 44, 3) := by decide +kernel
theorem dX11_agree_32 : decode cX11_agree 32 = .ok (.invokevirtual 224, 3) := by decide +kernel
theorem dX11_agree_35 : decode cX11_agree 35 = .ok (.ireturn, 1) := by decide +kernel
theorem dX11_agree_36 : decode cX11_agree 36 = .ok (.aload_n 0, 1) := by decide +kernel
theorem dX11_agree_37 : decode cX11_agree 37 = .ok (.getfield 44, 3) := by decide +kernel
theorem dX11_agree_40 : decode cX11_agree 40 = .ok (.invokevirtual 228, 3) := by decide +kernel
theorem dX11_agree_43 : decode cX11_agree 43 = .ok (.ireturn, 1) := by decide +kernel
theorem dX11_agree_44 : decode cX11_agree 44 = .ok (.aload_n 0, 1) := by decide +kernel
theorem dX11_agree_45 : decode cX11_agree 45 = .ok (.getfield 44, 3) := by decide +kernel
theorem dX11_agree_48 : decode cX11_agree 48 = .ok (.invokevirtual 231, 3) := by decide +kernel
theorem dX11_agree_51 : decode cX11_agree 51 = .ok (.ireturn, 1) := by decide +kernel
theorem dX11_agree_52 : decode cX11_agree 52 = .ok (.ldc 100, 2) := by decide +kernel
theorem dX11_agree_54 : decode cX11_agree 54 = .ok (.ireturn, 1) := by decide +kernel
theorem dX11_amiss_0 : decode cX11_amiss 0 = .ok (.iload_n 1, 1) := by decide +kernel
theorem dX11_amiss_1 : decode cX11_amiss 1 = .ok (.ldc 206, 2) := by decide +kernel
theorem dX11_amiss_3 : decode cX11_amiss 3 = .ok (.if_icmp .eq 10, 3) := by decide +kernel
theorem dX11_amiss_6 : decode cX11_amiss 6 = .ok (.iload_n 1, 1) := by decide +kernel
theorem dX11_amiss_7 : decode cX11_amiss 7 = .ok (.invokestatic 135, 3) := by decide +kernel
theorem dX11_amiss_10 : decode cX11_amiss 10 = .ok (.ifCond .eq 11, 3) := by decide +kernel
theorem dX11_amiss_13 : decode cX11_amiss 13 = .ok (.iload_n 2, 1) := by decide +kernel
theorem dX11_amiss_14 : decode cX11_amiss 14 = .ok (.iload_n 3, 1) := by decide +kernel
theorem dX11_amiss_15 : decode cX11_amiss 15 = .ok (.invokestatic 234, 3) := by decide +kernel
theorem dX11_amiss_18 : decode cX11_amiss 18 = .ok (.ifCond .ne 6, 3) := by decide +kernel
theorem dX11_amiss_21 : decode cX11_amiss 21 = .ok (.ldc 100, 2) := by decide +kernel
theorem dX11_amiss_23 : decode cX11_amiss 23 = .ok (.ireturn, 1) := by decide +kernel
theorem dX11_amiss_24 : decode cX11_amiss 24 = .ok (.aload_n 0, 1) := by decide +kernel
theorem dX11_amiss_25 : decode cX11_amiss 25 = .ok (.getfield 44, 3) := by decide +kernel
theorem dX11_amiss_28 : decode cX11_amiss 28 = .ok (.iload_n 1, 1) := by decide +kernel
theorem dX11_amiss_29 : decode cX11_amiss 29 = .ok (.iload_n 2, 1) := by decide +kernel
theorem dX11_amiss_30 : decode cX11_amiss 30 = .ok (.iload_n 3, 1) := by decide +kernel
theorem dX11_amiss_31 : decode cX11_amiss 31 = .ok (.invokevirtual 237, 3) := by decide +kernel
theorem dX11_amiss_34 : decode cX11_amiss 34 = .ok (.ireturn, 1) := by decide +kernel
theorem dX11_road_0 : decode cX11_road 0 = .ok (.iload_n 1, 1) := by decide +kernel
theorem dX11_road_1 : decode cX11_road 1 = .ok (.invokestatic 240, 3) := by decide +kernel
theorem dX11_road_4 : decode cX11_road 4 = .ok (.ifCond .eq 31, 3) := by decide +kernel
theorem dX11_road_7 : decode cX11_road 7 = .ok (.iload_n 2, 1) := by decide +kernel
theorem dX11_road_8 : decode cX11_road 8 = .ok (.ldc 206, 2) := by decide +kernel
theorem dX11_road_10 : decode cX11_road 10 = .ok (.if_icmp .eq 10, 3) := by decide +kernel
theorem dX11_road_13 : decode cX11_road 13 = .ok (.iload_n 2, 1) := by decide +kernel
theorem dX11_road_14 : decode cX11_road 14 = .ok (.invokestatic 240, 3) := by decide +kernel
theorem dX11_road_17 : decode cX11_road 17 = .ok (.ifCond .eq 18, 3) := by decide +kernel
theorem dX11_road_20 : decode cX11_road 20 = .ok (.iload_n 1, 1) := by decide +kernel
theorem dX11_road_21 : decode cX11_road 21 = .ok (.iload_n 2, 1) := by decide +kernel
theorem dX11_road_22 : decode cX11_road 22 = .ok (.if_icmp .eq 13, 3) := by decide +kernel
theorem dX11_road_25 : decode cX11_road 25 = .ok (.iload_n 3, 1) := by decide +kernel
theorem dX11_road_26 : decode cX11_road 26 = .ok (.iconst 1, 1) := by decide +kernel
theorem dX11_road_27 : decode cX11_road 27 = .ok (.bipush 60, 2) := by decide +kernel
theorem dX11_road_29 : decode cX11_road 29 = .ok (.invokestatic 96, 3) := by decide +kernel
theorem dX11_road_32 : decode cX11_road 32 = .ok (.ifCond .ne 6, 3) := by decide +kernel
theorem dX11_road_35 : decode cX11_road 35 = .ok (.ldc 100, 2) := by decide +kernel
theorem dX11_road_37 : decode cX11_road 37 = .ok (.ireturn, 1) := by decide +kernel
theorem dX11_road_38 : decode cX11_road 38 = .ok (.iload_n 2, 1) := by decide +kernel
theorem dX11_road_39 : decode cX11_road 39 = .ok (.ldc 206, 2) := by decide +kernel
theorem dX11_road_41 : decode cX11_road 41 = .ok (.if_icmp .ne 15, 3) := by decide +kernel
theorem dX11_road_44 : decode cX11_road 44 = .ok (.aload_n 0, 1) := by decide +kernel
theorem dX11_road_45 : decode cX11_road 45 = .ok (.getfield 51, 3) := by decide +kernel
theorem dX11_road_48 : decode cX11_road 48 = .ok (.iload_n 1, 1) := by decide +kernel
theorem dX11_road_49 : decode cX11_road 49 = .ok (.iload_n 3, 1) := by decide +kernel
theorem dX11_road_50 : decode cX11_road 50 = .ok (.invokevirtual 243, 3) := by decide +kernel
theorem dX11_road_53 : decode cX11_road 53 = .ok (.goto 13, 3) := by decide +kernel
theorem dX11_road_56 : decode cX11_road 56 = .ok (.aload_n 0, 1) := by decide +kernel
theorem dX11_road_57 : decode cX11_road 57 = .ok (.getfield 51, 3) := by decide +kernel
theorem dX11_road_60 : decode cX11_road 60 = .ok (.iload_n 1, 1) := by decide +kernel
theorem dX11_road_61 : decode cX11_road 61 = .ok (.iload_n 2, 1) := by decide +kernel
theorem dX11_road_62 : decode cX11_road 62 = .ok (.iload_n 3, 1) := by decide +kernel
theorem dX11_road_63 : decode cX11_road 63 = .ok (.invokevirtual 246, 3) := by decide +kernel
theorem dX11_road_66 : decode cX11_road 66 = .ok (.ireturn, 1) := by decide +kernel
theorem dX11_sick_0 : decode cX11_sick 0 = .ok (.iload_n 1, 1) := by decide +kernel
theorem dX11_sick_1 : decode cX11_sick 1 = .ok (.invokestatic 240, 3) := by decide +kernel
theorem dX11_sick_4 : decode cX11_sick 4 = .ok (.ifCond .eq 11, 3) := by decide +kernel
theorem dX11_sick_7 : decode cX11_sick 7 = .ok (.iload_n 2, 1) := by decide +kernel
theorem dX11_sick_8 : decode cX11_sick 8 = .ok (.iload_n 3, 1) := by decide +kernel
theorem dX11_sick_9 : decode cX11_sick 9 = .ok (.invokestatic 234, 3) := by decide +kernel
theorem dX11_sick_12 : decode cX11_sick 12 = .ok (.ifCond .ne 6, 3) := by decide +kernel
theorem dX11_sick_15 : decode cX11_sick 15 = .ok (.ldc 100, 2) := by decide +kernel
theorem dX11_sick_17 : decode cX11_sick 17 = .ok (.ireturn, 1) := by decide +kernel
theorem dX11_sick_18 : decode cX11_sick 18 = .ok (.aload_n 0, 1) := by decide +kernel
theorem dX11_sick_19 : decode cX11_sick 19 = .ok (.getfield 51, 3) := by decide +kernel
theorem dX11_sick_22 : decode cX11_sick 22 = .ok (.getfield 249, 3) := by decide +kernel
theorem dX11_sick_25 : decode cX11_sick 25 = .ok (.bipush 20, 2) := by decide +kernel
theorem dX11_sick_27 : decode cX11_sick 27 = .ok (.if_icmp .lt 6, 3) := by decide +kernel
theorem dX11_sick_30 : decode cX11_sick 30 = .ok (.ldc 161, 2) := by decide +kernel
theorem dX11_sick_32 : decode cX11_sick 32 = .ok (.ireturn, 1) := by decide +kernel
theorem dX11_sick_33 : decode cX11_sick 33 = .ok (.aload_n 0, 1) := by decide +kernel
theorem dX11_sick_34 : decode cX11_sick 34 = .ok (.getfield 51, 3) := by decide +kernel
theorem dX11_sick_37 : decode cX11_sick 37 = .ok (.iload_n 1, 1) := by decide +kernel
theorem dX11_sick_38 : decode cX11_sick 38 = .ok (.iload_n 2, 1) := by decide +kernel
theorem dX11_sick_39 : decode cX11_sick 39 = .ok (.iload_n 3, 1) := by decide +kernel
theorem dX11_sick_40 : decode cX11_sick 40 = .ok (.invokevirtual 252, 3) := by decide +kernel
theorem dX11_sick_43 : decode cX11_sick 43 = .ok (.ireturn, 1) := by decide +kernel
theorem dX11_seal_0 : decode cX11_seal 0 = .ok (.iload_n 1, 1) := by decide +kernel
theorem dX11_seal_1 : decode cX11_seal 1 = .ok (.invokestatic 92, 3) := by decide +kernel
theorem dX11_seal_4 : decode cX11_seal 4 = .ok (.ifCond .ne 6, 3) := by decide +kernel
theorem dX11_seal_7 : decode cX11_seal 7 = .ok (.ldc 100, 2) := by decide +kernel
theorem dX11_seal_9 : decode cX11_seal 9 = .ok (.ireturn, 1) := by decide +kernel
theorem dX11_seal_10 : decode cX11_seal 10 = .ok (.aload_n 0, 1) := by decide +kernel
theorem dX11_seal_11 : decode cX11_seal 11 = .ok (.getfield 51, 3) := by decide +kernel
theorem dX11_seal_14 : decode cX11_seal 14 = .ok (.getfield 255, 3) := by decide +kernel
theorem dX11_seal_17 : decode cX11_seal 17 = .ok (.bipush 16, 2) := by decide +kernel
theorem dX11_seal_19 : decode cX11_seal 19 = .ok (.if_icmp .lt 6, 3) := by decide +kernel
theorem dX11_seal_22 : decode cX11_seal 22 = .ok (.ldc 161, 2) := by decide +kernel
theorem dX11_seal_24 : decode cX11_seal 24 = .ok (.ireturn, 1) := by decide +kernel
theorem dX11_seal_25 : decode cX11_seal 25 = .ok (.aload_n 0, 1) := by decide +kernel
theorem dX11_seal_26 : decode cX11_seal 26 = .ok (.iload_n 1, 1) := by decide +kernel
theorem dX11_seal_27 : decode cX11_seal 27 = .ok (.iload_n 2, 1) := by decide +kernel
theorem dX11_seal_28 : decode cX11_seal 28 = .ok (.bipush 7, 2) := by decide +kernel
theorem dX11_seal_30 : decode cX11_seal 30 = .ok (.invokevirtual 112, 3) := by decide +kernel
theorem dX11_seal_33 : decode cX11_seal 33 = .ok (.istore_n 3, 1) := by decide +kernel
theorem dX11_seal_34 : decode cX11_seal 34 = .ok (.iload_n 3, 1) := by decide +kernel
theorem dX11_seal_35 : decode cX11_seal 35 = .ok (.ifCond .eq 9, 3) := by decide +kernel
theorem dX11_seal_38 : decode cX11_seal 38 = .ok (.aload_n 0, 1) := by decide +kernel
theorem dX11_seal_39 : decode cX11_seal 39 = .ok (.iload_n 3, 1) := by decide +kernel
theorem dX11_seal_40 : decode cX11_seal 40 = .ok (.invokevirtual 101, 3) := by decide +kernel
theorem dX11_seal_43 : decode cX11_seal 43 = .ok (.ireturn, 1) := by decide +kernel
theorem dX11_seal_44 : decode cX11_seal 44 = .ok (.iconst 0, 1) := by decide +kernel
theorem dX11_seal_45 : decode cX11_seal 45 = .ok (.istore 4, 2) := by decide +kernel
theorem dX11_seal_47 : decode cX11_seal 47 = .ok (.iload 4, 2) := by decide +kernel
theorem dX11_seal_49 : decode cX11_seal 49 = .ok (.bipush 7, 2) := by decide +kernel
theorem dX11_seal_51 : decode cX11_seal 51 = .ok (.if_icmp .ge 62, 3) := by decide +kernel
theorem dX11_seal_54 : decode cX11_seal 54 = .ok (.iload 4, 2) := by decide +kernel
theorem dX11_seal_56 : decode cX11_seal 56 = .ok (.bipush 6, 2) := by decide +kernel
theorem dX11_seal_58 : decode cX11_seal 58 = .ok (.if_icmp .ne 17, 3) := by decide +kernel
theorem dX11_seal_61 : decode cX11_seal 61 = .ok (.aload_n 0, 1) := by decide +kernel
theorem dX11_seal_62 : decode cX11_seal 62 = .ok (.getfield 10, 3) := by decide +kernel
theorem dX11_seal_65 : decode cX11_seal 65 = .ok (.iload_n 1, 1) := by decide +kernel
theorem dX11_seal_66 : decode cX11_seal 66 = .ok (.iload_n 2, 1) := by decide +kernel
theorem dX11_seal_67 : decode cX11_seal 67 = .ok (.iconst 5, 1) := by decide +kernel
theorem dX11_seal_68 : decode cX11_seal 68 = .ok (.iadd, 1) := by decide +kernel
theorem dX11_seal_69 : decode cX11_seal 69 = .ok (.invokevirtual 196, 3) := by decide +kernel
theorem dX11_seal_72 : decode cX11_seal 72 = .ok (.goto 4, 3) := by decide +kernel
theorem dX11_seal_75 : decode cX11_seal 75 = .ok (.iconst 0, 1) := by decide +kernel
theorem dX11_seal_76 : decode cX11_seal 76 = .ok (.istore 5, 2) := by decide +kernel
theorem dX11_seal_78 : decode cX11_seal 78 = .ok (.aload_n 0, 1) := by decide +kernel
theorem dX11_seal_79 : decode cX11_seal 79 = .ok (.getfield 10, 3) := by decide +kernel
theorem dX11_seal_82 : decode cX11_seal 82 = .ok (.iload_n 1, 1) := by decide +kernel
theorem dX11_seal_83 : decode cX11_seal 83 = .ok (.iload_n 2, 1) := by decide +kernel
theorem dX11_seal_84 : decode cX11_seal 84 = .ok (.iload 4, 2) := by decide +kernel
theorem dX11_seal_86 : decode cX11_seal 86 = .ok (.iadd, 1) := by decide +kernel
theorem dX11_seal_87 : decode cX11_seal 87 = .ok (.invokevirtual 196, 3) := by decide +kernel
theorem dX11_seal_90 : decode cX11_seal 90 = .ok (.iload 5, 2) := by decide +kernel
theorem dX11_seal_92 : decode cX11_seal 92 = .ok (.getstatic 258, 3) := by decide +kernel
theorem dX11_seal_95 : decode cX11_seal 95 = .ok (.iload 4, 2) := by decide +kernel
theorem dX11_seal_97 : decode cX11_seal 97 = .ok (.iaload, 1) := by decide +kernel
theorem dX11_seal_98 : decode cX11_seal 98 = .ok (.invokestatic 96, 3) := by decide +kernel
theorem dX11_seal_101 : decode cX11_seal 101 = .ok (.ifCond .ne 6, 3) := by decide +kernel
theorem dX11_seal_104 : decode cX11_seal 104 = .ok (.ldc 100, 2) := by decide +kernel
theorem dX11_seal_106 : decode cX11_seal 106 = .ok (.ireturn, 1) := by decide +kernel
theorem dX11_seal_107 : decode cX11_seal 107 = .ok (.iinc 4 1, 3) := by decide +kernel
theorem dX11_seal_110 : decode cX11_seal 110 = .ok (.goto (-63), 3) := by decide +kernel
theorem dX11_seal_113 : decode cX11_seal 113 = .ok (.aload_n 0, 1) := by decide +kernel
theorem dX11_seal_114 : decode cX11_seal 114 = .ok (.aload_n 0, 1) := by decide +kernel
theorem dX11_seal_115 : decode cX11_seal 115 = .ok (.getfield 51, 3) := by decide +kernel
theorem dX11_seal_118 : decode cX11_seal 118 = .ok (.aload_n 0, 1) := by decide +kernel
theorem dX11_seal_119 : decode cX11_seal 119 = .ok (.getfield 10, 3) := by decide +kernel
theorem dX11_seal_122 : decode cX11_seal 122 = .ok (.iload_n 1, 1) := by decide +kernel
theorem dX11_seal_123 : decode cX11_seal 123 = .ok (.iload_n 2, 1) := by decide +kernel
theorem dX11_seal_124 : decode cX11_seal 124 = .ok (.invokevirtual 261, 3) := by decide +kernel
theorem dX11_seal_127 : decode cX11_seal 127 = .ok (.invokevirtual 109, 3) := by decide +kernel
theorem dX11_seal_130 : decode cX11_seal 130 = .ok (.ireturn, 1) := by decide +kernel
theorem dX11_canbe_0 : decode cX11_canbe 0 = .ok (.iload_n 1, 1) := by decide +kernel
theorem dX11_canbe_1 : decode cX11_canbe 1 = .ok (.invokestatic 264, 3) := by decide +kernel
theorem dX11_canbe_4 : decode cX11_canbe 4 = .ok (.ifCond .ne 6, 3) := by decide +kernel
theorem dX11_canbe_7 : decode cX11_canbe 7 = .ok (.ldc 100, 2) := by decide +kernel
theorem dX11_canbe_9 : decode cX11_canbe 9 = .ok (.ireturn, 1) := by decide +kernel
theorem dX11_canbe_10 : decode cX11_canbe 10 = .ok (.aload_n 0, 1) := by decide +kernel
theorem dX11_canbe_11 : decode cX11_canbe 11 = .ok (.getfield 51, 3) := by decide +kernel
theorem dX11_canbe_14 : decode cX11_canbe 14 = .ok (.iload_n 1, 1) := by decide +kernel
theorem dX11_canbe_15 : decode cX11_canbe 15 = .ok (.invokevirtual 267, 3) := by decide +kernel
theorem dX11_canbe_18 : decode cX11_canbe 18 = .ok (.ifCond .eq 7, 3) := by decide +kernel
theorem dX11_canbe_21 : decode cX11_canbe 21 = .ok (.iconst 1, 1) := by decide +kernel
theorem dX11_canbe_22 : decode cX11_canbe 22 = .ok (.goto 4, 3) := by decide +kernel
theorem dX11_canbe_25 : decode cX11_canbe 25 = .ok (.iconst 0, 1) := by decide +kernel
theorem dX11_canbe_26 : decode cX11_canbe 26 = .ok (.ireturn, 1) := by decide +kernel
theorem dX11_lets_0 : decode cX11_lets 0 = .ok (.aload_n 0, 1) := by decide +kernel
theorem dX11_lets_1 : decode cX11_lets 1 = .ok (.iload_n 1, 1) := by decide +kernel
theorem dX11_lets_2 : decode cX11_lets 2 = .ok (.invokevirtual 270, 3) := by decide +kernel
theorem dX11_lets_5 : decode cX11_lets 5 = .ok (.ifCond .eq 25, 3) := by decide +kernel
theorem dX11_lets_8 : decode cX11_lets 8 = .ok (.iload_n 2, 1) := by decide +kernel
theorem dX11_lets_9 : decode cX11_lets 9 = .ok (.invokestatic 184, 3) := by decide +kernel
theorem dX11_lets_12 : decode cX11_lets 12 = .ok (.ifCond .eq 18, 3) := by decide +kernel
theorem dX11_lets_15 : decode cX11_lets 15 = .ok (.iload_n 3, 1) := by decide +kernel
theorem dX11_lets_16 : decode cX11_lets 16 = .ok (.invokestatic 135, 3) := by decide +kernel
theorem dX11_lets_19 : decode cX11_lets 19 = .ok (.ifCond .eq 11, 3) := by decide +kernel
theorem dX11_lets_22 : decode cX11_lets 22 = .ok (.iload 4, 2) := by decide +kernel
theorem dX11_lets_24 : decode cX11_lets 24 = .ok (.invokestatic 213, 3) := by decide +kernel
theorem dX11_lets_27 : decode cX11_lets 27 = .ok (.ifCond .ne 6, 3) := by decide +kernel
theorem dX11_lets_30 : decode cX11_lets 30 = .ok (.ldc 100, 2) := by decide +kernel
theorem dX11_lets_32 : decode cX11_lets 32 = .ok (.ireturn, 1) := by decide +kernel
theorem dX11_lets_33 : decode cX11_lets 33 = .ok (.aload_n 0, 1) := by decide +kernel
theorem dX11_lets_34 : decode cX11_lets 34 = .ok (.getfield 51, 3) := by decide +kernel
theorem dX11_lets_37 : decode cX11_lets 37 = .ok (.iload_n 1, 1) := by decide +kernel
theorem dX11_lets_38 : decode cX11_lets 38 = .ok (.iload_n 2, 1) := by decide +kernel
theorem dX11_lets_39 : decode cX11_lets 39 = .ok (.iload_n 3, 1) := by decide +kernel
theorem dX11_lets_40 : decode cX11_lets 40 = .ok (.iload 4, 2) := by decide +kernel
theorem dX11_lets_42 : decode cX11_lets 42 = .ok (.invokevirtual 273, 3) := by decide +kernel
theorem dX11_lets_45 : decode cX11_lets 45 = .ok (.ifCond .eq 7, 3) := by decide +kernel
theorem dX11_lets_48 : decode cX11_lets 48 = .ok (.iconst 1, 1) := by decide +kernel
theorem dX11_lets_49 : decode cX11_lets 49 = .ok (.goto 4, 3) := by decide +kernel
theorem dX11_lets_52 : decode cX11_lets 52 = .ok (.iconst 0, 1) := by decide +kernel
theorem dX11_lets_53 : decode cX11_lets 53 = .ok (.ireturn, 1) := by decide +kernel
theorem dX11_dusk_0 : decode cX11_dusk 0 = .ok (.iload_n 1, 1) := by decide +kernel
theorem dX11_dusk_1 : decode cX11_dusk 1 = .ok (.iload_n 2, 1) := by decide +kernel
theorem dX11_dusk_2 : decode cX11_dusk 2 = .ok (.invokestatic 148, 3) := by decide +kernel
theorem dX11_dusk_5 : decode cX11_dusk 5 = .ok (.ifCond .eq 21, 3) := by decide +kernel
theorem dX11_dusk_8 : decode cX11_dusk 8 = .ok (.iload_n 3, 1) := by decide +kernel
theorem dX11_dusk_9 : decode cX11_dusk 9 = .ok (.invokestatic 213, 3) := by decide +kernel
theorem dX11_dusk_12 : decode cX11_dusk 12 = .ok (.ifCond .eq 14, 3) := by decide +kernel
theorem dX11_dusk_15 : decode cX11_dusk 15 = .ok (.iload 4, 2) := by decide +kernel
theorem dX11_dusk_17 : decode cX11_dusk 17 = .ok (.iconst 1, 1) := by decide +kernel
theorem dX11_dusk_18 : decode cX11_dusk 18 = .ok (.bipush 60, 2) := by decide +kernel
theorem dX11_dusk_20 : decode cX11_dusk 20 = .ok (.invokestatic 96, 3) := by decide +kernel
theorem dX11_dusk_23 : decode cX11_dusk 23 = .ok (.ifCond .ne 6, 3) := by decide +kernel
theorem dX11_dusk_26 : decode cX11_dusk 26 = .ok (.ldc 100, 2) := by decide +kernel
theorem dX11_dusk_28 : decode cX11_dusk 28 = .ok (.ireturn, 1) := by decide +kernel
theorem dX11_dusk_29 : decode cX11_dusk 29 = .ok (.aload_n 0, 1) := by decide +kernel
theorem dX11_dusk_30 : decode cX11_dusk 30 = .ok (.getfield 19, 3) := by decide +kernel
theorem dX11_dusk_33 : decode cX11_dusk 33 = .ok (.iload_n 1, 1) := by decide +kernel
theorem dX11_dusk_34 : decode cX11_dusk 34 = .ok (.iload_n 2, 1) := by decide +kernel
theorem dX11_dusk_35 : decode cX11_dusk 35 = .ok (.iload_n 3, 1) := by decide +kernel
theorem dX11_dusk_36 : decode cX11_dusk 36 = .ok (.iload 4, 2) := by decide +kernel
theorem dX11_dusk_38 : decode cX11_dusk 38 = .ok (.invokevirtual 277, 3) := by decide +kernel
theorem dX11_dusk_41 : decode cX11_dusk 41 = .ok (.ireturn, 1) := by decide +kernel
theorem dX11_clerks_0 : decode cX11_clerks 0 = .ok (.iload_n 1, 1) := by decide +kernel
theorem dX11_clerks_1 : decode cX11_clerks 1 = .ok (.invokestatic 92, 3) := by decide +kernel
theorem dX11_clerks_4 : decode cX11_clerks 4 = .ok (.ifCond .eq 24, 3) := by decide +kernel
theorem dX11_clerks_7 : decode cX11_clerks 7 = .ok (.iload_n 3, 1) := by decide +kernel
theorem dX11_clerks_8 : decode cX11_clerks 8 = .ok (.iconst 1, 1) := by decide +kernel
theorem dX11_clerks_9 : decode cX11_clerks 9 = .ok (.bipush 20, 2) := by decide +kernel
theorem dX11_clerks_11 : decode cX11_clerks 11 = .ok (.invokestatic 96, 3) := by decide +kernel
theorem dX11_clerks_14 : decode cX11_clerks 14 = .ok (.ifCond .eq 14, 3) := by decide +kernel
theorem dX11_clerks_17 : decode cX11_clerks 17 = .ok (.iload 4, 2) := by decide +kernel
theorem dX11_clerks_19 : decode cX11_clerks 19 = .ok (.iconst 1, 1) := by decide +kernel
theorem dX11_clerks_20 : decode cX11_clerks 20 = .ok (.bipush 60, 2) := by decide +kernel
theorem dX11_clerks_22 : decode cX11_clerks 22 = .ok (.invokestatic 96, 3) := by decide +kernel
theorem dX11_clerks_25 : decode cX11_clerks 25 = .ok (.ifCond .ne 6, 3) := by decide +kernel
theorem dX11_clerks_28 : decode cX11_clerks 28 = .ok (.ldc 100, 2) := by decide +kernel
theorem dX11_clerks_30 : decode cX11_clerks 30 = .ok (.ireturn, 1) := by decide +kernel
theorem dX11_clerks_31 : decode cX11_clerks 31 = .ok (.iload 5, 2) := by decide +kernel
theorem dX11_clerks_33 : decode cX11_clerks 33 = .ok (.iconst 1, 1) := by decide +kernel
theorem dX11_clerks_34 : decode cX11_clerks 34 = .ok (.bipush 8, 2) := by decide +kernel
theorem dX11_clerks_36 : decode cX11_clerks 36 = .ok (.invokestatic 96, 3) := by decide +kernel
theorem dX11_clerks_39 : decode cX11_clerks 39 = .ok (.ifCond .eq 13, 3) := by decide +kernel
theorem dX11_clerks_42 : decode cX11_clerks 42 = .ok (.iload 6, 2) := by decide +kernel
theorem dX11_clerks_44 : decode cX11_clerks 44 = .ok (.iconst 0, 1) := by decide +kernel
theorem dX11_clerks_45 : decode cX11_clerks 45 = .ok (.iconst 4, 1) := by decide +kernel
theorem dX11_clerks_46 : decode cX11_clerks 46 = .ok (.invokestatic 96, 3) := by decide +kernel
theorem dX11_clerks_49 : decode cX11_clerks 49 = .ok (.ifCond .ne 6, 3) := by decide +kernel
theorem dX11_clerks_52 : decode cX11_clerks 52 = .ok (.ldc 100, 2) := by decide +kernel
theorem dX11_clerks_54 : decode cX11_clerks 54 = .ok (.ireturn, 1) := by decide +kernel
theorem dX11_clerks_55 : decode cX11_clerks 55 = .ok (.aload_n 0, 1) := by decide +kernel
theorem dX11_clerks_56 : decode cX11_clerks 56 = .ok (.iload_n 1, 1) := by decide +kernel
theorem dX11_clerks_57 : decode cX11_clerks 57 = .ok (.iload_n 2, 1) := by decide +kernel
theorem dX11_clerks_58 : decode cX11_clerks 58 = .ok (.iconst 2, 1) := by decide +kernel
theorem dX11_clerks_59 : decode cX11_clerks 59 = .ok (.iload_n 3, 1) := by decide +kernel
theorem dX11_clerks_60 : decode cX11_clerks 60 = .ok (.imul, 1) := by decide +kernel
theorem dX11_clerks_61 : decode cX11_clerks 61 = .ok (.invokevirtual 112, 3) := by decide +kernel
theorem dX11_clerks_64 : decode cX11_clerks 64 = .ok (.istore 7, 2) := by decide +kernel
theorem dX11_clerks_66 : decode cX11_clerks 66 = .ok (.iload 7, 2) := by decide +kernel
theorem dX11_clerks_68 : decode cX11_clerks 68 = .ok (.ifCond .eq 10, 3) := by decide +kernel
theorem dX11_clerks_71 : decode cX11_clerks 71 = .ok (.aload_n 0, 1) := by decide +kernel
theorem dX11_clerks_72 : decode cX11_clerks 72 = .ok (.iload 7, 2) := by decide +kernel
theorem dX11_clerks_74 : decode cX11_clerks 74 = .ok (.invokevirtual 101, 3) := by decide +kernel
theorem dX11_clerks_77 : decode cX11_clerks 77 = .ok (.ireturn, 1) := by decide +kernel
theorem dX11_clerks_78 : decode cX11_clerks 78 = .ok (.aload_n 0, 1) := by decide +kernel
theorem dX11_clerks_79 : decode cX11_clerks 79 = .ok (.getfield 67, 3) := by decide +kernel
theorem dX11_clerks_82 : decode cX11_clerks 82 = .ok (.invokevirtual 281, 3) := by decide +kernel
theorem dX11_clerks_85 : decode cX11_clerks 85 = .ok (.iconst 0, 1) := by decide +kernel
theorem dX11_clerks_86 : decode cX11_clerks 86 = .ok (.istore 8, 2) := by decide +kernel
theorem dX11_clerks_88 : decode cX11_clerks 88 = .ok (.iload 8, 2) := by decide +kernel
theorem dX11_clerks_90 : decode cX11_clerks 90 = .ok (.iload_n 3, 1) := by decide +kernel
theorem dX11_clerks_91 : decode cX11_clerks 91 = .ok (.if_icmp .ge 75, 3) := by decide +kernel
theorem dX11_clerks_94 : decode cX11_clerks 94 = .ok (.aload_n 0, 1) := by decide +kernel
theorem dX11_clerks_95 : decode cX11_clerks 95 = .ok (.getfield 10, 3) := by decide +kernel
theorem dX11_clerks_98 : decode cX11_clerks 98 = .ok (.iload_n 1, 1) := by decide +kernel
theorem dX11_clerks_99 : decode cX11_clerks 99 = .ok (.iload_n 2, 1) := by decide +kernel
theorem dX11_clerks_100 : decode cX11_clerks 100 = .ok (.iconst 2, 1) := by decide +kernel
theorem dX11_clerks_101 : decode cX11_clerks 101 = .ok (.iload 8, 2) := by decide +kernel
theorem dX11_clerks_103 : decode cX11_clerks 103 = .ok (.imul, 1) := by decide +kernel
theorem dX11_clerks_104 : decode cX11_clerks 104 = .ok (.iadd, 1) := by decide +kernel
theorem dX11_clerks_105 : decode cX11_clerks 105 = .ok (.invokevirtual 196, 3) := by decide +kernel
theorem dX11_clerks_108 : decode cX11_clerks 108 = .ok (.istore 9, 2) := by decide +kernel
theorem dX11_clerks_110 : decode cX11_clerks 110 = .ok (.aload_n 0, 1) := by decide +kernel
theorem dX11_clerks_111 : decode cX11_clerks 111 = .ok (.getfield 10, 3) := by decide +kernel
theorem dX11_clerks_114 : decode cX11_clerks 114 = .ok (.iload_n 1, 1) := by decide +kernel
theorem dX11_clerks_115 : decode cX11_clerks 115 = .ok (.iload_n 2, 1) := by decide +kernel
theorem dX11_clerks_116 : decode cX11_clerks 116 = .ok (.iconst 2, 1) := by decide +kernel
theorem dX11_clerks_117 : decode cX11_clerks 117 = .ok (.iload 8, 2) := by decide +kernel
theorem dX11_clerks_119 : decode cX11_clerks 119 = .ok (.imul, 1) := by decide +kernel
theorem dX11_clerks_120 : decode cX11_clerks 120 = .ok (.iadd, 1) := by decide +kernel
theorem dX11_clerks_121 : decode cX11_clerks 121 = .ok (.iconst 1, 1) := by decide +kernel
theorem dX11_clerks_122 : decode cX11_clerks 122 = .ok (.iadd, 1) := by decide +kernel
theorem dX11_clerks_123 : decode cX11_clerks 123 = .ok (.invokevirtual 196, 3) := by decide +kernel
theorem dX11_clerks_126 : decode cX11_clerks 126 = .ok (.istore 10, 2) := by decide +kernel
theorem dX11_clerks_128 : decode cX11_clerks 128 = .ok (.iload 9, 2) := by decide +kernel
theorem dX11_clerks_130 : decode cX11_clerks 130 = .ok (.iconst 0, 1) := by decide +kernel
theorem dX11_clerks_131 : decode cX11_clerks 131 = .ok (.iconst 3, 1) := by decide +kernel
theorem dX11_clerks_132 : decode cX11_clerks 132 = .ok (.invokestatic 96, 3) := by decide +kernel
theorem dX11_clerks_135 : decode cX11_clerks 135 = .ok (.ifCond .eq 11, 3) := by decide +kernel
theorem dX11_clerks_138 : decode cX11_clerks 138 = .ok (.iload 10, 2) := by decide +kernel
theorem dX11_clerks_140 : decode cX11_clerks 140 = .ok (.invokestatic 213, 3) := by decide +kernel
theorem dX11_clerks_143 : decode cX11_clerks 143 = .ok (.ifCond .ne 6, 3) := by decide +kernel
theorem dX11_clerks_146 : decode cX11_clerks 146 = .ok (.ldc 100, 2) := by decide +kernel
theorem dX11_clerks_148 : decode cX11_clerks 148 = .ok (.ireturn, 1) := by decide +kernel
theorem dX11_clerks_149 : decode cX11_clerks 149 = .ok (.aload_n 0, 1) := by decide +kernel
theorem dX11_clerks_150 : decode cX11_clerks 150 = .ok (.getfield 67, 3) := by decide +kernel
theorem dX11_clerks_153 : decode cX11_clerks 153 = .ok (.iload 9, 2) := by decide +kernel
theorem dX11_clerks_155 : decode cX11_clerks 155 = .ok (.iload 10, 2) := by decide +kernel
theorem dX11_clerks_157 : decode cX11_clerks 157 = .ok (.invokevirtual 284, 3) := by decide +kernel
theorem dX11_clerks_160 : decode cX11_clerks 160 = .ok (.iinc 8 1, 3) := by decide +kernel
theorem dX11_clerks_163 : decode cX11_clerks 163 = .ok (.goto (-75), 3) := by decide +kernel
theorem dX11_clerks_166 : decode cX11_clerks 166 = .ok (.aload_n 0, 1) := by decide +kernel
theorem dX11_clerks_167 : decode cX11_clerks 167 = .ok (.getfield 67, 3) := by decide +kernel
theorem dX11_clerks_170 : decode cX11_clerks 170 = .ok (.iload 4, 2) := by decide +kernel
theorem dX11_clerks_172 : decode cX11_clerks 172 = .ok (.iload 5, 2) := by decide +kernel
theorem dX11_clerks_174 : decode cX11_clerks 174 = .ok (.invokevirtual 288, 3) := by decide +kernel
theorem dX11_clerks_177 : decode cX11_clerks 177 = .ok (.ifCond .ne 10, 3) := by decide +kernel
theorem dX11_clerks_180 : decode cX11_clerks 180 = .ok (.aload_n 0, 1) := by decide +kernel
theorem dX11_clerks_181 : decode cX11_clerks 181 = .ok (.ldc 206, 2) := by decide +kernel
theorem dX11_clerks_183 : decode cX11_clerks 183 = .ok (.invokevirtual 109, 3) := by decide +kernel
theorem dX11_clerks_186 : decode cX11_clerks 186 = .ok (.ireturn, 1) := by decide +kernel
theorem dX11_clerks_187 : decode cX11_clerks 187 = .ok (.aload_n 0, 1) := by decide +kernel
theorem dX11_clerks_188 : decode cX11_clerks 188 = .ok (.iload 6, 2) := by decide +kernel
theorem dX11_clerks_190 : decode cX11_clerks 190 = .ok (.ifCond .ne 13, 3) := by decide +kernel
theorem dX11_clerks_193 : decode cX11_clerks 193 = .ok (.aload_n 0, 1) := by decide +kernel
theorem dX11_clerks_194 : decode cX11_clerks 194 = .ok (.getfield 67, 3) := by decide +kernel
theorem dX11_clerks_197 : decode cX11_clerks 197 = .ok (.getfield 291, 3) := by decide +kernel
theorem dX11_clerks_200 : decode cX11_clerks 200 = .ok (.goto 15, 3) := by decide +kernel
theorem dX11_clerks_203 : decode cX11_clerks 203 = .ok (.aload_n 0, 1) := by decide +kernel
theorem dX11_clerks_204 : decode cX11_clerks 204 = .ok (.getfield 67, 3) := by decide +kernel
theorem dX11_clerks_207 : decode cX11_clerks 207 = .ok (.getfield 294, 3) := by decide +kernel
theorem dX11_clerks_210 : decode cX11_clerks 210 = .ok (.iload 6, 2) := by decide +kernel
theorem dX11_clerks_212 : decode cX11_clerks 212 = .ok (.iconst 1, 1) := by decide +kernel
theorem dX11_clerks_213 : decode cX11_clerks 213 = .ok (.isub, 1) := by decide +kernel
theorem dX11_clerks_214 : decode cX11_clerks 214 = .ok (.iaload, 1) := by decide +kernel
theorem dX11_clerks_215 : decode cX11_clerks 215 = .ok (.invokevirtual 109, 3) := by decide +kernel
theorem dX11_clerks_218 : decode cX11_clerks 218 = .ok (.ireturn, 1) := by decide +kernel
theorem dX11_guest_0 : decode cX11_guest 0 = .ok (.iload_n 1, 1) := by decide +kernel
theorem dX11_guest_1 : decode cX11_guest 1 = .ok (.invokestatic 264, 3) := by decide +kernel
theorem dX11_guest_4 : decode cX11_guest 4 = .ok (.ifCond .eq 19, 3) := by decide +kernel
theorem dX11_guest_7 : decode cX11_guest 7 = .ok (.iload_n 2, 1) := by decide +kernel
theorem dX11_guest_8 : decode cX11_guest 8 = .ok (.invokestatic 297, 3) := by decide +kernel
theorem dX11_guest_11 : decode cX11_guest 11 = .ok (.ifCond .eq 12, 3) := by decide +kernel
theorem dX11_guest_14 : decode cX11_guest 14 = .ok (.iload_n 3, 1) := by decide +kernel
theorem dX11_guest_15 : decode cX11_guest 15 = .ok (.iload 4, 2) := by decide +kernel
theorem dX11_guest_17 : decode cX11_guest 17 = .ok (.invokestatic 234, 3) := by decide +kernel
theorem dX11_guest_20 : decode cX11_guest 20 = .ok (.ifCond .ne 6, 3) := by decide +kernel
theorem dX11_guest_23 : decode cX11_guest 23 = .ok (.ldc 100, 2) := by decide +kernel
theorem dX11_guest_25 : decode cX11_guest 25 = .ok (.ireturn, 1) := by decide +kernel
theorem dX11_guest_26 : decode cX11_guest 26 = .ok (.aload_n 0, 1) := by decide +kernel
theorem dX11_guest_27 : decode cX11_guest 27 = .ok (.getfield 74, 3) := by decide +kernel
theorem dX11_guest_30 : decode cX11_guest 30 = .ok (.getfield 300, 3) := by decide +kernel
theorem dX11_guest_33 : decode cX11_guest 33 = .ok (.bipush 40, 2) := by decide +kernel
theorem dX11_guest_35 : decode cX11_guest 35 = .ok (.if_icmp .lt 6, 3) := by decide +kernel
theorem dX11_guest_38 : decode cX11_guest 38 = .ok (.ldc 161, 2) := by decide +kernel
theorem dX11_guest_40 : decode cX11_guest 40 = .ok (.ireturn, 1) := by decide +kernel
theorem dX11_guest_41 : decode cX11_guest 41 = .ok (.aload_n 0, 1) := by decide +kernel
theorem dX11_guest_42 : decode cX11_guest 42 = .ok (.getfield 74, 3) := by decide +kernel
theorem dX11_guest_45 : decode cX11_guest 45 = .ok (.iload_n 1, 1) := by decide +kernel
theorem dX11_guest_46 : decode cX11_guest 46 = .ok (.iload_n 2, 1) := by decide +kernel
theorem dX11_guest_47 : decode cX11_guest 47 = .ok (.iload_n 3, 1) := by decide +kernel
theorem dX11_guest_48 : decode cX11_guest 48 = .ok (.iload 4, 2) := by decide +kernel
theorem dX11_guest_50 : decode cX11_guest 50 = .ok (.invokevirtual 303, 3) := by decide +kernel
theorem dX11_guest_53 : decode cX11_guest 53 = .ok (.ireturn, 1) := by decide +kernel
theorem dX11_fell_0 : decode cX11_fell 0 = .ok (.iload_n 1, 1) := by decide +kernel
theorem dX11_fell_1 : decode cX11_fell 1 = .ok (.invokestatic 297, 3) := by decide +kernel
theorem dX11_fell_4 : decode cX11_fell 4 = .ok (.ifCond .eq 10, 3) := by decide +kernel
theorem dX11_fell_7 : decode cX11_fell 7 = .ok (.iload_n 2, 1) := by decide +kernel
theorem dX11_fell_8 : decode cX11_fell 8 = .ok (.invokestatic 184, 3) := by decide +kernel
theorem dX11_fell_11 : decode cX11_fell 11 = .ok (.ifCond .ne 6, 3) := by decide +kernel
theorem dX11_fell_14 : decode cX11_fell 14 = .ok (.ldc 100, 2) := by decide +kernel
theorem dX11_fell_16 : decode cX11_fell 16 = .ok (.ireturn, 1) := by decide +kernel
theorem dX11_fell_17 : decode cX11_fell 17 = .ok (.aload_n 0, 1) := by decide +kernel
theorem dX11_fell_18 : decode cX11_fell 18 = .ok (.getfield 74, 3) := by decide +kernel
theorem dX11_fell_21 : decode cX11_fell 21 = .ok (.iload_n 1, 1) := by decide +kernel
theorem dX11_fell_22 : decode cX11_fell 22 = .ok (.iload_n 2, 1) := by decide +kernel
theorem dX11_fell_23 : decode cX11_fell 23 = .ok (.invokevirtual 306, 3) := by decide +kernel
theorem dX11_fell_26 : decode cX11_fell 26 = .ok (.ifCond .eq 7, 3) := by decide +kernel
theorem dX11_fell_29 : decode cX11_fell 29 = .ok (.iconst 1, 1) := by decide +kernel
theorem dX11_fell_30 : decode cX11_fell 30 = .ok (.goto 4, 3) := by decide +kernel
theorem dX11_fell_33 : decode cX11_fell 33 = .ok (.iconst 0, 1) := by decide +kernel
theorem dX11_fell_34 : decode cX11_fell 34 = .ok (.ireturn, 1) := by decide +kernel
theorem dX11_brought_0 : decode cX11_brought 0 = .ok (.iload_n 1, 1) := by decide +kernel
theorem dX11_brought_1 : decode cX11_brought 1 = .ok (.iconst 0, 1) := by decide +kernel
theorem dX11_brought_2 : decode cX11_brought 2 = .ok (.iconst 2, 1) := by decide +kernel
theorem dX11_brought_3 : decode cX11_brought 3 = .ok (.invokestatic 96, 3) := by decide +kernel
theorem dX11_brought_6 : decode cX11_brought 6 = .ok (.ifCond .ne 6, 3) := by decide +kernel
theorem dX11_brought_9 : decode cX11_brought 9 = .ok (.ldc 100, 2) := by decide +kernel
theorem dX11_brought_11 : decode cX11_brought 11 = .ok (.ireturn, 1) := by decide +kernel
theorem dX11_brought_12 : decode cX11_brought 12 = .ok (.aload_n 0, 1) := by decide +kernel
theorem dX11_brought_13 : decode cX11_brought 13 = .ok (.getfield 74, 3) := by decide +kernel
theorem dX11_brought_16 : decode cX11_brought 16 = .ok (.aload_n 0, 1) := by decide +kernel
theorem dX11_brought_17 : decode cX11_brought 17 = .ok (.getfield 88, 3) := by decide +kernel
theorem dX11_brought_20 : decode cX11_brought 20 = .ok (.getfield 309, 3) := by decide +kernel
theorem dX11_brought_23 : decode cX11_brought 23 = .ok (.invokevirtual 312, 3) := by decide +kernel
theorem dX11_brought_26 : decode cX11_brought 26 = .ok (.iload_n 1, 1) := by decide +kernel
theorem dX11_brought_27 : decode cX11_brought 27 = .ok (.iconst 2, 1) := by decide +kernel
theorem dX11_brought_28 : decode cX11_brought 28 = .ok (.if_icmp .ne 13, 3) := by decide +kernel
theorem dX11_brought_31 : decode cX11_brought 31 = .ok (.aload_n 0, 1) := by decide +kernel
theorem dX11_brought_32 : decode cX11_brought 32 = .ok (.getfield 88, 3) := by decide +kernel
theorem dX11_brought_35 : decode cX11_brought 35 = .ok (.bipush 12, 2) := by decide +kernel
theorem dX11_brought_37 : decode cX11_brought 37 = .ok (.invokevirtual 316, 3) := by decide +kernel
theorem dX11_brought_40 : decode cX11_brought 40 = .ok (.ireturn, 1) := by decide +kernel
theorem dX11_brought_41 : decode cX11_brought 41 = .ok (.aload_n 0, 1) := by decide +kernel
theorem dX11_brought_42 : decode cX11_brought 42 = .ok (.getfield 88, 3) := by decide +kernel
theorem dX11_brought_45 : decode cX11_brought 45 = .ok (.bipush 12, 2) := by decide +kernel
theorem dX11_brought_47 : decode cX11_brought 47 = .ok (.aload_n 0, 1) := by decide +kernel
theorem dX11_brought_48 : decode cX11_brought 48 = .ok (.getfield 74, 3) := by decide +kernel
theorem dX11_brought_51 : decode cX11_brought 51 = .ok (.invokevirtual 319, 3) := by decide +kernel
theorem dX11_brought_54 : decode cX11_brought 54 = .ok (.invokevirtual 322, 3) := by decide +kernel
theorem dX11_brought_57 : decode cX11_brought 57 = .ok (.iload_n 1, 1) := by decide +kernel
theorem dX11_brought_58 : decode cX11_brought 58 = .ok (.ifCond .ne 13, 3) := by decide +kernel
theorem dX11_brought_61 : decode cX11_brought 61 = .ok (.aload_n 0, 1) := by decide +kernel
theorem dX11_brought_62 : decode cX11_brought 62 = .ok (.getfield 88, 3) := by decide +kernel
theorem dX11_brought_65 : decode cX11_brought 65 = .ok (.getfield 325, 3) := by decide +kernel
theorem dX11_brought_68 : decode cX11_brought 68 = .ok (.goto 10, 3) := by decide +kernel
theorem dX11_brought_71 : decode cX11_brought 71 = .ok (.aload_n 0, 1) := by decide +kernel
theorem dX11_brought_72 : decode cX11_brought 72 = .ok (.getfield 88, 3) := by decide +kernel
theorem dX11_brought_75 : decode cX11_brought 75 = .ok (.getfield 328, 3) := by decide +kernel
theorem dX11_brought_78 : decode cX11_brought 78 = .ok (.ireturn, 1) := by decide +kernel
theorem dX11_high_0 : decode cX11_high 0 = .ok (.iload_n 1, 1) := by decide +kernel
theorem dX11_high_1 : decode cX11_high 1 = .ok (.invokestatic 331, 3) := by decide +kernel
theorem dX11_high_4 : decode cX11_high 4 = .ok (.ifCond .eq 13, 3) := by decide +kernel
theorem dX11_high_7 : decode cX11_high 7 = .ok (.iload_n 2, 1) := by decide +kernel
theorem dX11_high_8 : decode cX11_high 8 = .ok (.iconst 1, 1) := by decide +kernel
theorem dX11_high_9 : decode cX11_high 9 = .ok (.bipush 99, 2) := by decide +kernel
theorem dX11_high_11 : decode cX11_high 11 = .ok (.invokestatic 96, 3) := by decide +kernel
theorem dX11_high_14 : decode cX11_high 14 = .ok (.ifCond .ne 6, 3) := by decide +kernel
theorem dX11_high_17 : decode cX11_high 17 = .ok (.ldc 100, 2) := by decide +kernel
theorem dX11_high_19 : decode cX11_high 19 = .ok (.ireturn, 1) := by decide +kernel
theorem dX11_high_20 : decode cX11_high 20 = .ok (.aload_n 0, 1) := by decide +kernel
theorem dX11_high_21 : decode cX11_high 21 = .ok (.getfield 81, 3) := by decide +kernel
theorem dX11_high_24 : decode cX11_high 24 = .ok (.getfield 334, 3) := by decide +kernel
theorem dX11_high_27 : decode cX11_high 27 = .ok (.iload_n 1, 1) := by decide +kernel
theorem dX11_high_28 : decode cX11_high 28 = .ok (.iaload, 1) := by decide +kernel
theorem dX11_high_29 : decode cX11_high 29 = .ok (.istore_n 3, 1) := by decide +kernel
theorem dX11_high_30 : decode cX11_high 30 = .ok (.aload_n 0, 1) := by decide +kernel
theorem dX11_high_31 : decode cX11_high 31 = .ok (.getfield 81, 3) := by decide +kernel
theorem dX11_high_34 : decode cX11_high 34 = .ok (.getfield 334, 3) := by decide +kernel
theorem dX11_high_37 : decode cX11_high 37 = .ok (.iload_n 1, 1) := by decide +kernel
theorem dX11_high_38 : decode cX11_high 38 = .ok (.iload_n 2, 1) := by decide +kernel
theorem dX11_high_39 : decode cX11_high 39 = .ok (.iastore, 1) := by decide +kernel
theorem dX11_high_40 : decode cX11_high 40 = .ok (.iload_n 3, 1) := by decide +kernel
theorem dX11_high_41 : decode cX11_high 41 = .ok (.ireturn, 1) := by decide +kernel
theorem dX11_lean_0 : decode cX11_lean 0 = .ok (.iload_n 1, 1) := by decide +kernel
theorem dX11_lean_1 : decode cX11_lean 1 = .ok (.invokestatic 331, 3) := by decide +kernel
theorem dX11_lean_4 : decode cX11_lean 4 = .ok (.ifCond .eq 23, 3) := by decide +kernel
theorem dX11_lean_7 : decode cX11_lean 7 = .ok (.iload_n 2, 1) := by decide +kernel
theorem dX11_lean_8 : decode cX11_lean 8 = .ok (.iconst 0, 1) := by decide +kernel
theorem dX11_lean_9 : decode cX11_lean 9 = .ok (.bipush 99, 2) := by decide +kernel
theorem dX11_lean_11 : decode cX11_lean 11 = .ok (.invokestatic 96, 3) := by decide +kernel
theorem dX11_lean_14 : decode cX11_lean 14 = .ok (.ifCond .eq 13, 3) := by decide +kernel
theorem dX11_lean_17 : decode cX11_lean 17 = .ok (.iload_n 3, 1) := by decide +kernel
theorem dX11_lean_18 : decode cX11_lean 18 = .ok (.iconst 0, 1) := by decide +kernel
theorem dX11_lean_19 : decode cX11_lean 19 = .ok (.bipush 99, 2) := by decide +kernel
theorem dX11_lean_21 : decode cX11_lean 21 = .ok (.invokestatic 96, 3) := by decide +kernel
theorem dX11_lean_24 : decode cX11_lean 24 = .ok (.ifCond .ne 6, 3) := by decide +kernel
theorem dX11_lean_27 : decode cX11_lean 27 = .ok (.ldc 100, 2) := by decide +kernel
theorem dX11_lean_29 : decode cX11_lean 29 = .ok (.ireturn, 1) := by decide +kernel
theorem dX11_lean_30 : decode cX11_lean 30 = .ok (.aload_n 0, 1) := by decide +kernel
theorem dX11_lean_31 : decode cX11_lean 31 = .ok (.getfield 81, 3) := by decide +kernel
theorem dX11_lean_34 : decode cX11_lean 34 = .ok (.getfield 337, 3) := by decide +kernel
theorem dX11_lean_37 : decode cX11_lean 37 = .ok (.bipush 20, 2) := by decide +kernel
theorem dX11_lean_39 : decode cX11_lean 39 = .ok (.if_icmp .lt 6, 3) := by decide +kernel
theorem dX11_lean_42 : decode cX11_lean 42 = .ok (.ldc 161, 2) := by decide +kernel
theorem dX11_lean_44 : decode cX11_lean 44 = .ok (.ireturn, 1) := by decide +kernel
theorem dX11_lean_45 : decode cX11_lean 45 = .ok (.aload_n 0, 1) := by decide +kernel
theorem dX11_lean_46 : decode cX11_lean 46 = .ok (.getfield 81, 3) := by decide +kernel
theorem dX11_lean_49 : decode cX11_lean 49 = .ok (.iload_n 1, 1) := by decide +kernel
theorem dX11_lean_50 : decode cX11_lean 50 = .ok (.iload_n 2, 1) := by decide +kernel
theorem dX11_lean_51 : decode cX11_lean 51 = .ok (.iload_n 3, 1) := by decide +kernel
theorem dX11_lean_52 : decode cX11_lean 52 = .ok (.invokevirtual 340, 3) := by decide +kernel
theorem dX11_lean_55 : decode cX11_lean 55 = .ok (.ireturn, 1) := by decide +kernel
theorem dX11_breaches_0 : decode cX11_breaches 0 = .ok (.aload_n 0, 1) := by decide +kernel
theorem dX11_breaches_1 : decode cX11_breaches 1 = .ok (.getfield 81, 3) := by decide +kernel
theorem dX11_breaches_4 : decode cX11_breaches 4 = .ok (.invokevirtual 343, 3) := by decide +kernel
theorem dX11_breaches_7 : decode cX11_breaches 7 = .ok (.ireturn, 1) := by decide +kernel
theorem dX11_watch_0 : decode cX11_watch 0 = .ok (.iload_n 1, 1) := by decide +kernel
theorem dX11_watch_1 : decode cX11_watch 1 = .ok (.invokestatic 92, 3) := by decide +kernel
theorem dX11_watch_4 : decode cX11_watch 4 = .ok (.ifCond .eq 13, 3) := by decide +kernel
theorem dX11_watch_7 : decode cX11_watch 7 = .ok (.iload_n 3, 1) := by decide +kernel
theorem dX11_watch_8 : decode cX11_watch 8 = .ok (.iconst 1, 1) := by decide +kernel
theorem dX11_watch_9 : decode cX11_watch 9 = .ok (.bipush 12, 2) := by decide +kernel
theorem dX11_watch_11 : decode cX11_watch 11 = .ok (.invokestatic 96, 3) := by decide +kernel
theorem dX11_watch_14 : decode cX11_watch 14 = .ok (.ifCond .ne 6, 3) := by decide +kernel
theorem dX11_watch_17 : decode cX11_watch 17 = .ok (.ldc 100, 2) := by decide +kernel
theorem dX11_watch_19 : decode cX11_watch 19 = .ok (.ireturn, 1) := by decide +kernel
theorem dX11_watch_20 : decode cX11_watch 20 = .ok (.aload_n 0, 1) := by decide +kernel
theorem dX11_watch_21 : decode cX11_watch 21 = .ok (.iload_n 1, 1) := by decide +kernel
theorem dX11_watch_22 : decode cX11_watch 22 = .ok (.iload_n 2, 1) := by decide +kernel
theorem dX11_watch_23 : decode cX11_watch 23 = .ok (.iload_n 3, 1) := by decide +kernel
theorem dX11_watch_24 : decode cX11_watch 24 = .ok (.invokevirtual 112, 3) := by decide +kernel
theorem dX11_watch_27 : decode cX11_watch 27 = .ok (.istore 4, 2) := by decide +kernel
theorem dX11_watch_29 : decode cX11_watch 29 = .ok (.iload 4, 2) := by decide +kernel
theorem dX11_watch_31 : decode cX11_watch 31 = .ok (.ifCond .eq 10, 3) := by decide +kernel
theorem dX11_watch_34 : decode cX11_watch 34 = .ok (.aload_n 0, 1) := by decide +kernel
theorem dX11_watch_35 : decode cX11_watch 35 = .ok (.iload 4, 2) := by decide +kernel
theorem dX11_watch_37 : decode cX11_watch 37 = .ok (.invokevirtual 101, 3) := by decide +kernel
theorem dX11_watch_40 : decode cX11_watch 40 = .ok (.ireturn, 1) := by decide +kernel
theorem dX11_watch_41 : decode cX11_watch 41 = .ok (.iconst 0, 1) := by decide +kernel
theorem dX11_watch_42 : decode cX11_watch 42 = .ok (.istore 5, 2) := by decide +kernel
theorem dX11_watch_44 : decode cX11_watch 44 = .ok (.iload 5, 2) := by decide +kernel
theorem dX11_watch_46 : decode cX11_watch 46 = .ok (.iload_n 3, 1) := by decide +kernel
theorem dX11_watch_47 : decode cX11_watch 47 = .ok (.if_icmp .ge 50, 3) := by decide +kernel
theorem dX11_watch_50 : decode cX11_watch 50 = .ok (.aload_n 0, 1) := by decide +kernel
theorem dX11_watch_51 : decode cX11_watch 51 = .ok (.getfield 10, 3) := by decide +kernel
theorem dX11_watch_54 : decode cX11_watch 54 = .ok (.iload_n 1, 1) := by decide +kernel
theorem dX11_watch_55 : decode cX11_watch 55 = .ok (.iload_n 2, 1) := by decide +kernel
theorem dX11_watch_56 : decode cX11_watch 56 = .ok (.iload 5, 2) := by decide +kernel
theorem dX11_watch_58 : decode cX11_watch 58 = .ok (.iadd, 1) := by decide +kernel
theorem dX11_watch_59 : decode cX11_watch 59 = .ok (.invokevirtual 196, 3) := by decide +kernel
theorem dX11_watch_62 : decode cX11_watch 62 = .ok (.istore 6, 2) := by decide +kernel
theorem dX11_watch_64 : decode cX11_watch 64 = .ok (.iload 6, 2) := by decide +kernel
theorem dX11_watch_66 : decode cX11_watch 66 = .ok (.iconst 0, 1) := by decide +kernel
theorem dX11_watch_67 : decode cX11_watch 67 = .ok (.sipush 4095, 3) := by decide +kernel
theorem dX11_watch_70 : decode cX11_watch 70 = .ok (.invokestatic 96, 3) := by decide +kernel
theorem dX11_watch_73 : decode cX11_watch 73 = .ok (.ifCond .ne 6, 3) := by decide +kernel
theorem dX11_watch_76 : decode cX11_watch 76 = .ok (.ldc 100, 2) := by decide +kernel
theorem dX11_watch_78 : decode cX11_watch 78 = .ok (.ireturn, 1) := by decide +kernel
theorem dX11_watch_79 : decode cX11_watch 79 = .ok (.aload_n 0, 1) := by decide +kernel
theorem dX11_watch_80 : decode cX11_watch 80 = .ok (.getfield 88, 3) := by decide +kernel
theorem dX11_watch_83 : decode cX11_watch 83 = .ok (.getfield 309, 3) := by decide +kernel
theorem dX11_watch_86 : decode cX11_watch 86 = .ok (.iload 5, 2) := by decide +kernel
theorem dX11_watch_88 : decode cX11_watch 88 = .ok (.iload 6, 2) := by decide +kernel
theorem dX11_watch_90 : decode cX11_watch 90 = .ok (.iastore, 1) := by decide +kernel
theorem dX11_watch_91 : decode cX11_watch 91 = .ok (.iinc 5 1, 3) := by decide +kernel
theorem dX11_watch_94 : decode cX11_watch 94 = .ok (.goto (-50), 3) := by decide +kernel
theorem dX11_watch_97 : decode cX11_watch 97 = .ok (.aload_n 0, 1) := by decide +kernel
theorem dX11_watch_98 : decode cX11_watch 98 = .ok (.getfield 88, 3) := by decide +kernel
theorem dX11_watch_101 : decode cX11_watch 101 = .ok (.iload_n 3, 1) := by decide +kernel
theorem dX11_watch_102 : decode cX11_watch 102 = .ok (.aload_n 0, 1) := by decide +kernel
theorem dX11_watch_103 : decode cX11_watch 103 = .ok (.getfield 81, 3) := by decide +kernel
theorem dX11_watch_106 : decode cX11_watch 106 = .ok (.invokevirtual 343, 3) := by decide +kernel
theorem dX11_watch_109 : decode cX11_watch 109 = .ok (.invokevirtual 322, 3) := by decide +kernel
theorem dX11_watch_112 : decode cX11_watch 112 = .ok (.aload_n 0, 1) := by decide +kernel
theorem dX11_watch_113 : decode cX11_watch 113 = .ok (.aload_n 0, 1) := by decide +kernel
theorem dX11_watch_114 : decode cX11_watch 114 = .ok (.getfield 88, 3) := by decide +kernel
theorem dX11_watch_117 : decode cX11_watch 117 = .ok (.getfield 325, 3) := by decide +kernel
theorem dX11_watch_120 : decode cX11_watch 120 = .ok (.invokevirtual 109, 3) := by decide +kernel
theorem dX11_watch_123 : decode cX11_watch 123 = .ok (.ireturn, 1) := by decide +kernel
theorem dX11_day_0 : decode cX11_day 0 = .ok (.iload_n 1, 1) := by decide +kernel
theorem dX11_day_1 : decode cX11_day 1 = .ok (.invokestatic 184, 3) := by decide +kernel
theorem dX11_day_4 : decode cX11_day 4 = .ok (.ifCond .ne 6, 3) := by decide +kernel
theorem dX11_day_7 : decode cX11_day 7 = .ok (.ldc 100, 2) := by decide +kernel
theorem dX11_day_9 : decode cX11_day 9 = .ok (.ireturn, 1) := by decide +kernel
theorem dX11_day_10 : decode cX11_day 10 = .ok (.aload_n 0, 1) := by decide +kernel
theorem dX11_day_11 : decode cX11_day 11 = .ok (.getfield 346, 3) := by decide +kernel
theorem dX11_day_14 : decode cX11_day 14 = .ok (.istore_n 2, 1) := by decide +kernel
theorem dX11_day_15 : decode cX11_day 15 = .ok (.aload_n 0, 1) := by decide +kernel
theorem dX11_day_16 : decode cX11_day 16 = .ok (.iload_n 1, 1) := by decide +kernel
theorem dX11_day_17 : decode cX11_day 17 = .ok (.putfield 346, 3) := by decide +kernel
theorem dX11_day_20 : decode cX11_day 20 = .ok (.iload_n 2, 1) := by decide +kernel
theorem dX11_day_21 : decode cX11_day 21 = .ok (.ireturn, 1) := by decide +kernel
theorem dX11_kind_0 : decode cX11_kind 0 = .ok (.aload_n 0, 1) := by decide +kernel
theorem dX11_kind_1 : decode cX11_kind 1 = .ok (.iload_n 1, 1) := by decide +kernel
theorem dX11_kind_2 : decode cX11_kind 2 = .ok (.invokevirtual 270, 3) := by decide +kernel
theorem dX11_kind_5 : decode cX11_kind 5 = .ok (.ifCond .eq 18, 3) := by decide +kernel
theorem dX11_kind_8 : decode cX11_kind 8 = .ok (.aload_n 0, 1) := by decide +kernel
theorem dX11_kind_9 : decode cX11_kind 9 = .ok (.getfield 51, 3) := by decide +kernel
theorem dX11_kind_12 : decode cX11_kind 12 = .ok (.iload_n 1, 1) := by decide +kernel
theorem dX11_kind_13 : decode cX11_kind 13 = .ok (.aload_n 0, 1) := by decide +kernel
theorem dX11_kind_14 : decode cX11_kind 14 = .ok (.getfield 346, 3) := by decide +kernel
theorem dX11_kind_17 : decode cX11_kind 17 = .ok (.invokevirtual 349, 3) := by decide +kernel
theorem dX11_kind_20 : decode cX11_kind 20 = .ok (.goto 5, 3) := by decide +kernel
theorem dX11_kind_23 : decode cX11_kind 23 = .ok (.ldc 100, 2) := by decide +kernel
theorem dX11_kind_25 : decode cX11_kind 25 = .ok (.ireturn, 1) := by decide +kernel
theorem dX11_as_0 : decode cX11_as 0 = .ok (.aload_n 0, 1) := by decide +kernel
theorem dX11_as_1 : decode cX11_as 1 = .ok (.iload_n 1, 1) := by decide +kernel
theorem dX11_as_2 : decode cX11_as 2 = .ok (.invokevirtual 270, 3) := by decide +kernel
theorem dX11_as_5 : decode cX11_as 5 = .ok (.ifCond .eq 12, 3) := by decide +kernel
theorem dX11_as_8 : decode cX11_as 8 = .ok (.iload_n 2, 1) := by decide +kernel
theorem dX11_as_9 : decode cX11_as 9 = .ok (.iconst 0, 1) := by decide +kernel
theorem dX11_as_10 : decode cX11_as 10 = .ok (.iconst 4, 1) := by decide +kernel
theorem dX11_as_11 : decode cX11_as 11 = .ok (.invokestatic 96, 3) := by decide +kernel
theorem dX11_as_14 : decode cX11_as 14 = .ok (.ifCond .ne 6, 3) := by decide +kernel
theorem dX11_as_17 : decode cX11_as 17 = .ok (.ldc 100, 2) := by decide +kernel
theorem dX11_as_19 : decode cX11_as 19 = .ok (.ireturn, 1) := by decide +kernel
theorem dX11_as_20 : decode cX11_as 20 = .ok (.aload_n 0, 1) := by decide +kernel
theorem dX11_as_21 : decode cX11_as 21 = .ok (.getfield 51, 3) := by decide +kernel
theorem dX11_as_24 : decode cX11_as 24 = .ok (.iload_n 1, 1) := by decide +kernel
theorem dX11_as_25 : decode cX11_as 25 = .ok (.iload_n 2, 1) := by decide +kernel
theorem dX11_as_26 : decode cX11_as 26 = .ok (.aload_n 0, 1) := by decide +kernel
theorem dX11_as_27 : decode cX11_as 27 = .ok (.getfield 346, 3) := by decide +kernel
theorem dX11_as_30 : decode cX11_as 30 = .ok (.invokevirtual 352, 3) := by decide +kernel
theorem dX11_as_33 : decode cX11_as 33 = .ok (.ifCond .ne 9, 3) := by decide +kernel
theorem dX11_as_36 : decode cX11_as 36 = .ok (.aload_n 0, 1) := by decide +kernel
theorem dX11_as_37 : decode cX11_as 37 = .ok (.iconst 3, 1) := by decide +kernel
theorem dX11_as_38 : decode cX11_as 38 = .ok (.invokevirtual 101, 3) := by decide +kernel
theorem dX11_as_41 : decode cX11_as 41 = .ok (.ireturn, 1) := by decide +kernel
theorem dX11_as_42 : decode cX11_as 42 = .ok (.aload_n 0, 1) := by decide +kernel
theorem dX11_as_43 : decode cX11_as 43 = .ok (.aload_n 0, 1) := by decide +kernel
theorem dX11_as_44 : decode cX11_as 44 = .ok (.getfield 51, 3) := by decide +kernel
theorem dX11_as_47 : decode cX11_as 47 = .ok (.iload_n 1, 1) := by decide +kernel
theorem dX11_as_48 : decode cX11_as 48 = .ok (.iconst 2, 1) := by decide +kernel
theorem dX11_as_49 : decode cX11_as 49 = .ok (.invokevirtual 355, 3) := by decide +kernel
theorem dX11_as_52 : decode cX11_as 52 = .ok (.invokevirtual 109, 3) := by decide +kernel
theorem dX11_as_55 : decode cX11_as 55 = .ok (.ireturn, 1) := by decide +kernel
theorem dX11_ask_0 : decode cX11_ask 0 = .ok (.aload_n 0, 1) := by decide +kernel
theorem dX11_ask_1 : decode cX11_ask 1 = .ok (.iload_n 1, 1) := by decide +kernel
theorem dX11_ask_2 : decode cX11_ask 2 = .ok (.invokevirtual 270, 3) := by decide +kernel
theorem dX11_ask_5 : decode cX11_ask 5 = .ok (.ifCond .eq 12, 3) := by decide +kernel
theorem dX11_ask_8 : decode cX11_ask 8 = .ok (.iload_n 2, 1) := by decide +kernel
theorem dX11_ask_9 : decode cX11_ask 9 = .ok (.iconst 0, 1) := by decide +kernel
theorem dX11_ask_10 : decode cX11_ask 10 = .ok (.iconst 1, 1) := by decide +kernel
theorem dX11_ask_11 : decode cX11_ask 11 = .ok (.invokestatic 96, 3) := by decide +kernel
theorem dX11_ask_14 : decode cX11_ask 14 = .ok (.ifCond .ne 6, 3) := by decide +kernel
theorem dX11_ask_17 : decode cX11_ask 17 = .ok (.ldc 100, 2) := by decide +kernel
theorem dX11_ask_19 : decode cX11_ask 19 = .ok (.ireturn, 1) := by decide +kernel
theorem dX11_ask_20 : decode cX11_ask 20 = .ok (.aload_n 0, 1) := by decide +kernel
theorem dX11_ask_21 : decode cX11_ask 21 = .ok (.getfield 60, 3) := by decide +kernel
theorem dX11_ask_24 : decode cX11_ask 24 = .ok (.iconst 0, 1) := by decide +kernel
theorem dX11_ask_25 : decode cX11_ask 25 = .ok (.putfield 358, 3) := by decide +kernel
theorem dX11_ask_28 : decode cX11_ask 28 = .ok (.aload_n 0, 1) := by decide +kernel
theorem dX11_ask_29 : decode cX11_ask 29 = .ok (.getfield 51, 3) := by decide +kernel
theorem dX11_ask_32 : decode cX11_ask 32 = .ok (.iload_n 1, 1) := by decide +kernel
theorem dX11_ask_33 : decode cX11_ask 33 = .ok (.aload_n 0, 1) := by decide +kernel
theorem dX11_ask_34 : decode cX11_ask 34 = .ok (.getfield 346, 3) := by decide +kernel
theorem dX11_ask_37 : decode cX11_ask 37 = .ok (.invokevirtual 349, 3) := by decide +kernel
theorem dX11_ask_40 : decode cX11_ask 40 = .ok (.istore_n 3, 1) := by decide +kernel
theorem dX11_ask_41 : decode cX11_ask 41 = .ok (.iload_n 2, 1) := by decide +kernel
theorem dX11_ask_42 : decode cX11_ask 42 = .ok (.ifCond .ne 15, 3) := by decide +kernel
theorem dX11_ask_45 : decode cX11_ask 45 = .ok (.aload_n 0, 1) := by decide +kernel
theorem dX11_ask_46 : decode cX11_ask 46 = .ok (.getfield 60, 3) := by decide +kernel
theorem dX11_ask_49 : decode cX11_ask 49 = .ok (.iload_n 1, 1) := by decide +kernel
theorem dX11_ask_50 : decode cX11_ask 50 = .ok (.iload_n 3, 1) := by decide +kernel
theorem dX11_ask_51 : decode cX11_ask 51 = .ok (.invokevirtual 361, 3) := by decide +kernel
theorem dX11_ask_54 : decode cX11_ask 54 = .ok (.goto 12, 3) := by decide +kernel
theorem dX11_ask_57 : decode cX11_ask 57 = .ok (.aload_n 0, 1) := by decide +kernel
theorem dX11_ask_58 : decode cX11_ask 58 = .ok (.getfield 60, 3) := by decide +kernel
theorem dX11_ask_61 : decode cX11_ask 61 = .ok (.iload_n 1, 1) := by decide +kernel
theorem dX11_ask_62 : decode cX11_ask 62 = .ok (.iload_n 3, 1) := by decide +kernel
theorem dX11_ask_63 : decode cX11_ask 63 = .ok (.invokevirtual 364, 3) := by decide +kernel
theorem dX11_ask_66 : decode cX11_ask 66 = .ok (.ireturn, 1) := by decide +kernel
theorem dX11_trace_0 : decode cX11_trace 0 = .ok (.iload_n 1, 1) := by decide +kernel
theorem dX11_trace_1 : decode cX11_trace 1 = .ok (.iconst 0, 1) := by decide +kernel
theorem dX11_trace_2 : decode cX11_trace 2 = .ok (.aload_n 0, 1) := by decide +kernel
theorem dX11_trace_3 : decode cX11_trace 3 = .ok (.getfield 60, 3) := by decide +kernel
theorem dX11_trace_6 : decode cX11_trace 6 = .ok (.getfield 358, 3) := by decide +kernel
theorem dX11_trace_9 : decode cX11_trace 9 = .ok (.iconst 1, 1) := by decide +kernel
theorem dX11_trace_10 : decode cX11_trace 10 = .ok (.isub, 1) := by decide +kernel
theorem dX11_trace_11 : decode cX11_trace 11 = .ok (.invokestatic 96, 3) := by decide +kernel
theorem dX11_trace_14 : decode cX11_trace 14 = .ok (.ifCond .eq 15, 3) := by decide +kernel
theorem dX11_trace_17 : decode cX11_trace 17 = .ok (.aload_n 0, 1) := by decide +kernel
theorem dX11_trace_18 : decode cX11_trace 18 = .ok (.getfield 60, 3) := by decide +kernel
theorem dX11_trace_21 : decode cX11_trace 21 = .ok (.getfield 367, 3) := by decide +kernel
theorem dX11_trace_24 : decode cX11_trace 24 = .ok (.iload_n 1, 1) := by decide +kernel
theorem dX11_trace_25 : decode cX11_trace 25 = .ok (.iaload, 1) := by decide +kernel
theorem dX11_trace_26 : decode cX11_trace 26 = .ok (.goto 5, 3) := by decide +kernel
theorem dX11_trace_29 : decode cX11_trace 29 = .ok (.ldc 206, 2) := by decide +kernel
theorem dX11_trace_31 : decode cX11_trace 31 = .ok (.ireturn, 1) := by decide +kernel
theorem dX11_count_0 : decode cX11_count 0 = .ok (.iload_n 1, 1) := by decide +kernel
theorem dX11_count_1 : decode cX11_count 1 = .ok (.tableswitch 136 0 8 #[51, 59, 67, 75, 83, 91, 104, 117, 128], 51) := by decide +kernel
theorem dX11_count_52 : decode cX11_count 52 = .ok (.aload_n 0, 1) := by decide +kernel
theorem dX11_count_53 : decode cX11_count 53 = .ok (.getfield 10, 3) := by decide +kernel
theorem dX11_count_56 : decode cX11_count 56 = .ok (.invokevirtual 370, 3) := by decide +kernel
theorem dX11_count_59 : decode cX11_count 59 = .ok (.ireturn, 1) := by decide +kernel
theorem dX11_count_60 : decode cX11_count 60 = .ok (.aload_n 0, 1) := by decide +kernel
theorem dX11_count_61 : decode cX11_count 61 = .ok (.getfield 26, 3) := by decide +kernel
theorem dX11_count_64 : decode cX11_count 64 = .ok (.getfield 174, 3) := by decide +kernel
theorem dX11_count_67 : decode cX11_count 67 = .ok (.ireturn, 1) := by decide +kernel
theorem dX11_count_68 : decode cX11_count 68 = .ok (.aload_n 0, 1) := by decide +kernel
theorem dX11_count_69 : decode cX11_count 69 = .ok (.getfield 44, 3) := by decide +kernel
theorem dX11_count_72 : decode cX11_count 72 = .ok (.getfield 194, 3) := by decide +kernel
theorem dX11_count_75 : decode cX11_count 75 = .ok (.ireturn, 1) := by decide +kernel
theorem dX11_count_76 : decode cX11_count 76 = .ok (.aload_n 0, 1) := by decide +kernel
theorem dX11_count_77 : decode cX11_count 77 = .ok (.getfield 44, 3) := by decide +kernel
theorem dX11_count_80 : decode cX11_count 80 = .ok (.getfield 217, 3) := by decide +kernel
theorem dX11_count_83 : decode cX11_count 83 = .ok (.ireturn, 1) := by decide +kernel
theorem dX11_count_84 : decode cX11_count 84 = .ok (.aload_n 0, 1) := by decide +kernel
theorem dX11_count_85 : decode cX11_count 85 = .ok (.getfield 51, 3) := by decide +kernel
theorem dX11_count_88 : decode cX11_count 88 = .ok (.getfield 255, 3) := by decide +kernel
theorem dX11_count_91 : decode cX11_count 91 = .ok (.ireturn, 1) := by decide +kernel
theorem dX11_count_92 : decode cX11_count 92 = .ok (.aload_n 0, 1) := by decide +kernel
theorem dX11_count_93 : decode cX11_count 93 = .ok (.getfield 51, 3) := by decide +kernel
theorem dX11_count_96 : decode cX11_count 96 = .ok (.iconst 2, 1) := by decide +kernel
theorem dX11_count_97 : decode cX11_count 97 = .ok (.aload_n 0, 1) := by decide +kernel
theorem dX11_count_98 : decode cX11_count 98 = .ok (.getfield 346, 3) := by decide +kernel
theorem dX11_count_101 : decode cX11_count 101 = .ok (.invokevirtual 373, 3) := by decide +kernel
theorem dX11_count_104 : decode cX11_count 104 = .ok (.ireturn, 1) := by decide +kernel
theorem dX11_count_105 : decode cX11_count 105 = .ok (.aload_n 0, 1) := by decide +kernel
theorem dX11_count_106 : decode cX11_count 106 = .ok (.getfield 51, 3) := by decide +kernel
theorem dX11_count_109 : decode cX11_count 109 = .ok (.iconst 3, 1) := by decide +kernel
theorem dX11_count_110 : decode cX11_count 110 = .ok (.aload_n 0, 1) := by decide +kernel
theorem dX11_count_111 : decode cX11_count 111 = .ok (.getfield 346, 3) := by decide +kernel
theorem dX11_count_114 : decode cX11_count 114 = .ok (.invokevirtual 373, 3) := by decide +kernel
theorem dX11_count_117 : decode cX11_count 117 = .ok (.ireturn, 1) := by decide +kernel
theorem dX11_count_118 : decode cX11_count 118 = .ok (.aload_n 0, 1) := by decide +kernel
theorem dX11_count_119 : decode cX11_count 119 = .ok (.getfield 74, 3) := by decide +kernel
theorem dX11_count_122 : decode cX11_count 122 = .ok (.invokevirtual 319, 3) := by decide +kernel
theorem dX11_count_125 : decode cX11_count 125 = .ok (.invokestatic 376, 3) := by decide +kernel
theorem dX11_count_128 : decode cX11_count 128 = .ok (.ireturn, 1) := by decide +kernel
theorem dX11_count_129 : decode cX11_count 129 = .ok (.aload_n 0, 1) := by decide +kernel
theorem dX11_count_130 : decode cX11_count 130 = .ok (.getfield 35, 3) := by decide +kernel
theorem dX11_count_133 : decode cX11_count 133 = .ok (.getfield 166, 3) := by decide +kernel
theorem dX11_count_136 : decode cX11_count 136 = .ok (.ireturn, 1) := by decide +kernel
theorem dX11_count_137 : decode cX11_count 137 = .ok (.ldc 100, 2) := by decide +kernel
theorem dX11_count_139 : decode cX11_count 139 = .ok (.ireturn, 1) := by decide +kernel
theorem dX11_status_0 : decode cX11_status 0 = .ok (.aload_n 0, 1) := by decide +kernel
theorem dX11_status_1 : decode cX11_status 1 = .ok (.getfield 381, 3) := by decide +kernel
theorem dX11_status_4 : decode cX11_status 4 = .ok (.ireturn, 1) := by decide +kernel
theorem dX11_found_0 : decode cX11_found 0 = .ok (.aload_n 0, 1) := by decide +kernel
theorem dX11_found_1 : decode cX11_found 1 = .ok (.iload_n 1, 1) := by decide +kernel
theorem dX11_found_2 : decode cX11_found 2 = .ok (.putfield 381, 3) := by decide +kernel
theorem dX11_found_5 : decode cX11_found 5 = .ok (.ldc_w 384, 3) := by decide +kernel
theorem dX11_found_8 : decode cX11_found 8 = .ok (.iload_n 1, 1) := by decide +kernel
theorem dX11_found_9 : decode cX11_found 9 = .ok (.isub, 1) := by decide +kernel
theorem dX11_found_10 : decode cX11_found 10 = .ok (.ireturn, 1) := by decide +kernel
theorem dX11_fine_0 : decode cX11_fine 0 = .ok (.aload_n 0, 1) := by decide +kernel
theorem dX11_fine_1 : decode cX11_fine 1 = .ok (.iconst 0, 1) := by decide +kernel
theorem dX11_fine_2 : decode cX11_fine 2 = .ok (.putfield 381, 3) := by decide +kernel
theorem dX11_fine_5 : decode cX11_fine 5 = .ok (.iload_n 1, 1) := by decide +kernel
theorem dX11_fine_6 : decode cX11_fine 6 = .ok (.ireturn, 1) := by decide +kernel
theorem dX11_flawOf_0 : decode cX11_flawOf 0 = .ok (.aload_n 0, 1) := by decide +kernel
theorem dX11_flawOf_1 : decode cX11_flawOf 1 = .ok (.getfield 10, 3) := by decide +kernel
theorem dX11_flawOf_4 : decode cX11_flawOf 4 = .ok (.iload_n 1, 1) := by decide +kernel
theorem dX11_flawOf_5 : decode cX11_flawOf 5 = .ok (.invokevirtual 119, 3) := by decide +kernel
theorem dX11_flawOf_8 : decode cX11_flawOf 8 = .ok (.ifCond .eq 5, 3) := by decide +kernel
theorem dX11_flawOf_11 : decode cX11_flawOf 11 = .ok (.iconst 1, 1) := by decide +kernel
theorem dX11_flawOf_12 : decode cX11_flawOf 12 = .ok (.ireturn, 1) := by decide +kernel
theorem dX11_flawOf_13 : decode cX11_flawOf 13 = .ok (.aload_n 0, 1) := by decide +kernel
theorem dX11_flawOf_14 : decode cX11_flawOf 14 = .ok (.getfield 10, 3) := by decide +kernel
theorem dX11_flawOf_17 : decode cX11_flawOf 17 = .ok (.iload_n 1, 1) := by decide +kernel
theorem dX11_flawOf_18 : decode cX11_flawOf 18 = .ok (.iload_n 2, 1) := by decide +kernel
theorem dX11_flawOf_19 : decode cX11_flawOf 19 = .ok (.iload_n 3, 1) := by decide +kernel
theorem dX11_flawOf_20 : decode cX11_flawOf 20 = .ok (.invokevirtual 125, 3) := by decide +kernel
theorem dX11_flawOf_23 : decode cX11_flawOf 23 = .ok (.ifCond .eq 7, 3) := by decide +kernel
theorem dX11_flawOf_26 : decode cX11_flawOf 26 = .ok (.iconst 0, 1) := by decide +kernel
theorem dX11_flawOf_27 : decode cX11_flawOf 27 = .ok (.goto 4, 3) := by decide +kernel
theorem dX11_flawOf_30 : decode cX11_flawOf 30 = .ok (.iconst 2, 1) := by decide +kernel
theorem dX11_flawOf_31 : decode cX11_flawOf 31 = .ok (.ireturn, 1) := by decide +kernel
theorem dX11_isCart_0 : decode cX11_isCart 0 = .ok (.iload_n 1, 1) := by decide +kernel
theorem dX11_isCart_1 : decode cX11_isCart 1 = .ok (.iconst 0, 1) := by decide +kernel
theorem dX11_isCart_2 : decode cX11_isCart 2 = .ok (.aload_n 0, 1) := by decide +kernel
theorem dX11_isCart_3 : decode cX11_isCart 3 = .ok (.getfield 44, 3) := by decide +kernel
theorem dX11_isCart_6 : decode cX11_isCart 6 = .ok (.getfield 194, 3) := by decide +kernel
theorem dX11_isCart_9 : decode cX11_isCart 9 = .ok (.iconst 1, 1) := by decide +kernel
theorem dX11_isCart_10 : decode cX11_isCart 10 = .ok (.isub, 1) := by decide +kernel
theorem dX11_isCart_11 : decode cX11_isCart 11 = .ok (.invokestatic 96, 3) := by decide +kernel
theorem dX11_isCart_14 : decode cX11_isCart 14 = .ok (.ireturn, 1) := by decide +kernel
theorem dX11_isPass_0 : decode cX11_isPass 0 = .ok (.iload_n 1, 1) := by decide +kernel
theorem dX11_isPass_1 : decode cX11_isPass 1 = .ok (.iconst 0, 1) := by decide +kernel
theorem dX11_isPass_2 : decode cX11_isPass 2 = .ok (.aload_n 0, 1) := by decide +kernel
theorem dX11_isPass_3 : decode cX11_isPass 3 = .ok (.getfield 51, 3) := by decide +kernel
theorem dX11_isPass_6 : decode cX11_isPass 6 = .ok (.getfield 255, 3) := by decide +kernel
theorem dX11_isPass_9 : decode cX11_isPass 9 = .ok (.iconst 1, 1) := by decide +kernel
theorem dX11_isPass_10 : decode cX11_isPass 10 = .ok (.isub, 1) := by decide +kernel
theorem dX11_isPass_11 : decode cX11_isPass 11 = .ok (.invokestatic 96, 3) := by decide +kernel
theorem dX11_isPass_14 : decode cX11_isPass 14 = .ok (.ireturn, 1) := by decide +kernel
theorem dX11_isSheet_0 : decode cX11_isSheet 0 = .ok (.iload_n 0, 1) := by decide +kernel
theorem dX11_isSheet_1 : decode cX11_isSheet 1 = .ok (.iconst 0, 1) := by decide +kernel
theorem dX11_isSheet_2 : decode cX11_isSheet 2 = .ok (.bipush 7, 2) := by decide +kernel
theorem dX11_isSheet_4 : decode cX11_isSheet 4 = .ok (.invokestatic 96, 3) := by decide +kernel
theorem dX11_isSheet_7 : decode cX11_isSheet 7 = .ok (.ireturn, 1) := by decide +kernel
theorem dX11_isGate_0 : decode cX11_isGate 0 = .ok (.iload_n 0, 1) := by decide +kernel
theorem dX11_isGate_1 : decode cX11_isGate 1 = .ok (.iconst 0, 1) := by decide +kernel
theorem dX11_isGate_2 : decode cX11_isGate 2 = .ok (.bipush 8, 2) := by decide +kernel
theorem dX11_isGate_4 : decode cX11_isGate 4 = .ok (.invokestatic 96, 3) := by decide +kernel
theorem dX11_isGate_7 : decode cX11_isGate 7 = .ok (.ireturn, 1) := by decide +kernel
theorem dX11_isTown_0 : decode cX11_isTown 0 = .ok (.iload_n 0, 1) := by decide +kernel
theorem dX11_isTown_1 : decode cX11_isTown 1 = .ok (.iconst 0, 1) := by decide +kernel
theorem dX11_isTown_2 : decode cX11_isTown 2 = .ok (.bipush 7, 2) := by decide +kernel
theorem dX11_isTown_4 : decode cX11_isTown 4 = .ok (.invokestatic 96, 3) := by decide +kernel
theorem dX11_isTown_7 : decode cX11_isTown 7 = .ok (.ireturn, 1) := by decide +kernel
theorem dX11_isPerson_0 : decode cX11_isPerson 0 = .ok (.iload_n 0, 1) := by decide +kernel
theorem dX11_isPerson_1 : decode cX11_isPerson 1 = .ok (.iconst 0, 1) := by decide +kernel
theorem dX11_isPerson_2 : decode cX11_isPerson 2 = .ok (.bipush 11, 2) := by decide +kernel
theorem dX11_isPerson_4 : decode cX11_isPerson 4 = .ok (.invokestatic 96, 3) := by decide +kernel
theorem dX11_isPerson_7 : decode cX11_isPerson 7 = .ok (.ireturn, 1) := by decide +kernel
theorem dX11_isHouse_0 : decode cX11_isHouse 0 = .ok (.iload_n 0, 1) := by decide +kernel
theorem dX11_isHouse_1 : decode cX11_isHouse 1 = .ok (.iconst 0, 1) := by decide +kernel
theorem dX11_isHouse_2 : decode cX11_isHouse 2 = .ok (.bipush 7, 2) := by decide +kernel
theorem dX11_isHouse_4 : decode cX11_isHouse 4 = .ok (.invokestatic 96, 3) := by decide +kernel
theorem dX11_isHouse_7 : decode cX11_isHouse 7 = .ok (.ireturn, 1) := by decide +kernel
theorem dX11_isLength_0 : decode cX11_isLength 0 = .ok (.iload_n 0, 1) := by decide +kernel
theorem dX11_isLength_1 : decode cX11_isLength 1 = .ok (.iconst 0, 1) := by decide +kernel
theorem dX11_isLength_2 : decode cX11_isLength 2 = .ok (.bipush 11, 2) := by decide +kernel
theorem dX11_isLength_4 : decode cX11_isLength 4 = .ok (.invokestatic 96, 3) := by decide +kernel
theorem dX11_isLength_7 : decode cX11_isLength 7 = .ok (.ireturn, 1) := by decide +kernel
theorem dX11_isDay_0 : decode cX11_isDay 0 = .ok (.iload_n 0, 1) := by decide +kernel
theorem dX11_isDay_1 : decode cX11_isDay 1 = .ok (.iconst 0, 1) := by decide +kernel
theorem dX11_isDay_2 : decode cX11_isDay 2 = .ok (.sipush 999, 3) := by decide +kernel
theorem dX11_isDay_5 : decode cX11_isDay 5 = .ok (.invokestatic 96, 3) := by decide +kernel
theorem dX11_isDay_8 : decode cX11_isDay 8 = .ok (.ireturn, 1) := by decide +kernel
theorem dX11_areDays_0 : decode cX11_areDays 0 = .ok (.iload_n 0, 1) := by decide +kernel
theorem dX11_areDays_1 : decode cX11_areDays 1 = .ok (.invokestatic 184, 3) := by decide +kernel
theorem dX11_areDays_4 : decode cX11_areDays 4 = .ok (.ifCond .eq 19, 3) := by decide +kernel
theorem dX11_areDays_7 : decode cX11_areDays 7 = .ok (.iload_n 1, 1) := by decide +kernel
theorem dX11_areDays_8 : decode cX11_areDays 8 = .ok (.invokestatic 184, 3) := by decide +kernel
theorem dX11_areDays_11 : decode cX11_areDays 11 = .ok (.ifCond .eq 12, 3) := by decide +kernel
theorem dX11_areDays_14 : decode cX11_areDays 14 = .ok (.iload_n 0, 1) := by decide +kernel
theorem dX11_areDays_15 : decode cX11_areDays 15 = .ok (.iload_n 1, 1) := by decide +kernel
theorem dX11_areDays_16 : decode cX11_areDays 16 = .ok (.if_icmp .gt 7, 3) := by decide +kernel
theorem dX11_areDays_19 : decode cX11_areDays 19 = .ok (.iconst 1, 1) := by decide +kernel
theorem dX11_areDays_20 : decode cX11_areDays 20 = .ok (.goto 4, 3) := by decide +kernel
theorem dX11_areDays_23 : decode cX11_areDays 23 = .ok (.iconst 0, 1) := by decide +kernel
theorem dX11_areDays_24 : decode cX11_areDays 24 = .ok (.ireturn, 1) := by decide +kernel
theorem dX11_isMinute_0 : decode cX11_isMinute 0 = .ok (.iload_n 0, 1) := by decide +kernel
theorem dX11_isMinute_1 : decode cX11_isMinute 1 = .ok (.iconst 0, 1) := by decide +kernel
theorem dX11_isMinute_2 : decode cX11_isMinute 2 = .ok (.sipush 1439, 3) := by decide +kernel
theorem dX11_isMinute_5 : decode cX11_isMinute 5 = .ok (.invokestatic 96, 3) := by decide +kernel
theorem dX11_isMinute_8 : decode cX11_isMinute 8 = .ok (.ireturn, 1) := by decide +kernel
theorem dX11_isPlace_0 : decode cX11_isPlace 0 = .ok (.iload_n 0, 1) := by decide +kernel
theorem dX11_isPlace_1 : decode cX11_isPlace 1 = .ok (.iconst 0, 1) := by decide +kernel
theorem dX11_isPlace_2 : decode cX11_isPlace 2 = .ok (.sipush 999, 3) := by decide +kernel
theorem dX11_isPlace_5 : decode cX11_isPlace 5 = .ok (.invokestatic 96, 3) := by decide +kernel
theorem dX11_isPlace_8 : decode cX11_isPlace 8 = .ok (.ifCond .eq 18, 3) := by decide +kernel
theorem dX11_isPlace_11 : decode cX11_isPlace 11 = .ok (.iload_n 1, 1) := by decide +kernel
theorem dX11_isPlace_12 : decode cX11_isPlace 12 = .ok (.iconst 0, 1) := by decide +kernel
theorem dX11_isPlace_13 : decode cX11_isPlace 13 = .ok (.sipush 999, 3) := by decide +kernel
theorem dX11_isPlace_16 : decode cX11_isPlace 16 = .ok (.invokestatic 96, 3) := by decide +kernel
theorem dX11_isPlace_19 : decode cX11_isPlace 19 = .ok (.ifCond .eq 7, 3) := by decide +kernel
theorem dX11_isPlace_22 : decode cX11_isPlace 22 = .ok (.iconst 1, 1) := by decide +kernel
theorem dX11_isPlace_23 : decode cX11_isPlace 23 = .ok (.goto 4, 3) := by decide +kernel
theorem dX11_isPlace_26 : decode cX11_isPlace 26 = .ok (.iconst 0, 1) := by decide +kernel
theorem dX11_isPlace_27 : decode cX11_isPlace 27 = .ok (.ireturn, 1) := by decide +kernel
theorem dX11_within_0 : decode cX11_within 0 = .ok (.iload_n 0, 1) := by decide +kernel
theorem dX11_within_1 : decode cX11_within 1 = .ok (.iload_n 1, 1) := by decide +kernel
theorem dX11_within_2 : decode cX11_within 2 = .ok (.if_icmp .lt 12, 3) := by decide +kernel
theorem dX11_within_5 : decode cX11_within 5 = .ok (.iload_n 0, 1) := by decide +kernel
theorem dX11_within_6 : decode cX11_within 6 = .ok (.iload_n 2, 1) := by decide +kernel
theorem dX11_within_7 : decode cX11_within 7 = .ok (.if_icmp .gt 7, 3) := by decide +kernel
theorem dX11_within_10 : decode cX11_within 10 = .ok (.iconst 1, 1) := by decide +kernel
theorem dX11_within_11 : decode cX11_within 11 = .ok (.goto 4, 3) := by decide +kernel
theorem dX11_within_14 : decode cX11_within 14 = .ok (.iconst 0, 1) := by decide +kernel
theorem dX11_within_15 : decode cX11_within 15 = .ok (.ireturn, 1) := by decide +kernel
set_option maxRecDepth 100000 in
set_option maxHeartbeats 4000000 in
theorem B_X11_sheet_0 {g : gp} {u : sg} {Q : Option Value → sg → Prop} (x1 : Int32) (x2 : Int32) (x3 : Int32) (h : Go g iX11_isSheet 0 [some (.int x1)] [] u (QI (fun r1 u1 => ((r1 = (0 : Int32) → Q (some (.int (-1000001 : Int32))) u1) ∧ (¬ r1 = (0 : Int32) → Go g iX11_within 0 [some (.int x2), some (.int 0), some (.int 2)] [] u1 (QI (fun r2 u2 => ((r2 = (0 : Int32) → Q (some (.int (-1000001 : Int32))) u2) ∧ (¬ r2 = (0 : Int32) → ((x3 ≤ (64 : Int32) → (((0 : Int32) ≤ x3 → Go g iX8_lay 0 [some (.ref (gd g 9)), some (.int x1), some (.int x2), some (.int x3), none] [] u2 (QV (fun u3 => Go g iX11_fine 0 [some (.ref (gd g 0)), some (.int x3)] [] u3 (QI (fun r4 u4 => Q (some (.int r4)) u4))))) ∧ (¬ (0 : Int32) ≤ x3 → Go g iX11_found 0 [some (.ref (gd g 0)), some (.int 4)] [] u2 (QI (fun r5 u5 => Q (some (.int r5)) u5))))) ∧ (¬ x3 ≤ (64 : Int32) → Q (some (.int (-1000001 : Int32))) u2))))))))))) : Go g iX11_sheet 0 [some (.ref (gd g 0)), some (.int x1), some (.int x2), some (.int x3)] [] u Q := by
  refine go_iload_n dX11_sheet_0 rfl rfl ?_
  refine go_cSi (As := [.int x1]) (st := []) (lc := [some (.int x1)]) dX11_sheet_1 me_X11_isSheet qm_X11_92 rfl (Nat.le_of_ble_eq_true rfl) rfl ⟨Nat.le_of_ble_eq_true rfl, Nat.le_of_ble_eq_true rfl⟩ rfl (Nat.le_of_ble_eq_true rfl) h (fun r1 u1 h => ?_)
  refine go_if_eq (tgt := 22) dX11_sheet_4 (by decide) (fun hc => ?_) (fun hc => ?_)
  · replace h := h.1 hc
    refine go_ldc dX11_sheet_22 qc_X11_100 ?_
    exact go_iret dX11_sheet_24 rfl h
  · replace h := h.2 hc
    refine go_iload_n dX11_sheet_7 rfl rfl ?_
    refine go_iconst (v := 0) dX11_sheet_8 (by decide) ?_
    refine go_iconst (v := 2) dX11_sheet_9 (by decide) ?_
    refine go_cSi (As := [.int x2, .int 0, .int 2]) (st := []) (lc := [some (.int x2), some (.int 0), some (.int 2)]) dX11_sheet_10 me_X11_within qm_X11_96 rfl (Nat.le_of_ble_eq_true rfl) rfl ⟨Nat.le_of_ble_eq_true rfl, Nat.le_of_ble_eq_true rfl⟩ rfl (Nat.le_of_ble_eq_true rfl) h (fun r2 u2 h => ?_)
    refine go_if_eq (tgt := 22) dX11_sheet_13 (by decide) (fun hc => ?_) (fun hc => ?_)
    · replace h := h.1 hc
      refine go_ldc dX11_sheet_22 qc_X11_100 ?_
      exact go_iret dX11_sheet_24 rfl h
    · replace h := h.2 hc
      refine go_iload_n dX11_sheet_16 rfl rfl ?_
      refine go_bipush (v := 64) dX11_sheet_17 (by decide) ?_
      refine go_icmp_le (tgt := 25) dX11_sheet_19 (by decide) (fun hc => ?_) (fun hc => ?_)
      · replace h := h.1 hc
        refine go_iload_n dX11_sheet_25 rfl rfl ?_
        refine go_if_ge (tgt := 35) dX11_sheet_26 (by decide) (fun hc => ?_) (fun hc => ?_)
        · replace h := h.1 hc
          refine go_aload_n dX11_sheet_35 rfl rfl ?_
          refine go_get (k := 0) (v := .ref (gd g 9)) dX11_sheet_36 ob_0 (by decide) qf_X11_10 rfl ?_
          refine go_iload_n dX11_sheet_39 rfl rfl ?_
          refine go_iload_n dX11_sheet_40 rfl rfl ?_
          refine go_iload_n dX11_sheet_41 rfl rfl ?_
          refine go_cVv (o := 9) (As := [.int x1, .int x2, .int x3]) (st := []) (lc := [some (.ref (gd g 9)), some (.int x1), some (.int x2), some (.int x3), none]) dX11_sheet_42 me_X8_lay rfl ob_9 qm_X11_105 rfl (Nat.le_of_ble_eq_true rfl) rfl ⟨Nat.le_of_ble_eq_true rfl, Nat.le_of_ble_eq_true rfl⟩ rfl (Nat.le_of_ble_eq_true rfl) h (fun u3 h => ?_)
          refine go_aload_n dX11_sheet_45 rfl rfl ?_
          refine go_iload_n dX11_sheet_46 rfl rfl ?_
          refine go_cVi (o := 0) (As := [.int x3]) (st := []) (lc := [some (.ref (gd g 0)), some (.int x3)]) dX11_sheet_47 me_X11_fine rfl ob_0 qm_X11_109 rfl (Nat.le_of_ble_eq_true rfl) rfl ⟨Nat.le_of_ble_eq_true rfl, Nat.le_of_ble_eq_true rfl⟩ rfl (Nat.le_of_ble_eq_true rfl) h (fun r4 u4 h => ?_)
          exact go_iret dX11_sheet_50 rfl h
        · replace h := h.2 hc
          refine go_aload_n dX11_sheet_29 rfl rfl ?_
          refine go_iconst (v := 4) dX11_sheet_30 (by decide) ?_
          refine go_cVi (o := 0) (As := [.int 4]) (st := []) (lc := [some (.ref (gd g 0)), some (.int 4)]) dX11_sheet_31 me_X11_found rfl ob_0 qm_X11_101 rfl (Nat.le_of_ble_eq_true rfl) rfl ⟨Nat.le_of_ble_eq_true rfl, Nat.le_of_ble_eq_true rfl⟩ rfl (Nat.le_of_ble_eq_true rfl) h (fun r5 u5 h => ?_)
          exact go_iret dX11_sheet_34 rfl h
      · replace h := h.2 hc
        refine go_ldc dX11_sheet_22 qc_X11_100 ?_
        exact go_iret dX11_sheet_24 rfl h
set_option maxRecDepth 100000 in
set_option maxHeartbeats 4000000 in
theorem B_X11_set_0 {g : gp} {u : sg} {Q : Option Value → sg → Prop} (x1 : Int32) (x2 : Int32) (x3 : Int32) (h : Go g iX11_isSheet 0 [some (.int x1)] [] u (QI (fun r1 u1 => ((¬ r1 = (0 : Int32) → Go g iX11_flawOf 0 [some (.ref (gd g 0)), some (.int x1), some (.int x2), some (.int 1)] [] u1 (QI (fun r2 u2 => ((r2 = (0 : Int32) → Go g iX8_put 0 [some (.ref (gd g 9)), some (.int x1), some (.int x2), some (.int x3), none] [] u2 (QI (fun r3 u3 => Go g iX11_fine 0 [some (.ref (gd g 0)), some (.int r3)] [] u3 (QI (fun r4 u4 => Q (some (.int r4)) u4))))) ∧ (¬ r2 = (0 : Int32) → Go g iX11_found 0 [some (.ref (gd g 0)), some (.int r2)] [] u2 (QI (fun r5 u5 => Q (some (.int r5)) u5))))))) ∧ (r1 = (0 : Int32) → Q (some (.int (-1000001 : Int32))) u1))))) : Go g iX11_set 0 [some (.ref (gd g 0)), some (.int x1), some (.int x2), some (.int x3), none] [] u Q := by
  refine go_iload_n dX11_set_0 rfl rfl ?_
  refine go_cSi (As := [.int x1]) (st := []) (lc := [some (.int x1)]) dX11_set_1 me_X11_isSheet qm_X11_92 rfl (Nat.le_of_ble_eq_true rfl) rfl ⟨Nat.le_of_ble_eq_true rfl, Nat.le_of_ble_eq_true rfl⟩ rfl (Nat.le_of_ble_eq_true rfl) h (fun r1 u1 h => ?_)
  refine go_if_ne (tgt := 10) dX11_set_4 (by decide) (fun hc => ?_) (fun hc => ?_)
  · replace h := h.1 hc
    refine go_aload_n dX11_set_10 rfl rfl ?_
    refine go_iload_n dX11_set_11 rfl rfl ?_
    refine go_iload_n dX11_set_12 rfl rfl ?_
    refine go_iconst (v := 1) dX11_set_13 (by decide) ?_
    refine go_cVi (o := 0) (As := [.int x1, .int x2, .int 1]) (st := []) (lc := [some (.ref (gd g 0)), some (.int x1), some (.int x2), some (.int 1)]) dX11_set_14 me_X11_flawOf rfl ob_0 qm_X11_112 rfl (Nat.le_of_ble_eq_true rfl) rfl ⟨Nat.le_of_ble_eq_true rfl, Nat.le_of_ble_eq_true rfl⟩ rfl (Nat.le_of_ble_eq_true rfl) h (fun r2 u2 h => ?_)
    refine go_istore (lm := [some (.ref (gd g 0)), some (.int x1), some (.int x2), some (.int x3), some (.int r2)]) dX11_set_17 (by decide) rfl rfl ?_
    refine go_iload dX11_set_19 rfl ?_
    refine go_if_eq (tgt := 31) dX11_set_21 (by decide) (fun hc => ?_) (fun hc => ?_)
    · replace h := h.1 hc
      refine go_aload_n dX11_set_31 rfl rfl ?_
      refine go_aload_n dX11_set_32 rfl rfl ?_
      refine go_get (k := 0) (v := .ref (gd g 9)) dX11_set_33 ob_0 (by decide) qf_X11_10 rfl ?_
      refine go_iload_n dX11_set_36 rfl rfl ?_
      refine go_iload_n dX11_set_37 rfl rfl ?_
      refine go_iload_n dX11_set_38 rfl rfl ?_
      refine go_cVi (o := 9) (As := [.int x1, .int x2, .int x3]) (st := [.ref (gd g 0)]) (lc := [some (.ref (gd g 9)), some (.int x1), some (.int x2), some (.int x3), none]) dX11_set_39 me_X8_put rfl ob_9 qm_X11_116 rfl (Nat.le_of_ble_eq_true rfl) rfl ⟨Nat.le_of_ble_eq_true rfl, Nat.le_of_ble_eq_true rfl⟩ rfl (Nat.le_of_ble_eq_true rfl) h (fun r3 u3 h => ?_)
      refine go_cVi (o := 0) (As := [.int r3]) (st := []) (lc := [some (.ref (gd g 0)), some (.int r3)]) dX11_set_42 me_X11_fine rfl ob_0 qm_X11_109 rfl (Nat.le_of_ble_eq_true rfl) rfl ⟨Nat.le_of_ble_eq_true rfl, Nat.le_of_ble_eq_true rfl⟩ rfl (Nat.le_of_ble_eq_true rfl) h (fun r4 u4 h => ?_)
      exact go_iret dX11_set_45 rfl h
    · replace h := h.2 hc
      refine go_aload_n dX11_set_24 rfl rfl ?_
      refine go_iload dX11_set_25 rfl ?_
      refine go_cVi (o := 0) (As := [.int r2]) (st := []) (lc := [some (.ref (gd g 0)), some (.int r2)]) dX11_set_27 me_X11_found rfl ob_0 qm_X11_101 rfl (Nat.le_of_ble_eq_true rfl) rfl ⟨Nat.le_of_ble_eq_true rfl, Nat.le_of_ble_eq_true rfl⟩ rfl (Nat.le_of_ble_eq_true rfl) h (fun r5 u5 h => ?_)
      exact go_iret dX11_set_30 rfl h
  · replace h := h.2 hc
    refine go_ldc dX11_set_7 qc_X11_100 ?_
    exact go_iret dX11_set_9 rfl h
set_option maxRecDepth 100000 in
set_option maxHeartbeats 4000000 in
theorem B_X11_copy_0 {g : gp} {u : sg} {Q : Option Value → sg → Prop} (x1 : Int32) (x2 : Int32) (x3 : Int32) (x4 : Int32) (x5 : Int32) (h : Go g iX11_isSheet 0 [some (.int x1)] [] u (QI (fun r1 u1 => ((r1 = (0 : Int32) → Q (some (.int (-1000001 : Int32))) u1) ∧ (¬ r1 = (0 : Int32) → Go g iX11_isSheet 0 [some (.int x3)] [] u1 (QI (fun r2 u2 => ((¬ r2 = (0 : Int32) → Go g iX8_isMissing 0 [some (.ref (gd g 9)), some (.int x1)] [] u2 (QI (fun r3 u3 => ((¬ r3 = (0 : Int32) → Go g iX11_found 0 [some (.ref (gd g 0)), some (.int 1)] [] u3 (QI (fun r4 u4 => Q (some (.int r4)) u4))) ∧ (r3 = (0 : Int32) → Go g iX8_isMissing 0 [some (.ref (gd g 9)), some (.int x3)] [] u3 (QI (fun r5 u5 => ((r5 = (0 : Int32) → Go g iX8_laneOf 0 [some (.ref (gd g 9)), some (.int x1)] [] u5 (QI (fun r6 u6 => Go g iX8_laneOf 0 [some (.ref (gd g 9)), some (.int x3)] [] u6 (QI (fun r7 u7 => ((r6 = r7 → Go g iX8_hasPlaces 0 [some (.ref (gd g 9)), some (.int x1), some (.int x2), some (.int x5)] [] u7 (QI (fun r8 u8 => ((r8 = (0 : Int32) → Go g iX11_found 0 [some (.ref (gd g 0)), some (.int 2)] [] u8 (QI (fun r9 u9 => Q (some (.int r9)) u9))) ∧ (¬ r8 = (0 : Int32) → Go g iX8_hasPlaces 0 [some (.ref (gd g 9)), some (.int x3), some (.int x4), some (.int x5)] [] u8 (QI (fun r10 u10 => ((¬ r10 = (0 : Int32) → Go g iX8_move 0 [some (.ref (gd g 9)), some (.int x1), some (.int x2), some (.int x3), some (.int x4), some (.int x5)] [] u10 (QV (fun u11 => Go g iX11_fine 0 [some (.ref (gd g 0)), some (.int x5)] [] u11 (QI (fun r12 u12 => Q (some (.int r12)) u12))))) ∧ (r10 = (0 : Int32) → Go g iX11_found 0 [some (.ref (gd g 0)), some (.int 2)] [] u10 (QI (fun r13 u13 => Q (some (.int r13)) u13))))))))))) ∧ (¬ r6 = r7 → Go g iX11_found 0 [some (.ref (gd g 0)), some (.int 5)] [] u7 (QI (fun r14 u14 => Q (some (.int r14)) u14))))))))) ∧ (¬ r5 = (0 : Int32) → Go g iX11_found 0 [some (.ref (gd g 0)), some (.int 1)] [] u5 (QI (fun r15 u15 => Q (some (.int r15)) u15))))))))))) ∧ (r2 = (0 : Int32) → Q (some (.int (-1000001 : Int32))) u2))))))))) : Go g iX11_copy 0 [some (.ref (gd g 0)), some (.int x1), some (.int x2), some (.int x3), some (.int x4), some (.int x5)] [] u Q := by
  refine go_iload_n dX11_copy_0 rfl rfl ?_
  refine go_cSi (As := [.int x1]) (st := []) (lc := [some (.int x1)]) dX11_copy_1 me_X11_isSheet qm_X11_92 rfl (Nat.le_of_ble_eq_true rfl) rfl ⟨Nat.le_of_ble_eq_true rfl, Nat.le_of_ble_eq_true rfl⟩ rfl (Nat.le_of_ble_eq_true rfl) h (fun r1 u1 h => ?_)
  refine go_if_eq (tgt := 14) dX11_copy_4 (by decide) (fun hc => ?_) (fun hc => ?_)
  · replace h := h.1 hc
    refine go_ldc dX11_copy_14 qc_X11_100 ?_
    exact go_iret dX11_copy_16 rfl h
  · replace h := h.2 hc
    refine go_iload_n dX11_copy_7 rfl rfl ?_
    refine go_cSi (As := [.int x3]) (st := []) (lc := [some (.int x3)]) dX11_copy_8 me_X11_isSheet qm_X11_92 rfl (Nat.le_of_ble_eq_true rfl) rfl ⟨Nat.le_of_ble_eq_true rfl, Nat.le_of_ble_eq_true rfl⟩ rfl (Nat.le_of_ble_eq_true rfl) h (fun r2 u2 h => ?_)
    refine go_if_ne (tgt := 17) dX11_copy_11 (by decide) (fun hc => ?_) (fun hc => ?_)
    · replace h := h.1 hc
      refine go_aload_n dX11_copy_17 rfl rfl ?_
      refine go_get (k := 0) (v := .ref (gd g 9)) dX11_copy_18 ob_0 (by decide) qf_X11_10 rfl ?_
      refine go_iload_n dX11_copy_21 rfl rfl ?_
      refine go_cVi (o := 9) (As := [.int x1]) (st := []) (lc := [some (.ref (gd g 9)), some (.int x1)]) dX11_copy_22 me_X8_isMissing rfl ob_9 qm_X11_119 rfl (Nat.le_of_ble_eq_true rfl) rfl ⟨Nat.le_of_ble_eq_true rfl, Nat.le_of_ble_eq_true rfl⟩ rfl (Nat.le_of_ble_eq_true rfl) h (fun r3 u3 h => ?_)
      refine go_if_ne (tgt := 39) dX11_copy_25 (by decide) (fun hc => ?_) (fun hc => ?_)
      · replace h := h.1 hc
        refine go_aload_n dX11_copy_39 rfl rfl ?_
        refine go_iconst (v := 1) dX11_copy_40 (by decide) ?_
        refine go_cVi (o := 0) (As := [.int 1]) (st := []) (lc := [some (.ref (gd g 0)), some (.int 1)]) dX11_copy_41 me_X11_found rfl ob_0 qm_X11_101 rfl (Nat.le_of_ble_eq_true rfl) rfl ⟨Nat.le_of_ble_eq_true rfl, Nat.le_of_ble_eq_true rfl⟩ rfl (Nat.le_of_ble_eq_true rfl) h (fun r4 u4 h => ?_)
        exact go_iret dX11_copy_44 rfl h
      · replace h := h.2 hc
        refine go_aload_n dX11_copy_28 rfl rfl ?_
        refine go_get (k := 0) (v := .ref (gd g 9)) dX11_copy_29 ob_0 (by decide) qf_X11_10 rfl ?_
        refine go_iload_n dX11_copy_32 rfl rfl ?_
        refine go_cVi (o := 9) (As := [.int x3]) (st := []) (lc := [some (.ref (gd g 9)), some (.int x3)]) dX11_copy_33 me_X8_isMissing rfl ob_9 qm_X11_119 rfl (Nat.le_of_ble_eq_true rfl) rfl ⟨Nat.le_of_ble_eq_true rfl, Nat.le_of_ble_eq_true rfl⟩ rfl (Nat.le_of_ble_eq_true rfl) h (fun r5 u5 h => ?_)
        refine go_if_eq (tgt := 45) dX11_copy_36 (by decide) (fun hc => ?_) (fun hc => ?_)
        · replace h := h.1 hc
          refine go_aload_n dX11_copy_45 rfl rfl ?_
          refine go_get (k := 0) (v := .ref (gd g 9)) dX11_copy_46 ob_0 (by decide) qf_X11_10 rfl ?_
          refine go_iload_n dX11_copy_49 rfl rfl ?_
          refine go_cVi (o := 9) (As := [.int x1]) (st := []) (lc := [some (.ref (gd g 9)), some (.int x1)]) dX11_copy_50 me_X8_laneOf rfl ob_9 qm_X11_122 rfl (Nat.le_of_ble_eq_true rfl) rfl ⟨Nat.le_of_ble_eq_true rfl, Nat.le_of_ble_eq_true rfl⟩ rfl (Nat.le_of_ble_eq_true rfl) h (fun r6 u6 h => ?_)
          refine go_aload_n dX11_copy_53 rfl rfl ?_
          refine go_get (k := 0) (v := .ref (gd g 9)) dX11_copy_54 ob_0 (by decide) qf_X11_10 rfl ?_
          refine go_iload_n dX11_copy_57 rfl rfl ?_
          refine go_cVi (o := 9) (As := [.int x3]) (st := [.int r6]) (lc := [some (.ref (gd g 9)), some (.int x3)]) dX11_copy_58 me_X8_laneOf rfl ob_9 qm_X11_122 rfl (Nat.le_of_ble_eq_true rfl) rfl ⟨Nat.le_of_ble_eq_true rfl, Nat.le_of_ble_eq_true rfl⟩ rfl (Nat.le_of_ble_eq_true rfl) h (fun r7 u7 h => ?_)
          refine go_icmp_eq (tgt := 70) dX11_copy_61 (by decide) (fun hc => ?_) (fun hc => ?_)
          · replace h := h.1 hc
            refine go_aload_n dX11_copy_70 rfl rfl ?_
            refine go_get (k := 0) (v := .ref (gd g 9)) dX11_copy_71 ob_0 (by decide) qf_X11_10 rfl ?_
            refine go_iload_n dX11_copy_74 rfl rfl ?_
            refine go_iload_n dX11_copy_75 rfl rfl ?_
            refine go_iload dX11_copy_76 rfl ?_
            refine go_cVi (o := 9) (As := [.int x1, .int x2, .int x5]) (st := []) (lc := [some (.ref (gd g 9)), some (.int x1), some (.int x2), some (.int x5)]) dX11_copy_78 me_X8_hasPlaces rfl ob_9 qm_X11_125 rfl (Nat.le_of_ble_eq_true rfl) rfl ⟨Nat.le_of_ble_eq_true rfl, Nat.le_of_ble_eq_true rfl⟩ rfl (Nat.le_of_ble_eq_true rfl) h (fun r8 u8 h => ?_)
            refine go_if_eq (tgt := 99) dX11_copy_81 (by decide) (fun hc => ?_) (fun hc => ?_)
            · replace h := h.1 hc
              refine go_aload_n dX11_copy_99 rfl rfl ?_
              refine go_iconst (v := 2) dX11_copy_100 (by decide) ?_
              refine go_cVi (o := 0) (As := [.int 2]) (st := []) (lc := [some (.ref (gd g 0)), some (.int 2)]) dX11_copy_101 me_X11_found rfl ob_0 qm_X11_101 rfl (Nat.le_of_ble_eq_true rfl) rfl ⟨Nat.le_of_ble_eq_true rfl, Nat.le_of_ble_eq_true rfl⟩ rfl (Nat.le_of_ble_eq_true rfl) h (fun r9 u9 h => ?_)
              exact go_iret dX11_copy_104 rfl h
            · replace h := h.2 hc
              refine go_aload_n dX11_copy_84 rfl rfl ?_
              refine go_get (k := 0) (v := .ref (gd g 9)) dX11_copy_85 ob_0 (by decide) qf_X11_10 rfl ?_
              refine go_iload_n dX11_copy_88 rfl rfl ?_
              refine go_iload dX11_copy_89 rfl ?_
              refine go_iload dX11_copy_91 rfl ?_
              refine go_cVi (o := 9) (As := [.int x3, .int x4, .int x5]) (st := []) (lc := [some (.ref (gd g 9)), some (.int x3), some (.int x4), some (.int x5)]) dX11_copy_93 me_X8_hasPlaces rfl ob_9 qm_X11_125 rfl (Nat.le_of_ble_eq_true rfl) rfl ⟨Nat.le_of_ble_eq_true rfl, Nat.le_of_ble_eq_true rfl⟩ rfl (Nat.le_of_ble_eq_true rfl) h (fun r10 u10 h => ?_)
              refine go_if_ne (tgt := 105) dX11_copy_96 (by decide) (fun hc => ?_) (fun hc => ?_)
              · replace h := h.1 hc
                refine go_aload_n dX11_copy_105 rfl rfl ?_
                refine go_get (k := 0) (v := .ref (gd g 9)) dX11_copy_106 ob_0 (by decide) qf_X11_10 rfl ?_
                refine go_iload_n dX11_copy_109 rfl rfl ?_
                refine go_iload_n dX11_copy_110 rfl rfl ?_
                refine go_iload_n dX11_copy_111 rfl rfl ?_
                refine go_iload dX11_copy_112 rfl ?_
                refine go_iload dX11_copy_114 rfl ?_
                refine go_cVv (o := 9) (As := [.int x1, .int x2, .int x3, .int x4, .int x5]) (st := []) (lc := [some (.ref (gd g 9)), some (.int x1), some (.int x2), some (.int x3), some (.int x4), some (.int x5)]) dX11_copy_116 me_X8_move rfl ob_9 qm_X11_128 rfl (Nat.le_of_ble_eq_true rfl) rfl ⟨Nat.le_of_ble_eq_true rfl, Nat.le_of_ble_eq_true rfl⟩ rfl (Nat.le_of_ble_eq_true rfl) h (fun u11 h => ?_)
                refine go_aload_n dX11_copy_119 rfl rfl ?_
                refine go_iload dX11_copy_120 rfl ?_
                refine go_cVi (o := 0) (As := [.int x5]) (st := []) (lc := [some (.ref (gd g 0)), some (.int x5)]) dX11_copy_122 me_X11_fine rfl ob_0 qm_X11_109 rfl (Nat.le_of_ble_eq_true rfl) rfl ⟨Nat.le_of_ble_eq_true rfl, Nat.le_of_ble_eq_true rfl⟩ rfl (Nat.le_of_ble_eq_true rfl) h (fun r12 u12 h => ?_)
                exact go_iret dX11_copy_125 rfl h
              · replace h := h.2 hc
                refine go_aload_n dX11_copy_99 rfl rfl ?_
                refine go_iconst (v := 2) dX11_copy_100 (by decide) ?_
                refine go_cVi (o := 0) (As := [.int 2]) (st := []) (lc := [some (.ref (gd g 0)), some (.int 2)]) dX11_copy_101 me_X11_found rfl ob_0 qm_X11_101 rfl (Nat.le_of_ble_eq_true rfl) rfl ⟨Nat.le_of_ble_eq_true rfl, Nat.le_of_ble_eq_true rfl⟩ rfl (Nat.le_of_ble_eq_true rfl) h (fun r13 u13 h => ?_)
                exact go_iret dX11_copy_104 rfl h
          · replace h := h.2 hc
            refine go_aload_n dX11_copy_64 rfl rfl ?_
            refine go_iconst (v := 5) dX11_copy_65 (by decide) ?_
            refine go_cVi (o := 0) (As := [.int 5]) (st := []) (lc := [some (.ref (gd g 0)), some (.int 5)]) dX11_copy_66 me_X11_found rfl ob_0 qm_X11_101 rfl (Nat.le_of_ble_eq_true rfl) rfl ⟨Nat.le_of_ble_eq_true rfl, Nat.le_of_ble_eq_true rfl⟩ rfl (Nat.le_of_ble_eq_true rfl) h (fun r14 u14 h => ?_)
            exact go_iret dX11_copy_69 rfl h
        · replace h := h.2 hc
          refine go_aload_n dX11_copy_39 rfl rfl ?_
          refine go_iconst (v := 1) dX11_copy_40 (by decide) ?_
          refine go_cVi (o := 0) (As := [.int 1]) (st := []) (lc := [some (.ref (gd g 0)), some (.int 1)]) dX11_copy_41 me_X11_found rfl ob_0 qm_X11_101 rfl (Nat.le_of_ble_eq_true rfl) rfl ⟨Nat.le_of_ble_eq_true rfl, Nat.le_of_ble_eq_true rfl⟩ rfl (Nat.le_of_ble_eq_true rfl) h (fun r15 u15 h => ?_)
          exact go_iret dX11_copy_44 rfl h
    · replace h := h.2 hc
      refine go_ldc dX11_copy_14 qc_X11_100 ?_
      exact go_iret dX11_copy_16 rfl h
set_option maxRecDepth 100000 in
set_option maxHeartbeats 4000000 in
theorem B_X11_drop_0 {g : gp} {u : sg} {Q : Option Value → sg → Prop} (x1 : Int32) (h : Go g iX11_isSheet 0 [some (.int x1)] [] u (QI (fun r1 u1 => ((¬ r1 = (0 : Int32) → Go g iX8_isMissing 0 [some (.ref (gd g 9)), some (.int x1)] [] u1 (QI (fun r2 u2 => ((r2 = (0 : Int32) → Go g iX8_takeAway 0 [some (.ref (gd g 9)), some (.int x1), none] [] u2 (QI (fun r3 u3 => Go g iX11_fine 0 [some (.ref (gd g 0)), some (.int r3)] [] u3 (QI (fun r4 u4 => Q (some (.int r4)) u4))))) ∧ (¬ r2 = (0 : Int32) → Go g iX11_found 0 [some (.ref (gd g 0)), some (.int 1)] [] u2 (QI (fun r5 u5 => Q (some (.int r5)) u5))))))) ∧ (r1 = (0 : Int32) → Q (some (.int (-1000001 : Int32))) u1))))) : Go g iX11_drop 0 [some (.ref (gd g 0)), some (.int x1)] [] u Q := by
  refine go_iload_n dX11_drop_0 rfl rfl ?_
  refine go_cSi (As := [.int x1]) (st := []) (lc := [some (.int x1)]) dX11_drop_1 me_X11_isSheet qm_X11_92 rfl (Nat.le_of_ble_eq_true rfl) rfl ⟨Nat.le_of_ble_eq_true rfl, Nat.le_of_ble_eq_true rfl⟩ rfl (Nat.le_of_ble_eq_true rfl) h (fun r1 u1 h => ?_)
  refine go_if_ne (tgt := 10) dX11_drop_4 (by decide) (fun hc => ?_) (fun hc => ?_)
  · replace h := h.1 hc
    refine go_aload_n dX11_drop_10 rfl rfl ?_
    refine go_get (k := 0) (v := .ref (gd g 9)) dX11_drop_11 ob_0 (by decide) qf_X11_10 rfl ?_
    refine go_iload_n dX11_drop_14 rfl rfl ?_
    refine go_cVi (o := 9) (As := [.int x1]) (st := []) (lc := [some (.ref (gd g 9)), some (.int x1)]) dX11_drop_15 me_X8_isMissing rfl ob_9 qm_X11_119 rfl (Nat.le_of_ble_eq_true rfl) rfl ⟨Nat.le_of_ble_eq_true rfl, Nat.le_of_ble_eq_true rfl⟩ rfl (Nat.le_of_ble_eq_true rfl) h (fun r2 u2 h => ?_)
    refine go_if_eq (tgt := 27) dX11_drop_18 (by decide) (fun hc => ?_) (fun hc => ?_)
    · replace h := h.1 hc
      refine go_aload_n dX11_drop_27 rfl rfl ?_
      refine go_aload_n dX11_drop_28 rfl rfl ?_
      refine go_get (k := 0) (v := .ref (gd g 9)) dX11_drop_29 ob_0 (by decide) qf_X11_10 rfl ?_
      refine go_iload_n dX11_drop_32 rfl rfl ?_
      refine go_cVi (o := 9) (As := [.int x1]) (st := [.ref (gd g 0)]) (lc := [some (.ref (gd g 9)), some (.int x1), none]) dX11_drop_33 me_X8_takeAway rfl ob_9 qm_X11_132 rfl (Nat.le_of_ble_eq_true rfl) rfl ⟨Nat.le_of_ble_eq_true rfl, Nat.le_of_ble_eq_true rfl⟩ rfl (Nat.le_of_ble_eq_true rfl) h (fun r3 u3 h => ?_)
      refine go_cVi (o := 0) (As := [.int r3]) (st := []) (lc := [some (.ref (gd g 0)), some (.int r3)]) dX11_drop_36 me_X11_fine rfl ob_0 qm_X11_109 rfl (Nat.le_of_ble_eq_true rfl) rfl ⟨Nat.le_of_ble_eq_true rfl, Nat.le_of_ble_eq_true rfl⟩ rfl (Nat.le_of_ble_eq_true rfl) h (fun r4 u4 h => ?_)
      exact go_iret dX11_drop_39 rfl h
    · replace h := h.2 hc
      refine go_aload_n dX11_drop_21 rfl rfl ?_
      refine go_iconst (v := 1) dX11_drop_22 (by decide) ?_
      refine go_cVi (o := 0) (As := [.int 1]) (st := []) (lc := [some (.ref (gd g 0)), some (.int 1)]) dX11_drop_23 me_X11_found rfl ob_0 qm_X11_101 rfl (Nat.le_of_ble_eq_true rfl) rfl ⟨Nat.le_of_ble_eq_true rfl, Nat.le_of_ble_eq_true rfl⟩ rfl (Nat.le_of_ble_eq_true rfl) h (fun r5 u5 h => ?_)
      exact go_iret dX11_drop_26 rfl h
  · replace h := h.2 hc
    refine go_ldc dX11_drop_7 qc_X11_100 ?_
    exact go_iret dX11_drop_9 rfl h
set_option maxRecDepth 100000 in
set_option maxHeartbeats 4000000 in
theorem B_X11_bell_0 {g : gp} {u : sg} {Q : Option Value → sg → Prop} (x1 : Int32) (x2 : Int32) (x3 : Int32) (h : Go g iX11_isGate 0 [some (.int x1)] [] u (QI (fun r1 u1 => ((r1 = (0 : Int32) → Q (some (.int (-1000001 : Int32))) u1) ∧ (¬ r1 = (0 : Int32) → ((x2 < (0 : Int32) → Q (some (.int (-1000001 : Int32))) u1) ∧ (¬ x2 < (0 : Int32) → (((1440 : Int32) < x3 → Q (some (.int (-1000001 : Int32))) u1) ∧ (¬ (1440 : Int32) < x3 → ((x2 < x3 → (vp_in x1 9 ∧ (vp_in x1 9 ∧ Q (some (.int (1 : Int32))) (sA (sA u1 24 x1.toNatClampNeg x2) 25 x1.toNatClampNeg x3)))) ∧ (¬ x2 < x3 → Q (some (.int (-1000001 : Int32))) u1))))))))))) : Go g iX11_bell 0 [some (.ref (gd g 0)), some (.int x1), some (.int x2), some (.int x3)] [] u Q := by
  refine go_iload_n dX11_bell_0 rfl rfl ?_
  refine go_cSi (As := [.int x1]) (st := []) (lc := [some (.int x1)]) dX11_bell_1 me_X11_isGate qm_X11_135 rfl (Nat.le_of_ble_eq_true rfl) rfl ⟨Nat.le_of_ble_eq_true rfl, Nat.le_of_ble_eq_true rfl⟩ rfl (Nat.le_of_ble_eq_true rfl) h (fun r1 u1 h => ?_)
  refine go_if_eq (tgt := 23) dX11_bell_4 (by decide) (fun hc => ?_) (fun hc => ?_)
  · replace h := h.1 hc
    refine go_ldc dX11_bell_23 qc_X11_100 ?_
    exact go_iret dX11_bell_25 rfl h
  · replace h := h.2 hc
    refine go_iload_n dX11_bell_7 rfl rfl ?_
    refine go_if_lt (tgt := 23) dX11_bell_8 (by decide) (fun hc => ?_) (fun hc => ?_)
    · replace h := h.1 hc
      refine go_ldc dX11_bell_23 qc_X11_100 ?_
      exact go_iret dX11_bell_25 rfl h
    · replace h := h.2 hc
      refine go_iload_n dX11_bell_11 rfl rfl ?_
      refine go_sipush (v := 1440) dX11_bell_12 (by decide) ?_
      refine go_icmp_gt (tgt := 23) dX11_bell_15 (by decide) (fun hc => ?_) (fun hc => ?_)
      · replace h := h.1 hc
        refine go_ldc dX11_bell_23 qc_X11_100 ?_
        exact go_iret dX11_bell_25 rfl h
      · replace h := h.2 hc
        refine go_iload_n dX11_bell_18 rfl rfl ?_
        refine go_iload_n dX11_bell_19 rfl rfl ?_
        refine go_icmp_gt (tgt := 26) dX11_bell_20 (by decide) (fun hc => ?_) (fun hc => ?_)
        · replace h := h.1 hc
          refine go_aload_n dX11_bell_26 rfl rfl ?_
          refine go_get (k := 1) (v := .ref (gd g 5)) dX11_bell_27 ob_0 (by decide) qf_X11_19 rfl ?_
          refine go_get (k := 0) (v := .ref (gd g 24)) dX11_bell_30 ob_5 (by decide) qf_X11_138 rfl ?_
          refine go_iload_n dX11_bell_33 rfl rfl ?_
          refine go_iload_n dX11_bell_34 rfl rfl ?_
          obtain ⟨hi, h⟩ := h
          refine go_ist (a := 24) (n := 9) dX11_bell_35 (by decide) (by decide) rfl hi ?_
          refine go_aload_n dX11_bell_36 rfl rfl ?_
          refine go_get (k := 1) (v := .ref (gd g 5)) dX11_bell_37 ob_0 (by decide) qf_X11_19 rfl ?_
          refine go_get (k := 1) (v := .ref (gd g 25)) dX11_bell_40 ob_5 (by decide) qf_X11_142 rfl ?_
          refine go_iload_n dX11_bell_43 rfl rfl ?_
          refine go_iload_n dX11_bell_44 rfl rfl ?_
          obtain ⟨hi, h⟩ := h
          refine go_ist (a := 25) (n := 9) dX11_bell_45 (by decide) (by decide) rfl hi ?_
          refine go_iconst (v := 1) dX11_bell_46 (by decide) ?_
          exact go_iret dX11_bell_47 rfl h
        · replace h := h.2 hc
          refine go_ldc dX11_bell_23 qc_X11_100 ?_
          exact go_iret dX11_bell_25 rfl h
set_option maxRecDepth 100000 in
set_option maxHeartbeats 4000000 in
theorem B_X11_part_0 {g : gp} {u : sg} {Q : Option Value → sg → Prop} (x1 : Int32) (x2 : Int32) (h : Go g iX11_isGate 0 [some (.int x1)] [] u (QI (fun r1 u1 => ((r1 = (0 : Int32) → Q (some (.int (-1000001 : Int32))) u1) ∧ (¬ r1 = (0 : Int32) → Go g iX11_within 0 [some (.int x2), some (.int 1), some (.int 300)] [] u1 (QI (fun r2 u2 => ((¬ r2 = (0 : Int32) → (vp_in x1 9 ∧ (vp_in x1 9 ∧ Q (some (.int (u2.2 26 x1.toNatClampNeg))) (sA u2 26 x1.toNatClampNeg x2)))) ∧ (r2 = (0 : Int32) → Q (some (.int (-1000001 : Int32))) u2))))))))) : Go g iX11_part 0 [some (.ref (gd g 0)), some (.int x1), some (.int x2), none] [] u Q := by
  refine go_iload_n dX11_part_0 rfl rfl ?_
  refine go_cSi (As := [.int x1]) (st := []) (lc := [some (.int x1)]) dX11_part_1 me_X11_isGate qm_X11_135 rfl (Nat.le_of_ble_eq_true rfl) rfl ⟨Nat.le_of_ble_eq_true rfl, Nat.le_of_ble_eq_true rfl⟩ rfl (Nat.le_of_ble_eq_true rfl) h (fun r1 u1 h => ?_)
  refine go_if_eq (tgt := 18) dX11_part_4 (by decide) (fun hc => ?_) (fun hc => ?_)
  · replace h := h.1 hc
    refine go_ldc dX11_part_18 qc_X11_100 ?_
    exact go_iret dX11_part_20 rfl h
  · replace h := h.2 hc
    refine go_iload_n dX11_part_7 rfl rfl ?_
    refine go_iconst (v := 1) dX11_part_8 (by decide) ?_
    refine go_sipush (v := 300) dX11_part_9 (by decide) ?_
    refine go_cSi (As := [.int x2, .int 1, .int 300]) (st := []) (lc := [some (.int x2), some (.int 1), some (.int 300)]) dX11_part_12 me_X11_within qm_X11_96 rfl (Nat.le_of_ble_eq_true rfl) rfl ⟨Nat.le_of_ble_eq_true rfl, Nat.le_of_ble_eq_true rfl⟩ rfl (Nat.le_of_ble_eq_true rfl) h (fun r2 u2 h => ?_)
    refine go_if_ne (tgt := 21) dX11_part_15 (by decide) (fun hc => ?_) (fun hc => ?_)
    · replace h := h.1 hc
      refine go_aload_n dX11_part_21 rfl rfl ?_
      refine go_get (k := 1) (v := .ref (gd g 5)) dX11_part_22 ob_0 (by decide) qf_X11_19 rfl ?_
      refine go_get (k := 2) (v := .ref (gd g 26)) dX11_part_25 ob_5 (by decide) qf_X11_145 rfl ?_
      refine go_iload_n dX11_part_28 rfl rfl ?_
      obtain ⟨hi, h⟩ := h
      refine go_ild (a := 26) (n := 9) dX11_part_29 (by decide) (by decide) rfl hi ?_
      refine go_istore_n (lm := [some (.ref (gd g 0)), some (.int x1), some (.int x2), some (.int (u2.2 26 x1.toNatClampNeg))]) dX11_part_30 rfl (by decide) rfl rfl ?_
      refine go_aload_n dX11_part_31 rfl rfl ?_
      refine go_get (k := 1) (v := .ref (gd g 5)) dX11_part_32 ob_0 (by decide) qf_X11_19 rfl ?_
      refine go_get (k := 2) (v := .ref (gd g 26)) dX11_part_35 ob_5 (by decide) qf_X11_145 rfl ?_
      refine go_iload_n dX11_part_38 rfl rfl ?_
      refine go_iload_n dX11_part_39 rfl rfl ?_
      obtain ⟨hi, h⟩ := h
      refine go_ist (a := 26) (n := 9) dX11_part_40 (by decide) (by decide) rfl hi ?_
      refine go_iload_n dX11_part_41 rfl rfl ?_
      exact go_iret dX11_part_42 rfl h
    · replace h := h.2 hc
      refine go_ldc dX11_part_18 qc_X11_100 ?_
      exact go_iret dX11_part_20 rfl h
set_option maxRecDepth 100000 in
set_option maxHeartbeats 4000000 in
theorem B_X11_stands_0 {g : gp} {u : sg} {Q : Option Value → sg → Prop} (x1 : Int32) (x2 : Int32) (x3 : Int32) (h : Go g iX11_isGate 0 [some (.int x1)] [] u (QI (fun r1 u1 => ((r1 = (0 : Int32) → Q (some (.int (-1000001 : Int32))) u1) ∧ (¬ r1 = (0 : Int32) → Go g iX11_isPlace 0 [some (.int x2), some (.int x3)] [] u1 (QI (fun r2 u2 => ((¬ r2 = (0 : Int32) → (vp_in x1 9 ∧ (vp_in x1 9 ∧ Q (some (.int (1 : Int32))) (sA (sA u2 27 x1.toNatClampNeg x2) 28 x1.toNatClampNeg x3)))) ∧ (r2 = (0 : Int32) → Q (some (.int (-1000001 : Int32))) u2))))))))) : Go g iX11_stands 0 [some (.ref (gd g 0)), some (.int x1), some (.int x2), some (.int x3)] [] u Q := by
  refine go_iload_n dX11_stands_0 rfl rfl ?_
  refine go_cSi (As := [.int x1]) (st := []) (lc := [some (.int x1)]) dX11_stands_1 me_X11_isGate qm_X11_135 rfl (Nat.le_of_ble_eq_true rfl) rfl ⟨Nat.le_of_ble_eq_true rfl, Nat.le_of_ble_eq_true rfl⟩ rfl (Nat.le_of_ble_eq_true rfl) h (fun r1 u1 h => ?_)
  refine go_if_eq (tgt := 15) dX11_stands_4 (by decide) (fun hc => ?_) (fun hc => ?_)
  · replace h := h.1 hc
    refine go_ldc dX11_stands_15 qc_X11_100 ?_
    exact go_iret dX11_stands_17 rfl h
  · replace h := h.2 hc
    refine go_iload_n dX11_stands_7 rfl rfl ?_
    refine go_iload_n dX11_stands_8 rfl rfl ?_
    refine go_cSi (As := [.int x2, .int x3]) (st := []) (lc := [some (.int x2), some (.int x3)]) dX11_stands_9 me_X11_isPlace qm_X11_148 rfl (Nat.le_of_ble_eq_true rfl) rfl ⟨Nat.le_of_ble_eq_true rfl, Nat.le_of_ble_eq_true rfl⟩ rfl (Nat.le_of_ble_eq_true rfl) h (fun r2 u2 h => ?_)
    refine go_if_ne (tgt := 18) dX11_stands_12 (by decide) (fun hc => ?_) (fun hc => ?_)
    · replace h := h.1 hc
      refine go_aload_n dX11_stands_18 rfl rfl ?_
      refine go_get (k := 1) (v := .ref (gd g 5)) dX11_stands_19 ob_0 (by decide) qf_X11_19 rfl ?_
      refine go_get (k := 3) (v := .ref (gd g 27)) dX11_stands_22 ob_5 (by decide) qf_X11_152 rfl ?_
      refine go_iload_n dX11_stands_25 rfl rfl ?_
      refine go_iload_n dX11_stands_26 rfl rfl ?_
      obtain ⟨hi, h⟩ := h
      refine go_ist (a := 27) (n := 9) dX11_stands_27 (by decide) (by decide) rfl hi ?_
      refine go_aload_n dX11_stands_28 rfl rfl ?_
      refine go_get (k := 1) (v := .ref (gd g 5)) dX11_stands_29 ob_0 (by decide) qf_X11_19 rfl ?_
      refine go_get (k := 4) (v := .ref (gd g 28)) dX11_stands_32 ob_5 (by decide) qf_X11_155 rfl ?_
      refine go_iload_n dX11_stands_35 rfl rfl ?_
      refine go_iload_n dX11_stands_36 rfl rfl ?_
      obtain ⟨hi, h⟩ := h
      refine go_ist (a := 28) (n := 9) dX11_stands_37 (by decide) (by decide) rfl hi ?_
      refine go_iconst (v := 1) dX11_stands_38 (by decide) ?_
      exact go_iret dX11_stands_39 rfl h
    · replace h := h.2 hc
      refine go_ldc dX11_stands_15 qc_X11_100 ?_
      exact go_iret dX11_stands_17 rfl h
set_option maxRecDepth 100000 in
set_option maxHeartbeats 4000000 in
theorem B_X11_feed_0 {g : gp} {u : sg} {Q : Option Value → sg → Prop} (x1 : Int64) (x3 : Int32) (h : Go g iX11_within 0 [some (.int x3), some (.int 1), some (.int 8)] [] u (QI (fun r1 u1 => ((¬ r1 = (0 : Int32) → Go g iX7_hasRoom 0 [some (.ref (gd g 8)), some (.int x3)] [] u1 (QI (fun r2 u2 => ((¬ r2 = (0 : Int32) → Go g iX7_append 0 [some (.ref (gd g 8)), some (.long x1), none, some (.int x3), none] [] u2 (QV (fun u3 => Q (some (.int (u3.1 8 2))) u3))) ∧ (r2 = (0 : Int32) → Q (some (.int (-1000003 : Int32))) u2))))) ∧ (r1 = (0 : Int32) → Q (some (.int (-1000001 : Int32))) u1))))) : Go g iX11_feed 0 [some (.ref (gd g 0)), some (.long x1), none, some (.int x3)] [] u Q := by
  refine go_iload_n dX11_feed_0 rfl rfl ?_
  refine go_iconst (v := 1) dX11_feed_1 (by decide) ?_
  refine go_bipush (v := 8) dX11_feed_2 (by decide) ?_
  refine go_cSi (As := [.int x3, .int 1, .int 8]) (st := []) (lc := [some (.int x3), some (.int 1), some (.int 8)]) dX11_feed_4 me_X11_within qm_X11_96 rfl (Nat.le_of_ble_eq_true rfl) rfl ⟨Nat.le_of_ble_eq_true rfl, Nat.le_of_ble_eq_true rfl⟩ rfl (Nat.le_of_ble_eq_true rfl) h (fun r1 u1 h => ?_)
  refine go_if_ne (tgt := 13) dX11_feed_7 (by decide) (fun hc => ?_) (fun hc => ?_)
  · replace h := h.1 hc
    refine go_aload_n dX11_feed_13 rfl rfl ?_
    refine go_get (k := 3) (v := .ref (gd g 8)) dX11_feed_14 ob_0 (by decide) qf_X11_35 rfl ?_
    refine go_iload_n dX11_feed_17 rfl rfl ?_
    refine go_cVi (o := 8) (As := [.int x3]) (st := []) (lc := [some (.ref (gd g 8)), some (.int x3)]) dX11_feed_18 me_X7_hasRoom rfl ob_8 qm_X11_158 rfl (Nat.le_of_ble_eq_true rfl) rfl ⟨Nat.le_of_ble_eq_true rfl, Nat.le_of_ble_eq_true rfl⟩ rfl (Nat.le_of_ble_eq_true rfl) h (fun r2 u2 h => ?_)
    refine go_if_ne (tgt := 27) dX11_feed_21 (by decide) (fun hc => ?_) (fun hc => ?_)
    · replace h := h.1 hc
      refine go_aload_n dX11_feed_27 rfl rfl ?_
      refine go_get (k := 3) (v := .ref (gd g 8)) dX11_feed_28 ob_0 (by decide) qf_X11_35 rfl ?_
      refine go_lload_n dX11_feed_31 rfl rfl ?_
      refine go_iload_n dX11_feed_32 rfl rfl ?_
      refine go_cVv (o := 8) (As := [.long x1, .int x3]) (st := []) (lc := [some (.ref (gd g 8)), some (.long x1), none, some (.int x3), none]) dX11_feed_33 me_X7_append rfl ob_8 qm_X11_162 rfl (Nat.le_of_ble_eq_true rfl) rfl ⟨Nat.le_of_ble_eq_true rfl, Nat.le_of_ble_eq_true rfl⟩ rfl (Nat.le_of_ble_eq_true rfl) h (fun u3 h => ?_)
      refine go_aload_n dX11_feed_36 rfl rfl ?_
      refine go_get (k := 3) (v := .ref (gd g 8)) dX11_feed_37 ob_0 (by decide) qf_X11_35 rfl ?_
      refine go_get (k := 2) (v := .int (u3.1 8 2)) dX11_feed_40 ob_8 (by decide) qf_X11_166 rfl ?_
      exact go_iret dX11_feed_43 rfl h
    · replace h := h.2 hc
      refine go_ldc dX11_feed_24 qc_X11_161 ?_
      exact go_iret dX11_feed_26 rfl h
  · replace h := h.2 hc
    refine go_ldc dX11_feed_10 qc_X11_100 ?_
    exact go_iret dX11_feed_12 rfl h
set_option maxRecDepth 100000 in
set_option maxHeartbeats 4000000 in
theorem B_X11_laws_0 {g : gp} {u : sg} {Q : Option Value → sg → Prop}  (h : Go g iX7_readTape 0 [some (.ref (gd g 8)), none, none] [] u (QI (fun r1 u1 => ((r1 = (0 : Int32) → Q (some (.int ((-1000100) - (u1.1 8 7)))) u1) ∧ (¬ r1 = (0 : Int32) → Q (some (.int (u1.1 2 3))) u1))))) : Go g iX11_laws 0 [some (.ref (gd g 0))] [] u Q := by
  refine go_aload_n dX11_laws_0 rfl rfl ?_
  refine go_get (k := 3) (v := .ref (gd g 8)) dX11_laws_1 ob_0 (by decide) qf_X11_35 rfl ?_
  refine go_cVi (o := 8) (As := []) (st := []) (lc := [some (.ref (gd g 8)), none, none]) dX11_laws_4 me_X7_readTape rfl ob_8 qm_X11_170 rfl (Nat.le_of_ble_eq_true rfl) rfl ⟨Nat.le_of_ble_eq_true rfl, Nat.le_of_ble_eq_true rfl⟩ rfl (Nat.le_of_ble_eq_true rfl) h (fun r1 u1 h => ?_)
  refine go_if_eq (tgt := 18) dX11_laws_7 (by decide) (fun hc => ?_) (fun hc => ?_)
  · replace h := h.1 hc
    refine go_ldc dX11_laws_18 qc_X11_177 ?_
    refine go_aload_n dX11_laws_20 rfl rfl ?_
    refine go_get (k := 3) (v := .ref (gd g 8)) dX11_laws_21 ob_0 (by decide) qf_X11_35 rfl ?_
    refine go_get (k := 7) (v := .int (u1.1 8 7)) dX11_laws_24 ob_8 (by decide) qf_X11_178 rfl ?_
    refine go_isub dX11_laws_27 ?_
    exact go_iret dX11_laws_28 rfl h
  · replace h := h.2 hc
    refine go_aload_n dX11_laws_10 rfl rfl ?_
    refine go_get (k := 2) (v := .ref (gd g 2)) dX11_laws_11 ob_0 (by decide) qf_X11_26 rfl ?_
    refine go_get (k := 3) (v := .int (u1.1 2 3)) dX11_laws_14 ob_2 (by decide) qf_X11_174 rfl ?_
    exact go_iret dX11_laws_17 rfl h
set_option maxRecDepth 100000 in
set_option maxHeartbeats 4000000 in
theorem B_X11_fault_0 {g : gp} {u : sg} {Q : Option Value → sg → Prop}  (h : Q (some (.int (u.1 8 8))) u) : Go g iX11_fault 0 [some (.ref (gd g 0))] [] u Q := by
  refine go_aload_n dX11_fault_0 rfl rfl ?_
  refine go_get (k := 3) (v := .ref (gd g 8)) dX11_fault_1 ob_0 (by decide) qf_X11_35 rfl ?_
  refine go_get (k := 8) (v := .int (u.1 8 8)) dX11_fault_4 ob_8 (by decide) qf_X11_181 rfl ?_
  exact go_iret dX11_fault_7 rfl h
set_option maxRecDepth 100000 in
set_option maxHeartbeats 4000000 in
theorem B_X11_holds_0 {g : gp} {u : sg} {Q : Option Value → sg → Prop} (x1 : Int32) (x2 : Int32) (h : Go g iX11_isDay 0 [some (.int x1)] [] u (QI (fun r1 u1 => ((r1 = (0 : Int32) → Q (some (.int (-1000001 : Int32))) u1) ∧ (¬ r1 = (0 : Int32) → Go g iX1_isTopic 0 [some (.int x2)] [] u1 (QI (fun r2 u2 => ((¬ r2 = (0 : Int32) → Go g iX1_inForce 0 [some (.ref (gd g 2)), some (.int x1), some (.int x2), none, none, none] [] u2 (QI (fun r3 u3 => Q (some (.int r3)) u3))) ∧ (r2 = (0 : Int32) → Q (some (.int (-1000001 : Int32))) u2))))))))) : Go g iX11_holds 0 [some (.ref (gd g 0)), some (.int x1), some (.int x2)] [] u Q := by
  refine go_iload_n dX11_holds_0 rfl rfl ?_
  refine go_cSi (As := [.int x1]) (st := []) (lc := [some (.int x1)]) dX11_holds_1 me_X11_isDay qm_X11_184 rfl (Nat.le_of_ble_eq_true rfl) rfl ⟨Nat.le_of_ble_eq_true rfl, Nat.le_of_ble_eq_true rfl⟩ rfl (Nat.le_of_ble_eq_true rfl) h (fun r1 u1 h => ?_)
  refine go_if_eq (tgt := 14) dX11_holds_4 (by decide) (fun hc => ?_) (fun hc => ?_)
  · replace h := h.1 hc
    refine go_ldc dX11_holds_14 qc_X11_100 ?_
    exact go_iret dX11_holds_16 rfl h
  · replace h := h.2 hc
    refine go_iload_n dX11_holds_7 rfl rfl ?_
    refine go_cSi (As := [.int x2]) (st := []) (lc := [some (.int x2)]) dX11_holds_8 me_X1_isTopic qm_X11_187 rfl (Nat.le_of_ble_eq_true rfl) rfl ⟨Nat.le_of_ble_eq_true rfl, Nat.le_of_ble_eq_true rfl⟩ rfl (Nat.le_of_ble_eq_true rfl) h (fun r2 u2 h => ?_)
    refine go_if_ne (tgt := 17) dX11_holds_11 (by decide) (fun hc => ?_) (fun hc => ?_)
    · replace h := h.1 hc
      refine go_aload_n dX11_holds_17 rfl rfl ?_
      refine go_get (k := 2) (v := .ref (gd g 2)) dX11_holds_18 ob_0 (by decide) qf_X11_26 rfl ?_
      refine go_iload_n dX11_holds_21 rfl rfl ?_
      refine go_iload_n dX11_holds_22 rfl rfl ?_
      refine go_cVi (o := 2) (As := [.int x1, .int x2]) (st := []) (lc := [some (.ref (gd g 2)), some (.int x1), some (.int x2), none, none, none]) dX11_holds_23 me_X1_inForce rfl ob_2 qm_X11_190 rfl (Nat.le_of_ble_eq_true rfl) rfl ⟨Nat.le_of_ble_eq_true rfl, Nat.le_of_ble_eq_true rfl⟩ rfl (Nat.le_of_ble_eq_true rfl) h (fun r3 u3 h => ?_)
      exact go_iret dX11_holds_26 rfl h
    · replace h := h.2 hc
      refine go_ldc dX11_holds_14 qc_X11_100 ?_
      exact go_iret dX11_holds_16 rfl h
set_option maxRecDepth 100000 in
set_option maxHeartbeats 4000000 in
theorem B_X11_cart_0 {g : gp} {u : sg} {Q : Option Value → sg → Prop} (x1 : Int32) (x2 : Int32) (h : Go g iX11_isSheet 0 [some (.int x1)] [] u (QI (fun r1 u1 => ((¬ r1 = (0 : Int32) → (((u1.1 3 3) < (16 : Int32) → Go g iX11_flawOf 0 [some (.ref (gd g 0)), some (.int x1), some (.int x2), some (.int 9)] [] u1 (QI (fun r2 u2 => ((r2 = (0 : Int32) → Go g iX11_cart 47 [some (.ref (gd g 0)), some (.int x1), some (.int x2), none, some (.int 0)] [] u2 Q) ∧ (¬ r2 = (0 : Int32) → Go g iX11_found 0 [some (.ref (gd g 0)), some (.int r2)] [] u2 (QI (fun r3 u3 => Q (some (.int r3)) u3))))))) ∧ (¬ (u1.1 3 3) < (16 : Int32) → Q (some (.int (-1000003 : Int32))) u1))) ∧ (r1 = (0 : Int32) → Q (some (.int (-1000001 : Int32))) u1))))) : Go g iX11_cart 0 [some (.ref (gd g 0)), some (.int x1), some (.int x2), none, none] [] u Q := by
  refine go_iload_n dX11_cart_0 rfl rfl ?_
  refine go_cSi (As := [.int x1]) (st := []) (lc := [some (.int x1)]) dX11_cart_1 me_X11_isSheet qm_X11_92 rfl (Nat.le_of_ble_eq_true rfl) rfl ⟨Nat.le_of_ble_eq_true rfl, Nat.le_of_ble_eq_true rfl⟩ rfl (Nat.le_of_ble_eq_true rfl) h (fun r1 u1 h => ?_)
  refine go_if_ne (tgt := 10) dX11_cart_4 (by decide) (fun hc => ?_) (fun hc => ?_)
  · replace h := h.1 hc
    refine go_aload_n dX11_cart_10 rfl rfl ?_
    refine go_get (k := 4) (v := .ref (gd g 3)) dX11_cart_11 ob_0 (by decide) qf_X11_44 rfl ?_
    refine go_get (k := 3) (v := .int (u1.1 3 3)) dX11_cart_14 ob_3 (by decide) qf_X11_194 rfl ?_
    refine go_bipush (v := 16) dX11_cart_17 (by decide) ?_
    refine go_icmp_lt (tgt := 25) dX11_cart_19 (by decide) (fun hc => ?_) (fun hc => ?_)
    · replace h := h.1 hc
      refine go_aload_n dX11_cart_25 rfl rfl ?_
      refine go_iload_n dX11_cart_26 rfl rfl ?_
      refine go_iload_n dX11_cart_27 rfl rfl ?_
      refine go_bipush (v := 9) dX11_cart_28 (by decide) ?_
      refine go_cVi (o := 0) (As := [.int x1, .int x2, .int 9]) (st := []) (lc := [some (.ref (gd g 0)), some (.int x1), some (.int x2), some (.int 9)]) dX11_cart_30 me_X11_flawOf rfl ob_0 qm_X11_112 rfl (Nat.le_of_ble_eq_true rfl) rfl ⟨Nat.le_of_ble_eq_true rfl, Nat.le_of_ble_eq_true rfl⟩ rfl (Nat.le_of_ble_eq_true rfl) h (fun r2 u2 h => ?_)
      refine go_istore_n (lm := [some (.ref (gd g 0)), some (.int x1), some (.int x2), some (.int r2), none]) dX11_cart_33 rfl (by decide) rfl rfl ?_
      refine go_iload_n dX11_cart_34 rfl rfl ?_
      refine go_if_eq (tgt := 44) dX11_cart_35 (by decide) (fun hc => ?_) (fun hc => ?_)
      · replace h := h.1 hc
        refine go_iconst (v := 0) dX11_cart_44 (by decide) ?_
        refine go_istore (lm := [some (.ref (gd g 0)), some (.int x1), some (.int x2), some (.int r2), some (.int 0)]) dX11_cart_45 (by decide) rfl rfl ?_
        refine go_mask [true, true, true, false, true] rfl ?_
        exact h
      · replace h := h.2 hc
        refine go_aload_n dX11_cart_38 rfl rfl ?_
        refine go_iload_n dX11_cart_39 rfl rfl ?_
        refine go_cVi (o := 0) (As := [.int r2]) (st := []) (lc := [some (.ref (gd g 0)), some (.int r2)]) dX11_cart_40 me_X11_found rfl ob_0 qm_X11_101 rfl (Nat.le_of_ble_eq_true rfl) rfl ⟨Nat.le_of_ble_eq_true rfl, Nat.le_of_ble_eq_true rfl⟩ rfl (Nat.le_of_ble_eq_true rfl) h (fun r3 u3 h => ?_)
        exact go_iret dX11_cart_43 rfl h
    · replace h := h.2 hc
      refine go_ldc dX11_cart_22 qc_X11_161 ?_
      exact go_iret dX11_cart_24 rfl h
  · replace h := h.2 hc
    refine go_ldc dX11_cart_7 qc_X11_100 ?_
    exact go_iret dX11_cart_9 rfl h
set_option maxRecDepth 100000 in
set_option maxHeartbeats 4000000 in
theorem B_X11_cart_47 {g : gp} {u : sg} {Q : Option Value → sg → Prop} (x1 : Int32) (x2 : Int32) (x4 : Int32) (h : (((9 : Int32) ≤ x4 → Go g iX2_addCart 0 [some (.ref (gd g 3)), some (.ref (gd g 9)), some (.int x1), some (.int x2), none] [] u (QI (fun r1 u1 => Go g iX11_fine 0 [some (.ref (gd g 0)), some (.int r1)] [] u1 (QI (fun r2 u2 => Q (some (.int r2)) u2))))) ∧ (¬ (9 : Int32) ≤ x4 → Go g iX8_itemAt 0 [some (.ref (gd g 9)), some (.int x1), some (.int (x2 + x4))] [] u (QI (fun r3 u3 => ((¬ x4 = (0 : Int32) → Go g iX11_within 0 [some (.int r3), some (.int 0), some (.int 99)] [] u3 (QI (fun r4 u4 => ((¬ r4 = (0 : Int32) → Go g iX11_cart 47 [some (.ref (gd g 0)), some (.int x1), some (.int x2), none, some (.int (x4 + 1))] [] u4 Q) ∧ (r4 = (0 : Int32) → Q (some (.int (-1000001 : Int32))) u4))))) ∧ (x4 = (0 : Int32) → Go g iX11_within 0 [some (.int r3), some (.int 0), some (.int 4)] [] u3 (QI (fun r5 u5 => ((¬ r5 = (0 : Int32) → Go g iX11_cart 47 [some (.ref (gd g 0)), some (.int x1), some (.int x2), none, some (.int (x4 + 1))] [] u5 Q) ∧ (r5 = (0 : Int32) → Q (some (.int (-1000001 : Int32))) u5))))))))))) : Go g iX11_cart 47 [some (.ref (gd g 0)), some (.int x1), some (.int x2), none, some (.int x4)] [] u Q := by
  refine go_iload dX11_cart_47 rfl ?_
  refine go_bipush (v := 9) dX11_cart_49 (by decide) ?_
  refine go_icmp_ge (tgt := 93) dX11_cart_51 (by decide) (fun hc => ?_) (fun hc => ?_)
  · replace h := h.1 hc
    refine go_aload_n dX11_cart_93 rfl rfl ?_
    refine go_aload_n dX11_cart_94 rfl rfl ?_
    refine go_get (k := 4) (v := .ref (gd g 3)) dX11_cart_95 ob_0 (by decide) qf_X11_44 rfl ?_
    refine go_aload_n dX11_cart_98 rfl rfl ?_
    refine go_get (k := 0) (v := .ref (gd g 9)) dX11_cart_99 ob_0 (by decide) qf_X11_10 rfl ?_
    refine go_iload_n dX11_cart_102 rfl rfl ?_
    refine go_iload_n dX11_cart_103 rfl rfl ?_
    refine go_cVi (o := 3) (As := [.ref (gd g 9), .int x1, .int x2]) (st := [.ref (gd g 0)]) (lc := [some (.ref (gd g 3)), some (.ref (gd g 9)), some (.int x1), some (.int x2), none]) dX11_cart_104 me_X2_addCart rfl ob_3 qm_X11_199 rfl (Nat.le_of_ble_eq_true rfl) rfl ⟨Nat.le_of_ble_eq_true rfl, Nat.le_of_ble_eq_true rfl⟩ rfl (Nat.le_of_ble_eq_true rfl) h (fun r1 u1 h => ?_)
    refine go_cVi (o := 0) (As := [.int r1]) (st := []) (lc := [some (.ref (gd g 0)), some (.int r1)]) dX11_cart_107 me_X11_fine rfl ob_0 qm_X11_109 rfl (Nat.le_of_ble_eq_true rfl) rfl ⟨Nat.le_of_ble_eq_true rfl, Nat.le_of_ble_eq_true rfl⟩ rfl (Nat.le_of_ble_eq_true rfl) h (fun r2 u2 h => ?_)
    exact go_iret dX11_cart_110 rfl h
  · replace h := h.2 hc
    refine go_aload_n dX11_cart_54 rfl rfl ?_
    refine go_get (k := 0) (v := .ref (gd g 9)) dX11_cart_55 ob_0 (by decide) qf_X11_10 rfl ?_
    refine go_iload_n dX11_cart_58 rfl rfl ?_
    refine go_iload_n dX11_cart_59 rfl rfl ?_
    refine go_iload dX11_cart_60 rfl ?_
    refine go_iadd dX11_cart_62 ?_
    refine go_cVi (o := 9) (As := [.int x1, .int (x2 + x4)]) (st := []) (lc := [some (.ref (gd g 9)), some (.int x1), some (.int (x2 + x4))]) dX11_cart_63 me_X8_itemAt rfl ob_9 qm_X11_196 rfl (Nat.le_of_ble_eq_true rfl) rfl ⟨Nat.le_of_ble_eq_true rfl, Nat.le_of_ble_eq_true rfl⟩ rfl (Nat.le_of_ble_eq_true rfl) h (fun r3 u3 h => ?_)
    refine go_iconst (v := 0) dX11_cart_66 (by decide) ?_
    refine go_iload dX11_cart_67 rfl ?_
    refine go_if_ne (tgt := 76) dX11_cart_69 (by decide) (fun hc => ?_) (fun hc => ?_)
    · replace h := h.1 hc
      refine go_bipush (v := 99) dX11_cart_76 (by decide) ?_
      refine go_cSi (As := [.int r3, .int 0, .int 99]) (st := []) (lc := [some (.int r3), some (.int 0), some (.int 99)]) dX11_cart_78 me_X11_within qm_X11_96 rfl (Nat.le_of_ble_eq_true rfl) rfl ⟨Nat.le_of_ble_eq_true rfl, Nat.le_of_ble_eq_true rfl⟩ rfl (Nat.le_of_ble_eq_true rfl) h (fun r4 u4 h => ?_)
      refine go_if_ne (tgt := 87) dX11_cart_81 (by decide) (fun hc => ?_) (fun hc => ?_)
      · replace h := h.1 hc
        refine go_iinc (v := x4 + 1) (lm := [some (.ref (gd g 0)), some (.int x1), some (.int x2), none, some (.int (x4 + 1))]) dX11_cart_87 rfl rfl (by decide) rfl rfl ?_
        refine go_goto (tgt := 47) dX11_cart_90 (by decide) ?_
        exact h
      · replace h := h.2 hc
        refine go_ldc dX11_cart_84 qc_X11_100 ?_
        exact go_iret dX11_cart_86 rfl h
    · replace h := h.2 hc
      refine go_iconst (v := 4) dX11_cart_72 (by decide) ?_
      refine go_goto (tgt := 78) dX11_cart_73 (by decide) ?_
      refine go_cSi (As := [.int r3, .int 0, .int 4]) (st := []) (lc := [some (.int r3), some (.int 0), some (.int 4)]) dX11_cart_78 me_X11_within qm_X11_96 rfl (Nat.le_of_ble_eq_true rfl) rfl ⟨Nat.le_of_ble_eq_true rfl, Nat.le_of_ble_eq_true rfl⟩ rfl (Nat.le_of_ble_eq_true rfl) h (fun r5 u5 h => ?_)
      refine go_if_ne (tgt := 87) dX11_cart_81 (by decide) (fun hc => ?_) (fun hc => ?_)
      · replace h := h.1 hc
        refine go_iinc (v := x4 + 1) (lm := [some (.ref (gd g 0)), some (.int x1), some (.int x2), none, some (.int (x4 + 1))]) dX11_cart_87 rfl rfl (by decide) rfl rfl ?_
        refine go_goto (tgt := 47) dX11_cart_90 (by decide) ?_
        exact h
      · replace h := h.2 hc
        refine go_ldc dX11_cart_84 qc_X11_100 ?_
        exact go_iret dX11_cart_86 rfl h
set_option maxRecDepth 100000 in
set_option maxHeartbeats 4000000 in
theorem B_X11_owed_0 {g : gp} {u : sg} {Q : Option Value → sg → Prop} (x1 : Int32) (x2 : Int32) (x3 : Int32) (h : Go g iX11_isCart 0 [some (.ref (gd g 0)), some (.int x1)] [] u (QI (fun r1 u1 => ((r1 = (0 : Int32) → Q (some (.int (-1000001 : Int32))) u1) ∧ (¬ r1 = (0 : Int32) → Go g iX11_isDay 0 [some (.int x3)] [] u1 (QI (fun r2 u2 => ((¬ r2 = (0 : Int32) → ((¬ x2 = (-1000000 : Int32) → Go g iX11_isGate 0 [some (.int x2)] [] u2 (QI (fun r3 u3 => ((r3 = (0 : Int32) → Q (some (.int (-1000001 : Int32))) u3) ∧ (¬ r3 = (0 : Int32) → Go g iX2_owedAt 0 [some (.ref (gd g 3)), some (.int x1), some (.int x2), some (.int x3)] [] u3 (QI (fun r4 u4 => Q (some (.int r4)) u4))))))) ∧ (x2 = (-1000000 : Int32) → Go g iX2_leastGate 0 [some (.ref (gd g 3)), some (.int x1), some (.int x3), none, none, none] [] u2 (QI (fun r5 u5 => Q (some (.int r5)) u5))))) ∧ (r2 = (0 : Int32) → Q (some (.int (-1000001 : Int32))) u2))))))))) : Go g iX11_owed 0 [some (.ref (gd g 0)), some (.int x1), some (.int x2), some (.int x3)] [] u Q := by
  refine go_aload_n dX11_owed_0 rfl rfl ?_
  refine go_iload_n dX11_owed_1 rfl rfl ?_
  refine go_cVi (o := 0) (As := [.int x1]) (st := []) (lc := [some (.ref (gd g 0)), some (.int x1)]) dX11_owed_2 me_X11_isCart rfl ob_0 qm_X11_203 rfl (Nat.le_of_ble_eq_true rfl) rfl ⟨Nat.le_of_ble_eq_true rfl, Nat.le_of_ble_eq_true rfl⟩ rfl (Nat.le_of_ble_eq_true rfl) h (fun r1 u1 h => ?_)
  refine go_if_eq (tgt := 15) dX11_owed_5 (by decide) (fun hc => ?_) (fun hc => ?_)
  · replace h := h.1 hc
    refine go_ldc dX11_owed_15 qc_X11_100 ?_
    exact go_iret dX11_owed_17 rfl h
  · replace h := h.2 hc
    refine go_iload_n dX11_owed_8 rfl rfl ?_
    refine go_cSi (As := [.int x3]) (st := []) (lc := [some (.int x3)]) dX11_owed_9 me_X11_isDay qm_X11_184 rfl (Nat.le_of_ble_eq_true rfl) rfl ⟨Nat.le_of_ble_eq_true rfl, Nat.le_of_ble_eq_true rfl⟩ rfl (Nat.le_of_ble_eq_true rfl) h (fun r2 u2 h => ?_)
    refine go_if_ne (tgt := 18) dX11_owed_12 (by decide) (fun hc => ?_) (fun hc => ?_)
    · replace h := h.1 hc
      refine go_iload_n dX11_owed_18 rfl rfl ?_
      refine go_ldc dX11_owed_19 qc_X11_206 ?_
      refine go_icmp_ne (tgt := 34) dX11_owed_21 (by decide) (fun hc => ?_) (fun hc => ?_)
      · replace h := h.1 hc
        refine go_iload_n dX11_owed_34 rfl rfl ?_
        refine go_cSi (As := [.int x2]) (st := []) (lc := [some (.int x2)]) dX11_owed_35 me_X11_isGate qm_X11_135 rfl (Nat.le_of_ble_eq_true rfl) rfl ⟨Nat.le_of_ble_eq_true rfl, Nat.le_of_ble_eq_true rfl⟩ rfl (Nat.le_of_ble_eq_true rfl) h (fun r3 u3 h => ?_)
        refine go_if_eq (tgt := 54) dX11_owed_38 (by decide) (fun hc => ?_) (fun hc => ?_)
        · replace h := h.1 hc
          refine go_ldc dX11_owed_54 qc_X11_100 ?_
          exact go_iret dX11_owed_56 rfl h
        · replace h := h.2 hc
          refine go_aload_n dX11_owed_41 rfl rfl ?_
          refine go_get (k := 4) (v := .ref (gd g 3)) dX11_owed_42 ob_0 (by decide) qf_X11_44 rfl ?_
          refine go_iload_n dX11_owed_45 rfl rfl ?_
          refine go_iload_n dX11_owed_46 rfl rfl ?_
          refine go_iload_n dX11_owed_47 rfl rfl ?_
          refine go_cVi (o := 3) (As := [.int x1, .int x2, .int x3]) (st := []) (lc := [some (.ref (gd g 3)), some (.int x1), some (.int x2), some (.int x3)]) dX11_owed_48 me_X2_owedAt rfl ob_3 qm_X11_210 rfl (Nat.le_of_ble_eq_true rfl) rfl ⟨Nat.le_of_ble_eq_true rfl, Nat.le_of_ble_eq_true rfl⟩ rfl (Nat.le_of_ble_eq_true rfl) h (fun r4 u4 h => ?_)
          refine go_goto (tgt := 56) dX11_owed_51 (by decide) ?_
          exact go_iret dX11_owed_56 rfl h
      · replace h := h.2 hc
        refine go_aload_n dX11_owed_24 rfl rfl ?_
        refine go_get (k := 4) (v := .ref (gd g 3)) dX11_owed_25 ob_0 (by decide) qf_X11_44 rfl ?_
        refine go_iload_n dX11_owed_28 rfl rfl ?_
        refine go_iload_n dX11_owed_29 rfl rfl ?_
        refine go_cVi (o := 3) (As := [.int x1, .int x3]) (st := []) (lc := [some (.ref (gd g 3)), some (.int x1), some (.int x3), none, none, none]) dX11_owed_30 me_X2_leastGate rfl ob_3 qm_X11_207 rfl (Nat.le_of_ble_eq_true rfl) rfl ⟨Nat.le_of_ble_eq_true rfl, Nat.le_of_ble_eq_true rfl⟩ rfl (Nat.le_of_ble_eq_true rfl) h (fun r5 u5 h => ?_)
        exact go_iret dX11_owed_33 rfl h
    · replace h := h.2 hc
      refine go_ldc dX11_owed_15 qc_X11_100 ?_
      exact go_iret dX11_owed_17 rfl h
set_option maxRecDepth 100000 in
set_option maxHeartbeats 4000000 in
theorem B_X11_pass_0 {g : gp} {u : sg} {Q : Option Value → sg → Prop} (x1 : Int32) (x2 : Int32) (x3 : Int32) (x4 : Int32) (x5 : Int32) (x6 : Int32) (h : Go g iX11_isCart 0 [some (.ref (gd g 0)), some (.int x1)] [] u (QI (fun r1 u1 => ((r1 = (0 : Int32) → Q (some (.int (-1000001 : Int32))) u1) ∧ (¬ r1 = (0 : Int32) → Go g iX11_within 0 [some (.int x2), some (.int 0), some (.int 1)] [] u1 (QI (fun r2 u2 => ((r2 = (0 : Int32) → Q (some (.int (-1000001 : Int32))) u2) ∧ (¬ r2 = (0 : Int32) → Go g iX11_isGate 0 [some (.int x3)] [] u2 (QI (fun r3 u3 => ((¬ r3 = (0 : Int32) → Go g iX11_isDay 0 [some (.int x4)] [] u3 (QI (fun r4 u4 => ((r4 = (0 : Int32) → Q (some (.int (-1000001 : Int32))) u4) ∧ (¬ r4 = (0 : Int32) → Go g iX11_isMinute 0 [some (.int x5)] [] u4 (QI (fun r5 u5 => ((r5 = (0 : Int32) → Q (some (.int (-1000001 : Int32))) u5) ∧ (¬ r5 = (0 : Int32) → Go g iX11_within 0 [some (.int x6), some (.int 0), some (.int 100000)] [] u5 (QI (fun r6 u6 => ((¬ r6 = (0 : Int32) → (((u6.1 3 9) < (60 : Int32) → Go g iX2_addPassing 0 [some (.ref (gd g 3)), some (.int x1), some (.int x2), some (.int x3), some (.int x4), some (.int x5), some (.int x6), none, none] [] u6 (QI (fun r7 u7 => Q (some (.int r7)) u7))) ∧ (¬ (u6.1 3 9) < (60 : Int32) → Q (some (.int (-1000003 : Int32))) u6))) ∧ (r6 = (0 : Int32) → Q (some (.int (-1000001 : Int32))) u6))))))))))))) ∧ (r3 = (0 : Int32) → Q (some (.int (-1000001 : Int32))) u3))))))))))))) : Go g iX11_pass 0 [some (.ref (gd g 0)), some (.int x1), some (.int x2), some (.int x3), some (.int x4), some (.int x5), some (.int x6)] [] u Q := by
  refine go_aload_n dX11_pass_0 rfl rfl ?_
  refine go_iload_n dX11_pass_1 rfl rfl ?_
  refine go_cVi (o := 0) (As := [.int x1]) (st := []) (lc := [some (.ref (gd g 0)), some (.int x1)]) dX11_pass_2 me_X11_isCart rfl ob_0 qm_X11_203 rfl (Nat.le_of_ble_eq_true rfl) rfl ⟨Nat.le_of_ble_eq_true rfl, Nat.le_of_ble_eq_true rfl⟩ rfl (Nat.le_of_ble_eq_true rfl) h (fun r1 u1 h => ?_)
  refine go_if_eq (tgt := 24) dX11_pass_5 (by decide) (fun hc => ?_) (fun hc => ?_)
  · replace h := h.1 hc
    refine go_ldc dX11_pass_24 qc_X11_100 ?_
    exact go_iret dX11_pass_26 rfl h
  · replace h := h.2 hc
    refine go_iload_n dX11_pass_8 rfl rfl ?_
    refine go_iconst (v := 0) dX11_pass_9 (by decide) ?_
    refine go_iconst (v := 1) dX11_pass_10 (by decide) ?_
    refine go_cSi (As := [.int x2, .int 0, .int 1]) (st := []) (lc := [some (.int x2), some (.int 0), some (.int 1)]) dX11_pass_11 me_X11_within qm_X11_96 rfl (Nat.le_of_ble_eq_true rfl) rfl ⟨Nat.le_of_ble_eq_true rfl, Nat.le_of_ble_eq_true rfl⟩ rfl (Nat.le_of_ble_eq_true rfl) h (fun r2 u2 h => ?_)
    refine go_if_eq (tgt := 24) dX11_pass_14 (by decide) (fun hc => ?_) (fun hc => ?_)
    · replace h := h.1 hc
      refine go_ldc dX11_pass_24 qc_X11_100 ?_
      exact go_iret dX11_pass_26 rfl h
    · replace h := h.2 hc
      refine go_iload_n dX11_pass_17 rfl rfl ?_
      refine go_cSi (As := [.int x3]) (st := []) (lc := [some (.int x3)]) dX11_pass_18 me_X11_isGate qm_X11_135 rfl (Nat.le_of_ble_eq_true rfl) rfl ⟨Nat.le_of_ble_eq_true rfl, Nat.le_of_ble_eq_true rfl⟩ rfl (Nat.le_of_ble_eq_true rfl) h (fun r3 u3 h => ?_)
      refine go_if_ne (tgt := 27) dX11_pass_21 (by decide) (fun hc => ?_) (fun hc => ?_)
      · replace h := h.1 hc
        refine go_iload dX11_pass_27 rfl ?_
        refine go_cSi (As := [.int x4]) (st := []) (lc := [some (.int x4)]) dX11_pass_29 me_X11_isDay qm_X11_184 rfl (Nat.le_of_ble_eq_true rfl) rfl ⟨Nat.le_of_ble_eq_true rfl, Nat.le_of_ble_eq_true rfl⟩ rfl (Nat.le_of_ble_eq_true rfl) h (fun r4 u4 h => ?_)
        refine go_if_eq (tgt := 54) dX11_pass_32 (by decide) (fun hc => ?_) (fun hc => ?_)
        · replace h := h.1 hc
          refine go_ldc dX11_pass_54 qc_X11_100 ?_
          exact go_iret dX11_pass_56 rfl h
        · replace h := h.2 hc
          refine go_iload dX11_pass_35 rfl ?_
          refine go_cSi (As := [.int x5]) (st := []) (lc := [some (.int x5)]) dX11_pass_37 me_X11_isMinute qm_X11_213 rfl (Nat.le_of_ble_eq_true rfl) rfl ⟨Nat.le_of_ble_eq_true rfl, Nat.le_of_ble_eq_true rfl⟩ rfl (Nat.le_of_ble_eq_true rfl) h (fun r5 u5 h => ?_)
          refine go_if_eq (tgt := 54) dX11_pass_40 (by decide) (fun hc => ?_) (fun hc => ?_)
          · replace h := h.1 hc
            refine go_ldc dX11_pass_54 qc_X11_100 ?_
            exact go_iret dX11_pass_56 rfl h
          · replace h := h.2 hc
            refine go_iload dX11_pass_43 rfl ?_
            refine go_iconst (v := 0) dX11_pass_45 (by decide) ?_
            refine go_ldc dX11_pass_46 qc_X11_216 ?_
            refine go_cSi (As := [.int x6, .int 0, .int 100000]) (st := []) (lc := [some (.int x6), some (.int 0), some (.int 100000)]) dX11_pass_48 me_X11_within qm_X11_96 rfl (Nat.le_of_ble_eq_true rfl) rfl ⟨Nat.le_of_ble_eq_true rfl, Nat.le_of_ble_eq_true rfl⟩ rfl (Nat.le_of_ble_eq_true rfl) h (fun r6 u6 h => ?_)
            refine go_if_ne (tgt := 57) dX11_pass_51 (by decide) (fun hc => ?_) (fun hc => ?_)
            · replace h := h.1 hc
              refine go_aload_n dX11_pass_57 rfl rfl ?_
              refine go_get (k := 4) (v := .ref (gd g 3)) dX11_pass_58 ob_0 (by decide) qf_X11_44 rfl ?_
              refine go_get (k := 9) (v := .int (u6.1 3 9)) dX11_pass_61 ob_3 (by decide) qf_X11_217 rfl ?_
              refine go_bipush (v := 60) dX11_pass_64 (by decide) ?_
              refine go_icmp_lt (tgt := 72) dX11_pass_66 (by decide) (fun hc => ?_) (fun hc => ?_)
              · replace h := h.1 hc
                refine go_aload_n dX11_pass_72 rfl rfl ?_
                refine go_get (k := 4) (v := .ref (gd g 3)) dX11_pass_73 ob_0 (by decide) qf_X11_44 rfl ?_
                refine go_iload_n dX11_pass_76 rfl rfl ?_
                refine go_iload_n dX11_pass_77 rfl rfl ?_
                refine go_iload_n dX11_pass_78 rfl rfl ?_
                refine go_iload dX11_pass_79 rfl ?_
                refine go_iload dX11_pass_81 rfl ?_
                refine go_iload dX11_pass_83 rfl ?_
                refine go_cVi (o := 3) (As := [.int x1, .int x2, .int x3, .int x4, .int x5, .int x6]) (st := []) (lc := [some (.ref (gd g 3)), some (.int x1), some (.int x2), some (.int x3), some (.int x4), some (.int x5), some (.int x6), none, none]) dX11_pass_85 me_X2_addPassing rfl ob_3 qm_X11_220 rfl (Nat.le_of_ble_eq_true rfl) rfl ⟨Nat.le_of_ble_eq_true rfl, Nat.le_of_ble_eq_true rfl⟩ rfl (Nat.le_of_ble_eq_true rfl) h (fun r7 u7 h => ?_)
                exact go_iret dX11_pass_88 rfl h
              · replace h := h.2 hc
                refine go_ldc dX11_pass_69 qc_X11_161 ?_
                exact go_iret dX11_pass_71 rfl h
            · replace h := h.2 hc
              refine go_ldc dX11_pass_54 qc_X11_100 ?_
              exact go_iret dX11_pass_56 rfl h
      · replace h := h.2 hc
        refine go_ldc dX11_pass_24 qc_X11_100 ?_
        exact go_iret dX11_pass_26 rfl h
set_option maxRecDepth 100000 in
set_option maxHeartbeats 4000000 in
theorem B_X11_agree_0 {g : gp} {u : sg} {Q : Option Value → sg → Prop} (x1 : Int32) (h : ((x1 = 0 → Go g iX2_wrongPassings 0 [some (.ref (gd g 3)), none, none, none, none] [] u (QI (fun r1 u1 => Q (some (.int r1)) u1))) ∧ (x1 = 1 → Go g iX2_cartsInside 0 [some (.ref (gd g 3)), none, none] [] u (QI (fun r2 u2 => Q (some (.int r2)) u2))) ∧ (x1 = 2 → Go g iX2_lostCarts 0 [some (.ref (gd g 3)), none, none, none, none] [] u (QI (fun r3 u3 => Q (some (.int r3)) u3))) ∧ (¬ x1 = 0 → ¬ x1 = 1 → ¬ x1 = 2 → Q (some (.int (-1000001 : Int32))) u))) : Go g iX11_agree 0 [some (.ref (gd g 0)), some (.int x1)] [] u Q := by
  refine go_iload_n dX11_agree_0 rfl rfl ?_
  by_cases hc0 : x1 = 0
  · replace h := h.1 hc0
    refine go_tabIn (off := 27) (tgt := 28) dX11_agree_1 (by rw [hc0]; decide) (by rw [hc0]; decide) (by rw [hc0]; decide) (by decide) ?_
    refine go_aload_n dX11_agree_28 rfl rfl ?_
    refine go_get (k := 4) (v := .ref (gd g 3)) dX11_agree_29 ob_0 (by decide) qf_X11_44 rfl ?_
    refine go_cVi (o := 3) (As := []) (st := []) (lc := [some (.ref (gd g 3)), none, none, none, none]) dX11_agree_32 me_X2_wrongPassings rfl ob_3 qm_X11_224 rfl (Nat.le_of_ble_eq_true rfl) rfl ⟨Nat.le_of_ble_eq_true rfl, Nat.le_of_ble_eq_true rfl⟩ rfl (Nat.le_of_ble_eq_true rfl) h (fun r1 u1 h => ?_)
    exact go_iret dX11_agree_35 rfl h
  replace h := h.2
  by_cases hc1 : x1 = 1
  · replace h := h.1 hc1
    refine go_tabIn (off := 35) (tgt := 36) dX11_agree_1 (by rw [hc1]; decide) (by rw [hc1]; decide) (by rw [hc1]; decide) (by decide) ?_
    refine go_aload_n dX11_agree_36 rfl rfl ?_
    refine go_get (k := 4) (v := .ref (gd g 3)) dX11_agree_37 ob_0 (by decide) qf_X11_44 rfl ?_
    refine go_cVi (o := 3) (As := []) (st := []) (lc := [some (.ref (gd g 3)), none, none]) dX11_agree_40 me_X2_cartsInside rfl ob_3 qm_X11_228 rfl (Nat.le_of_ble_eq_true rfl) rfl ⟨Nat.le_of_ble_eq_true rfl, Nat.le_of_ble_eq_true rfl⟩ rfl (Nat.le_of_ble_eq_true rfl) h (fun r2 u2 h => ?_)
    exact go_iret dX11_agree_43 rfl h
  replace h := h.2
  by_cases hc2 : x1 = 2
  · replace h := h.1 hc2
    refine go_tabIn (off := 43) (tgt := 44) dX11_agree_1 (by rw [hc2]; decide) (by rw [hc2]; decide) (by rw [hc2]; decide) (by decide) ?_
    refine go_aload_n dX11_agree_44 rfl rfl ?_
    refine go_get (k := 4) (v := .ref (gd g 3)) dX11_agree_45 ob_0 (by decide) qf_X11_44 rfl ?_
    refine go_cVi (o := 3) (As := []) (st := []) (lc := [some (.ref (gd g 3)), none, none, none, none]) dX11_agree_48 me_X2_lostCarts rfl ob_3 qm_X11_231 rfl (Nat.le_of_ble_eq_true rfl) rfl ⟨Nat.le_of_ble_eq_true rfl, Nat.le_of_ble_eq_true rfl⟩ rfl (Nat.le_of_ble_eq_true rfl) h (fun r3 u3 h => ?_)
    exact go_iret dX11_agree_51 rfl h
  replace h := h.2
  replace h := h hc0 hc1 hc2
  refine go_tabOut (tgt := 52) dX11_agree_1 (by have e0 : x1.toInt ≠ 0 := tab_ne hc0; have e1 : x1.toInt ≠ 1 := tab_ne hc1; have e2 : x1.toInt ≠ 2 := tab_ne hc2; omega) (by decide) ?_
  refine go_ldc dX11_agree_52 qc_X11_100 ?_
  exact go_iret dX11_agree_54 rfl h
set_option maxRecDepth 100000 in
set_option maxHeartbeats 4000000 in
theorem B_X11_amiss_0 {g : gp} {u : sg} {Q : Option Value → sg → Prop} (x1 : Int32) (x2 : Int32) (x3 : Int32) (h : ((x1 = (-1000000 : Int32) → Go g iX11_amiss 13 [some (.ref (gd g 0)), some (.int x1), some (.int x2), some (.int x3)] [] u Q) ∧ (¬ x1 = (-1000000 : Int32) → Go g iX11_isGate 0 [some (.int x1)] [] u (QI (fun r1 u1 => ((r1 = (0 : Int32) → Q (some (.int (-1000001 : Int32))) u1) ∧ (¬ r1 = (0 : Int32) → Go g iX11_amiss 13 [some (.ref (gd g 0)), some (.int x1), some (.int x2), some (.int x3)] [] u1 Q))))))) : Go g iX11_amiss 0 [some (.ref (gd g 0)), some (.int x1), some (.int x2), some (.int x3)] [] u Q := by
  refine go_iload_n dX11_amiss_0 rfl rfl ?_
  refine go_ldc dX11_amiss_1 qc_X11_206 ?_
  refine go_icmp_eq (tgt := 13) dX11_amiss_3 (by decide) (fun hc => ?_) (fun hc => ?_)
  · replace h := h.1 hc
    exact h
  · replace h := h.2 hc
    refine go_iload_n dX11_amiss_6 rfl rfl ?_
    refine go_cSi (As := [.int x1]) (st := []) (lc := [some (.int x1)]) dX11_amiss_7 me_X11_isGate qm_X11_135 rfl (Nat.le_of_ble_eq_true rfl) rfl ⟨Nat.le_of_ble_eq_true rfl, Nat.le_of_ble_eq_true rfl⟩ rfl (Nat.le_of_ble_eq_true rfl) h (fun r1 u1 h => ?_)
    refine go_if_eq (tgt := 21) dX11_amiss_10 (by decide) (fun hc => ?_) (fun hc => ?_)
    · replace h := h.1 hc
      refine go_ldc dX11_amiss_21 qc_X11_100 ?_
      exact go_iret dX11_amiss_23 rfl h
    · replace h := h.2 hc
      exact h
set_option maxRecDepth 100000 in
set_option maxHeartbeats 4000000 in
theorem B_X11_amiss_13 {g : gp} {u : sg} {Q : Option Value → sg → Prop} (x1 : Int32) (x2 : Int32) (x3 : Int32) (h : Go g iX11_areDays 0 [some (.int x2), some (.int x3)] [] u (QI (fun r1 u1 => ((¬ r1 = (0 : Int32) → Go g iX2_shortOf 0 [some (.ref (gd g 3)), some (.int x1), some (.int x2), some (.int x3), none, none, none, none] [] u1 (QI (fun r2 u2 => Q (some (.int r2)) u2))) ∧ (r1 = (0 : Int32) → Q (some (.int (-1000001 : Int32))) u1))))) : Go g iX11_amiss 13 [some (.ref (gd g 0)), some (.int x1), some (.int x2), some (.int x3)] [] u Q := by
  refine go_iload_n dX11_amiss_13 rfl rfl ?_
  refine go_iload_n dX11_amiss_14 rfl rfl ?_
  refine go_cSi (As := [.int x2, .int x3]) (st := []) (lc := [some (.int x2), some (.int x3)]) dX11_amiss_15 me_X11_areDays qm_X11_234 rfl (Nat.le_of_ble_eq_true rfl) rfl ⟨Nat.le_of_ble_eq_true rfl, Nat.le_of_ble_eq_true rfl⟩ rfl (Nat.le_of_ble_eq_true rfl) h (fun r1 u1 h => ?_)
  refine go_if_ne (tgt := 24) dX11_amiss_18 (by decide) (fun hc => ?_) (fun hc => ?_)
  · replace h := h.1 hc
    refine go_aload_n dX11_amiss_24 rfl rfl ?_
    refine go_get (k := 4) (v := .ref (gd g 3)) dX11_amiss_25 ob_0 (by decide) qf_X11_44 rfl ?_
    refine go_iload_n dX11_amiss_28 rfl rfl ?_
    refine go_iload_n dX11_amiss_29 rfl rfl ?_
    refine go_iload_n dX11_amiss_30 rfl rfl ?_
    refine go_cVi (o := 3) (As := [.int x1, .int x2, .int x3]) (st := []) (lc := [some (.ref (gd g 3)), some (.int x1), some (.int x2), some (.int x3), none, none, none, none]) dX11_amiss_31 me_X2_shortOf rfl ob_3 qm_X11_237 rfl (Nat.le_of_ble_eq_true rfl) rfl ⟨Nat.le_of_ble_eq_true rfl, Nat.le_of_ble_eq_true rfl⟩ rfl (Nat.le_of_ble_eq_true rfl) h (fun r2 u2 h => ?_)
    exact go_iret dX11_amiss_34 rfl h
  · replace h := h.2 hc
    refine go_ldc dX11_amiss_21 qc_X11_100 ?_
    exact go_iret dX11_amiss_23 rfl h
set_option maxRecDepth 100000 in
set_option maxHeartbeats 4000000 in
theorem B_X11_road_0 {g : gp} {u : sg} {Q : Option Value → sg → Prop} (x1 : Int32) (x2 : Int32) (x3 : Int32) (h : Go g iX11_isTown 0 [some (.int x1)] [] u (QI (fun r1 u1 => ((r1 = (0 : Int32) → Q (some (.int (-1000001 : Int32))) u1) ∧ (¬ r1 = (0 : Int32) → ((x2 = (-1000000 : Int32) → Go g iX11_road 20 [some (.ref (gd g 0)), some (.int x1), some (.int x2), some (.int x3)] [] u1 Q) ∧ (¬ x2 = (-1000000 : Int32) → Go g iX11_isTown 0 [some (.int x2)] [] u1 (QI (fun r2 u2 => ((r2 = (0 : Int32) → Q (some (.int (-1000001 : Int32))) u2) ∧ (¬ r2 = (0 : Int32) → Go g iX11_road 20 [some (.ref (gd g 0)), some (.int x1), some (.int x2), some (.int x3)] [] u2 Q))))))))))) : Go g iX11_road 0 [some (.ref (gd g 0)), some (.int x1), some (.int x2), some (.int x3)] [] u Q := by
  refine go_iload_n dX11_road_0 rfl rfl ?_
  refine go_cSi (As := [.int x1]) (st := []) (lc := [some (.int x1)]) dX11_road_1 me_X11_isTown qm_X11_240 rfl (Nat.le_of_ble_eq_true rfl) rfl ⟨Nat.le_of_ble_eq_true rfl, Nat.le_of_ble_eq_true rfl⟩ rfl (Nat.le_of_ble_eq_true rfl) h (fun r1 u1 h => ?_)
  refine go_if_eq (tgt := 35) dX11_road_4 (by decide) (fun hc => ?_) (fun hc => ?_)
  · replace h := h.1 hc
    refine go_ldc dX11_road_35 qc_X11_100 ?_
    exact go_iret dX11_road_37 rfl h
  · replace h := h.2 hc
    refine go_iload_n dX11_road_7 rfl rfl ?_
    refine go_ldc dX11_road_8 qc_X11_206 ?_
    refine go_icmp_eq (tgt := 20) dX11_road_10 (by decide) (fun hc => ?_) (fun hc => ?_)
    · replace h := h.1 hc
      exact h
    · replace h := h.2 hc
      refine go_iload_n dX11_road_13 rfl rfl ?_
      refine go_cSi (As := [.int x2]) (st := []) (lc := [some (.int x2)]) dX11_road_14 me_X11_isTown qm_X11_240 rfl (Nat.le_of_ble_eq_true rfl) rfl ⟨Nat.le_of_ble_eq_true rfl, Nat.le_of_ble_eq_true rfl⟩ rfl (Nat.le_of_ble_eq_true rfl) h (fun r2 u2 h => ?_)
      refine go_if_eq (tgt := 35) dX11_road_17 (by decide) (fun hc => ?_) (fun hc => ?_)
      · replace h := h.1 hc
        refine go_ldc dX11_road_35 qc_X11_100 ?_
        exact go_iret dX11_road_37 rfl h
      · replace h := h.2 hc
        exact h
set_option maxRecDepth 100000 in
set_option maxHeartbeats 4000000 in
theorem B_X11_road_20 {g : gp} {u : sg} {Q : Option Value → sg → Prop} (x1 : Int32) (x2 : Int32) (x3 : Int32) (h : ((x1 = x2 → Q (some (.int (-1000001 : Int32))) u) ∧ (¬ x1 = x2 → Go g iX11_within 0 [some (.int x3), some (.int 1), some (.int 60)] [] u (QI (fun r1 u1 => ((¬ r1 = (0 : Int32) → ((¬ x2 = (-1000000 : Int32) → Go g iX5_layRoad 0 [some (.ref (gd g 6)), some (.int x1), some (.int x2), some (.int x3), none] [] u1 (QI (fun r2 u2 => Q (some (.int r2)) u2))) ∧ (x2 = (-1000000 : Int32) → Go g iX5_layRoadToGates 0 [some (.ref (gd g 6)), some (.int x1), some (.int x3), none] [] u1 (QI (fun r3 u3 => Q (some (.int r3)) u3))))) ∧ (r1 = (0 : Int32) → Q (some (.int (-1000001 : Int32))) u1))))))) : Go g iX11_road 20 [some (.ref (gd g 0)), some (.int x1), some (.int x2), some (.int x3)] [] u Q := by
  refine go_iload_n dX11_road_20 rfl rfl ?_
  refine go_iload_n dX11_road_21 rfl rfl ?_
  refine go_icmp_eq (tgt := 35) dX11_road_22 (by decide) (fun hc => ?_) (fun hc => ?_)
  · replace h := h.1 hc
    refine go_ldc dX11_road_35 qc_X11_100 ?_
    exact go_iret dX11_road_37 rfl h
  · replace h := h.2 hc
    refine go_iload_n dX11_road_25 rfl rfl ?_
    refine go_iconst (v := 1) dX11_road_26 (by decide) ?_
    refine go_bipush (v := 60) dX11_road_27 (by decide) ?_
    refine go_cSi (As := [.int x3, .int 1, .int 60]) (st := []) (lc := [some (.int x3), some (.int 1), some (.int 60)]) dX11_road_29 me_X11_within qm_X11_96 rfl (Nat.le_of_ble_eq_true rfl) rfl ⟨Nat.le_of_ble_eq_true rfl, Nat.le_of_ble_eq_true rfl⟩ rfl (Nat.le_of_ble_eq_true rfl) h (fun r1 u1 h => ?_)
    refine go_if_ne (tgt := 38) dX11_road_32 (by decide) (fun hc => ?_) (fun hc => ?_)
    · replace h := h.1 hc
      refine go_iload_n dX11_road_38 rfl rfl ?_
      refine go_ldc dX11_road_39 qc_X11_206 ?_
      refine go_icmp_ne (tgt := 56) dX11_road_41 (by decide) (fun hc => ?_) (fun hc => ?_)
      · replace h := h.1 hc
        refine go_aload_n dX11_road_56 rfl rfl ?_
        refine go_get (k := 5) (v := .ref (gd g 6)) dX11_road_57 ob_0 (by decide) qf_X11_51 rfl ?_
        refine go_iload_n dX11_road_60 rfl rfl ?_
        refine go_iload_n dX11_road_61 rfl rfl ?_
        refine go_iload_n dX11_road_62 rfl rfl ?_
        refine go_cVi (o := 6) (As := [.int x1, .int x2, .int x3]) (st := []) (lc := [some (.ref (gd g 6)), some (.int x1), some (.int x2), some (.int x3), none]) dX11_road_63 me_X5_layRoad rfl ob_6 qm_X11_246 rfl (Nat.le_of_ble_eq_true rfl) rfl ⟨Nat.le_of_ble_eq_true rfl, Nat.le_of_ble_eq_true rfl⟩ rfl (Nat.le_of_ble_eq_true rfl) h (fun r2 u2 h => ?_)
        exact go_iret dX11_road_66 rfl h
      · replace h := h.2 hc
        refine go_aload_n dX11_road_44 rfl rfl ?_
        refine go_get (k := 5) (v := .ref (gd g 6)) dX11_road_45 ob_0 (by decide) qf_X11_51 rfl ?_
        refine go_iload_n dX11_road_48 rfl rfl ?_
        refine go_iload_n dX11_road_49 rfl rfl ?_
        refine go_cVi (o := 6) (As := [.int x1, .int x3]) (st := []) (lc := [some (.ref (gd g 6)), some (.int x1), some (.int x3), none]) dX11_road_50 me_X5_layRoadToGates rfl ob_6 qm_X11_243 rfl (Nat.le_of_ble_eq_true rfl) rfl ⟨Nat.le_of_ble_eq_true rfl, Nat.le_of_ble_eq_true rfl⟩ rfl (Nat.le_of_ble_eq_true rfl) h (fun r3 u3 h => ?_)
        refine go_goto (tgt := 66) dX11_road_53 (by decide) ?_
        exact go_iret dX11_road_66 rfl h
    · replace h := h.2 hc
      refine go_ldc dX11_road_35 qc_X11_100 ?_
      exact go_iret dX11_road_37 rfl h
set_option maxRecDepth 100000 in
set_option maxHeartbeats 4000000 in
theorem B_X11_sick_0 {g : gp} {u : sg} {Q : Option Value → sg → Prop} (x1 : Int32) (x2 : Int32) (x3 : Int32) (h : Go g iX11_isTown 0 [some (.int x1)] [] u (QI (fun r1 u1 => ((r1 = (0 : Int32) → Q (some (.int (-1000001 : Int32))) u1) ∧ (¬ r1 = (0 : Int32) → Go g iX11_areDays 0 [some (.int x2), some (.int x3)] [] u1 (QI (fun r2 u2 => ((¬ r2 = (0 : Int32) → (((u2.1 6 9) < (20 : Int32) → Go g iX5_addSick 0 [some (.ref (gd g 6)), some (.int x1), some (.int x2), some (.int x3)] [] u2 (QI (fun r3 u3 => Q (some (.int r3)) u3))) ∧ (¬ (u2.1 6 9) < (20 : Int32) → Q (some (.int (-1000003 : Int32))) u2))) ∧ (r2 = (0 : Int32) → Q (some (.int (-1000001 : Int32))) u2))))))))) : Go g iX11_sick 0 [some (.ref (gd g 0)), some (.int x1), some (.int x2), some (.int x3)] [] u Q := by
  refine go_iload_n dX11_sick_0 rfl rfl ?_
  refine go_cSi (As := [.int x1]) (st := []) (lc := [some (.int x1)]) dX11_sick_1 me_X11_isTown qm_X11_240 rfl (Nat.le_of_ble_eq_true rfl) rfl ⟨Nat.le_of_ble_eq_true rfl, Nat.le_of_ble_eq_true rfl⟩ rfl (Nat.le_of_ble_eq_true rfl) h (fun r1 u1 h => ?_)
  refine go_if_eq (tgt := 15) dX11_sick_4 (by decide) (fun hc => ?_) (fun hc => ?_)
  · replace h := h.1 hc
    refine go_ldc dX11_sick_15 qc_X11_100 ?_
    exact go_iret dX11_sick_17 rfl h
  · replace h := h.2 hc
    refine go_iload_n dX11_sick_7 rfl rfl ?_
    refine go_iload_n dX11_sick_8 rfl rfl ?_
    refine go_cSi (As := [.int x2, .int x3]) (st := []) (lc := [some (.int x2), some (.int x3)]) dX11_sick_9 me_X11_areDays qm_X11_234 rfl (Nat.le_of_ble_eq_true rfl) rfl ⟨Nat.le_of_ble_eq_true rfl, Nat.le_of_ble_eq_true rfl⟩ rfl (Nat.le_of_ble_eq_true rfl) h (fun r2 u2 h => ?_)
    refine go_if_ne (tgt := 18) dX11_sick_12 (by decide) (fun hc => ?_) (fun hc => ?_)
    · replace h := h.1 hc
      refine go_aload_n dX11_sick_18 rfl rfl ?_
      refine go_get (k := 5) (v := .ref (gd g 6)) dX11_sick_19 ob_0 (by decide) qf_X11_51 rfl ?_
      refine go_get (k := 9) (v := .int (u2.1 6 9)) dX11_sick_22 ob_6 (by decide) qf_X11_249 rfl ?_
      refine go_bipush (v := 20) dX11_sick_25 (by decide) ?_
      refine go_icmp_lt (tgt := 33) dX11_sick_27 (by decide) (fun hc => ?_) (fun hc => ?_)
      · replace h := h.1 hc
        refine go_aload_n dX11_sick_33 rfl rfl ?_
        refine go_get (k := 5) (v := .ref (gd g 6)) dX11_sick_34 ob_0 (by decide) qf_X11_51 rfl ?_
        refine go_iload_n dX11_sick_37 rfl rfl ?_
        refine go_iload_n dX11_sick_38 rfl rfl ?_
        refine go_iload_n dX11_sick_39 rfl rfl ?_
        refine go_cVi (o := 6) (As := [.int x1, .int x2, .int x3]) (st := []) (lc := [some (.ref (gd g 6)), some (.int x1), some (.int x2), some (.int x3)]) dX11_sick_40 me_X5_addSick rfl ob_6 qm_X11_252 rfl (Nat.le_of_ble_eq_true rfl) rfl ⟨Nat.le_of_ble_eq_true rfl, Nat.le_of_ble_eq_true rfl⟩ rfl (Nat.le_of_ble_eq_true rfl) h (fun r3 u3 h => ?_)
        exact go_iret dX11_sick_43 rfl h
      · replace h := h.2 hc
        refine go_ldc dX11_sick_30 qc_X11_161 ?_
        exact go_iret dX11_sick_32 rfl h
    · replace h := h.2 hc
      refine go_ldc dX11_sick_15 qc_X11_100 ?_
      exact go_iret dX11_sick_17 rfl h
set_option maxRecDepth 100000 in
set_option maxHeartbeats 4000000 in
theorem B_X11_seal_0 {g : gp} {u : sg} {Q : Option Value → sg → Prop} (x1 : Int32) (x2 : Int32) (h : Go g iX11_isSheet 0 [some (.int x1)] [] u (QI (fun r1 u1 => ((¬ r1 = (0 : Int32) → (((u1.1 6 3) < (16 : Int32) → Go g iX11_flawOf 0 [some (.ref (gd g 0)), some (.int x1), some (.int x2), some (.int 7)] [] u1 (QI (fun r2 u2 => ((r2 = (0 : Int32) → Go g iX11_seal 47 [some (.ref (gd g 0)), some (.int x1), some (.int x2), none, some (.int 0), none] [] u2 Q) ∧ (¬ r2 = (0 : Int32) → Go g iX11_found 0 [some (.ref (gd g 0)), some (.int r2)] [] u2 (QI (fun r3 u3 => Q (some (.int r3)) u3))))))) ∧ (¬ (u1.1 6 3) < (16 : Int32) → Q (some (.int (-1000003 : Int32))) u1))) ∧ (r1 = (0 : Int32) → Q (some (.int (-1000001 : Int32))) u1))))) : Go g iX11_seal 0 [some (.ref (gd g 0)), some (.int x1), some (.int x2), none, none, none] [] u Q := by
  refine go_iload_n dX11_seal_0 rfl rfl ?_
  refine go_cSi (As := [.int x1]) (st := []) (lc := [some (.int x1)]) dX11_seal_1 me_X11_isSheet qm_X11_92 rfl (Nat.le_of_ble_eq_true rfl) rfl ⟨Nat.le_of_ble_eq_true rfl, Nat.le_of_ble_eq_true rfl⟩ rfl (Nat.le_of_ble_eq_true rfl) h (fun r1 u1 h => ?_)
  refine go_if_ne (tgt := 10) dX11_seal_4 (by decide) (fun hc => ?_) (fun hc => ?_)
  · replace h := h.1 hc
    refine go_aload_n dX11_seal_10 rfl rfl ?_
    refine go_get (k := 5) (v := .ref (gd g 6)) dX11_seal_11 ob_0 (by decide) qf_X11_51 rfl ?_
    refine go_get (k := 3) (v := .int (u1.1 6 3)) dX11_seal_14 ob_6 (by decide) qf_X11_255 rfl ?_
    refine go_bipush (v := 16) dX11_seal_17 (by decide) ?_
    refine go_icmp_lt (tgt := 25) dX11_seal_19 (by decide) (fun hc => ?_) (fun hc => ?_)
    · replace h := h.1 hc
      refine go_aload_n dX11_seal_25 rfl rfl ?_
      refine go_iload_n dX11_seal_26 rfl rfl ?_
      refine go_iload_n dX11_seal_27 rfl rfl ?_
      refine go_bipush (v := 7) dX11_seal_28 (by decide) ?_
      refine go_cVi (o := 0) (As := [.int x1, .int x2, .int 7]) (st := []) (lc := [some (.ref (gd g 0)), some (.int x1), some (.int x2), some (.int 7)]) dX11_seal_30 me_X11_flawOf rfl ob_0 qm_X11_112 rfl (Nat.le_of_ble_eq_true rfl) rfl ⟨Nat.le_of_ble_eq_true rfl, Nat.le_of_ble_eq_true rfl⟩ rfl (Nat.le_of_ble_eq_true rfl) h (fun r2 u2 h => ?_)
      refine go_istore_n (lm := [some (.ref (gd g 0)), some (.int x1), some (.int x2), some (.int r2), none, none]) dX11_seal_33 rfl (by decide) rfl rfl ?_
      refine go_iload_n dX11_seal_34 rfl rfl ?_
      refine go_if_eq (tgt := 44) dX11_seal_35 (by decide) (fun hc => ?_) (fun hc => ?_)
      · replace h := h.1 hc
        refine go_iconst (v := 0) dX11_seal_44 (by decide) ?_
        refine go_istore (lm := [some (.ref (gd g 0)), some (.int x1), some (.int x2), some (.int r2), some (.int 0), none]) dX11_seal_45 (by decide) rfl rfl ?_
        refine go_mask [true, true, true, false, true, true] rfl ?_
        exact h
      · replace h := h.2 hc
        refine go_aload_n dX11_seal_38 rfl rfl ?_
        refine go_iload_n dX11_seal_39 rfl rfl ?_
        refine go_cVi (o := 0) (As := [.int r2]) (st := []) (lc := [some (.ref (gd g 0)), some (.int r2)]) dX11_seal_40 me_X11_found rfl ob_0 qm_X11_101 rfl (Nat.le_of_ble_eq_true rfl) rfl ⟨Nat.le_of_ble_eq_true rfl, Nat.le_of_ble_eq_true rfl⟩ rfl (Nat.le_of_ble_eq_true rfl) h (fun r3 u3 h => ?_)
        exact go_iret dX11_seal_43 rfl h
    · replace h := h.2 hc
      refine go_ldc dX11_seal_22 qc_X11_161 ?_
      exact go_iret dX11_seal_24 rfl h
  · replace h := h.2 hc
    refine go_ldc dX11_seal_7 qc_X11_100 ?_
    exact go_iret dX11_seal_9 rfl h
set_option maxRecDepth 100000 in
set_option maxHeartbeats 4000000 in
theorem B_X11_seal_47 {g : gp} {u : sg} {Q : Option Value → sg → Prop} (x1 : Int32) (x2 : Int32) (x4 : Int32) (h : (((7 : Int32) ≤ x4 → Go g iX5_addPass 0 [some (.ref (gd g 6)), some (.ref (gd g 9)), some (.int x1), some (.int x2), none] [] u (QI (fun r1 u1 => Go g iX11_fine 0 [some (.ref (gd g 0)), some (.int r1)] [] u1 (QI (fun r2 u2 => Q (some (.int r2)) u2))))) ∧ (¬ (7 : Int32) ≤ x4 → ((¬ x4 = (6 : Int32) → Go g iX11_seal 76 [some (.ref (gd g 0)), some (.int x1), some (.int x2), none, some (.int x4), none] [.int 0] u Q) ∧ (x4 = (6 : Int32) → Go g iX8_itemAt 0 [some (.ref (gd g 9)), some (.int x1), some (.int (x2 + 5))] [] u (QI (fun r3 u3 => Go g iX11_seal 76 [some (.ref (gd g 0)), some (.int x1), some (.int x2), none, some (.int x4), none] [.int r3] u3 Q))))))) : Go g iX11_seal 47 [some (.ref (gd g 0)), some (.int x1), some (.int x2), none, some (.int x4), none] [] u Q := by
  refine go_iload dX11_seal_47 rfl ?_
  refine go_bipush (v := 7) dX11_seal_49 (by decide) ?_
  refine go_icmp_ge (tgt := 113) dX11_seal_51 (by decide) (fun hc => ?_) (fun hc => ?_)
  · replace h := h.1 hc
    refine go_aload_n dX11_seal_113 rfl rfl ?_
    refine go_aload_n dX11_seal_114 rfl rfl ?_
    refine go_get (k := 5) (v := .ref (gd g 6)) dX11_seal_115 ob_0 (by decide) qf_X11_51 rfl ?_
    refine go_aload_n dX11_seal_118 rfl rfl ?_
    refine go_get (k := 0) (v := .ref (gd g 9)) dX11_seal_119 ob_0 (by decide) qf_X11_10 rfl ?_
    refine go_iload_n dX11_seal_122 rfl rfl ?_
    refine go_iload_n dX11_seal_123 rfl rfl ?_
    refine go_cVi (o := 6) (As := [.ref (gd g 9), .int x1, .int x2]) (st := [.ref (gd g 0)]) (lc := [some (.ref (gd g 6)), some (.ref (gd g 9)), some (.int x1), some (.int x2), none]) dX11_seal_124 me_X5_addPass rfl ob_6 qm_X11_261 rfl (Nat.le_of_ble_eq_true rfl) rfl ⟨Nat.le_of_ble_eq_true rfl, Nat.le_of_ble_eq_true rfl⟩ rfl (Nat.le_of_ble_eq_true rfl) h (fun r1 u1 h => ?_)
    refine go_cVi (o := 0) (As := [.int r1]) (st := []) (lc := [some (.ref (gd g 0)), some (.int r1)]) dX11_seal_127 me_X11_fine rfl ob_0 qm_X11_109 rfl (Nat.le_of_ble_eq_true rfl) rfl ⟨Nat.le_of_ble_eq_true rfl, Nat.le_of_ble_eq_true rfl⟩ rfl (Nat.le_of_ble_eq_true rfl) h (fun r2 u2 h => ?_)
    exact go_iret dX11_seal_130 rfl h
  · replace h := h.2 hc
    refine go_iload dX11_seal_54 rfl ?_
    refine go_bipush (v := 6) dX11_seal_56 (by decide) ?_
    refine go_icmp_ne (tgt := 75) dX11_seal_58 (by decide) (fun hc => ?_) (fun hc => ?_)
    · replace h := h.1 hc
      refine go_iconst (v := 0) dX11_seal_75 (by decide) ?_
      exact h
    · replace h := h.2 hc
      refine go_aload_n dX11_seal_61 rfl rfl ?_
      refine go_get (k := 0) (v := .ref (gd g 9)) dX11_seal_62 ob_0 (by decide) qf_X11_10 rfl ?_
      refine go_iload_n dX11_seal_65 rfl rfl ?_
      refine go_iload_n dX11_seal_66 rfl rfl ?_
      refine go_iconst (v := 5) dX11_seal_67 (by decide) ?_
      refine go_iadd dX11_seal_68 ?_
      refine go_cVi (o := 9) (As := [.int x1, .int (x2 + 5)]) (st := []) (lc := [some (.ref (gd g 9)), some (.int x1), some (.int (x2 + 5))]) dX11_seal_69 me_X8_itemAt rfl ob_9 qm_X11_196 rfl (Nat.le_of_ble_eq_true rfl) rfl ⟨Nat.le_of_ble_eq_true rfl, Nat.le_of_ble_eq_true rfl⟩ rfl (Nat.le_of_ble_eq_true rfl) h (fun r3 u3 h => ?_)
      refine go_goto (tgt := 76) dX11_seal_72 (by decide) ?_
      exact h
set_option maxRecDepth 100000 in
set_option maxHeartbeats 4000000 in
theorem B_X11_seal_76 {g : gp} {u : sg} {Q : Option Value → sg → Prop} (x1 : Int32) (x2 : Int32) (x4 : Int32) (t0 : Int32) (h : Go g iX8_itemAt 0 [some (.ref (gd g 9)), some (.int x1), some (.int (x2 + x4))] [] u (QI (fun r1 u1 => (vp_in x4 7 ∧ Go g iX11_within 0 [some (.int r1), some (.int t0), some (.int ((stV.getD 2 []).getD x4.toNatClampNeg 0))] [] u1 (QI (fun r2 u2 => ((¬ r2 = (0 : Int32) → Go g iX11_seal 47 [some (.ref (gd g 0)), some (.int x1), some (.int x2), none, some (.int (x4 + 1)), none] [] u2 Q) ∧ (r2 = (0 : Int32) → Q (some (.int (-1000001 : Int32))) u2)))))))) : Go g iX11_seal 76 [some (.ref (gd g 0)), some (.int x1), some (.int x2), none, some (.int x4), none] [.int t0] u Q := by
  refine go_istore (lm := [some (.ref (gd g 0)), some (.int x1), some (.int x2), none, some (.int x4), some (.int t0)]) dX11_seal_76 (by decide) rfl rfl ?_
  refine go_aload_n dX11_seal_78 rfl rfl ?_
  refine go_get (k := 0) (v := .ref (gd g 9)) dX11_seal_79 ob_0 (by decide) qf_X11_10 rfl ?_
  refine go_iload_n dX11_seal_82 rfl rfl ?_
  refine go_iload_n dX11_seal_83 rfl rfl ?_
  refine go_iload dX11_seal_84 rfl ?_
  refine go_iadd dX11_seal_86 ?_
  refine go_cVi (o := 9) (As := [.int x1, .int (x2 + x4)]) (st := []) (lc := [some (.ref (gd g 9)), some (.int x1), some (.int (x2 + x4))]) dX11_seal_87 me_X8_itemAt rfl ob_9 qm_X11_196 rfl (Nat.le_of_ble_eq_true rfl) rfl ⟨Nat.le_of_ble_eq_true rfl, Nat.le_of_ble_eq_true rfl⟩ rfl (Nat.le_of_ble_eq_true rfl) h (fun r1 u1 h => ?_)
  refine go_iload dX11_seal_90 rfl ?_
  refine go_gst (t := 2) dX11_seal_92 (by decide) rfl rfl qf_X11_258 ?_
  refine go_iload dX11_seal_95 rfl ?_
  obtain ⟨hi, h⟩ := h
  refine go_tld (t := 2) (N := 7) dX11_seal_97 (by decide) rfl hi rfl ?_
  refine go_cSi (As := [.int r1, .int t0, .int ((stV.getD 2 []).getD x4.toNatClampNeg 0)]) (st := []) (lc := [some (.int r1), some (.int t0), some (.int ((stV.getD 2 []).getD x4.toNatClampNeg 0))]) dX11_seal_98 me_X11_within qm_X11_96 rfl (Nat.le_of_ble_eq_true rfl) rfl ⟨Nat.le_of_ble_eq_true rfl, Nat.le_of_ble_eq_true rfl⟩ rfl (Nat.le_of_ble_eq_true rfl) h (fun r2 u2 h => ?_)
  refine go_if_ne (tgt := 107) dX11_seal_101 (by decide) (fun hc => ?_) (fun hc => ?_)
  · replace h := h.1 hc
    refine go_iinc (v := x4 + 1) (lm := [some (.ref (gd g 0)), some (.int x1), some (.int x2), none, some (.int (x4 + 1)), some (.int t0)]) dX11_seal_107 rfl rfl (by decide) rfl rfl ?_
    refine go_goto (tgt := 47) dX11_seal_110 (by decide) ?_
    refine go_mask [true, true, true, true, true, false] rfl ?_
    exact h
  · replace h := h.2 hc
    refine go_ldc dX11_seal_104 qc_X11_100 ?_
    exact go_iret dX11_seal_106 rfl h
set_option maxRecDepth 100000 in
set_option maxHeartbeats 4000000 in
theorem B_X11_canbe_0 {g : gp} {u : sg} {Q : Option Value → sg → Prop} (x1 : Int32) (h : Go g iX11_isPerson 0 [some (.int x1)] [] u (QI (fun r1 u1 => ((¬ r1 = (0 : Int32) → Go g iX5_canBeTrue 0 [some (.ref (gd g 6)), some (.int x1), none, none, none] [] u1 (QI (fun r2 u2 => ((r2 = (0 : Int32) → Q (some (.int (0 : Int32))) u2) ∧ (¬ r2 = (0 : Int32) → Q (some (.int (1 : Int32))) u2))))) ∧ (r1 = (0 : Int32) → Q (some (.int (-1000001 : Int32))) u1))))) : Go g iX11_canbe 0 [some (.ref (gd g 0)), some (.int x1)] [] u Q := by
  refine go_iload_n dX11_canbe_0 rfl rfl ?_
  refine go_cSi (As := [.int x1]) (st := []) (lc := [some (.int x1)]) dX11_canbe_1 me_X11_isPerson qm_X11_264 rfl (Nat.le_of_ble_eq_true rfl) rfl ⟨Nat.le_of_ble_eq_true rfl, Nat.le_of_ble_eq_true rfl⟩ rfl (Nat.le_of_ble_eq_true rfl) h (fun r1 u1 h => ?_)
  refine go_if_ne (tgt := 10) dX11_canbe_4 (by decide) (fun hc => ?_) (fun hc => ?_)
  · replace h := h.1 hc
    refine go_aload_n dX11_canbe_10 rfl rfl ?_
    refine go_get (k := 5) (v := .ref (gd g 6)) dX11_canbe_11 ob_0 (by decide) qf_X11_51 rfl ?_
    refine go_iload_n dX11_canbe_14 rfl rfl ?_
    refine go_cVi (o := 6) (As := [.int x1]) (st := []) (lc := [some (.ref (gd g 6)), some (.int x1), none, none, none]) dX11_canbe_15 me_X5_canBeTrue rfl ob_6 qm_X11_267 rfl (Nat.le_of_ble_eq_true rfl) rfl ⟨Nat.le_of_ble_eq_true rfl, Nat.le_of_ble_eq_true rfl⟩ rfl (Nat.le_of_ble_eq_true rfl) h (fun r2 u2 h => ?_)
    refine go_if_eq (tgt := 25) dX11_canbe_18 (by decide) (fun hc => ?_) (fun hc => ?_)
    · replace h := h.1 hc
      refine go_iconst (v := 0) dX11_canbe_25 (by decide) ?_
      exact go_iret dX11_canbe_26 rfl h
    · replace h := h.2 hc
      refine go_iconst (v := 1) dX11_canbe_21 (by decide) ?_
      refine go_goto (tgt := 26) dX11_canbe_22 (by decide) ?_
      exact go_iret dX11_canbe_26 rfl h
  · replace h := h.2 hc
    refine go_ldc dX11_canbe_7 qc_X11_100 ?_
    exact go_iret dX11_canbe_9 rfl h
set_option maxRecDepth 100000 in
set_option maxHeartbeats 4000000 in
theorem B_X11_lets_0 {g : gp} {u : sg} {Q : Option Value → sg → Prop} (x1 : Int32) (x2 : Int32) (x3 : Int32) (x4 : Int32) (h : Go g iX11_isPass 0 [some (.ref (gd g 0)), some (.int x1)] [] u (QI (fun r1 u1 => ((r1 = (0 : Int32) → Q (some (.int (-1000001 : Int32))) u1) ∧ (¬ r1 = (0 : Int32) → Go g iX11_isDay 0 [some (.int x2)] [] u1 (QI (fun r2 u2 => ((r2 = (0 : Int32) → Q (some (.int (-1000001 : Int32))) u2) ∧ (¬ r2 = (0 : Int32) → Go g iX11_isGate 0 [some (.int x3)] [] u2 (QI (fun r3 u3 => ((r3 = (0 : Int32) → Q (some (.int (-1000001 : Int32))) u3) ∧ (¬ r3 = (0 : Int32) → Go g iX11_isMinute 0 [some (.int x4)] [] u3 (QI (fun r4 u4 => ((¬ r4 = (0 : Int32) → Go g iX5_letsIn 0 [some (.ref (gd g 6)), some (.int x1), some (.int x2), some (.int x3), some (.int x4)] [] u4 (QI (fun r5 u5 => ((r5 = (0 : Int32) → Q (some (.int (0 : Int32))) u5) ∧ (¬ r5 = (0 : Int32) → Q (some (.int (1 : Int32))) u5))))) ∧ (r4 = (0 : Int32) → Q (some (.int (-1000001 : Int32))) u4))))))))))))))))) : Go g iX11_lets 0 [some (.ref (gd g 0)), some (.int x1), some (.int x2), some (.int x3), some (.int x4)] [] u Q := by
  refine go_aload_n dX11_lets_0 rfl rfl ?_
  refine go_iload_n dX11_lets_1 rfl rfl ?_
  refine go_cVi (o := 0) (As := [.int x1]) (st := []) (lc := [some (.ref (gd g 0)), some (.int x1)]) dX11_lets_2 me_X11_isPass rfl ob_0 qm_X11_270 rfl (Nat.le_of_ble_eq_true rfl) rfl ⟨Nat.le_of_ble_eq_true rfl, Nat.le_of_ble_eq_true rfl⟩ rfl (Nat.le_of_ble_eq_true rfl) h (fun r1 u1 h => ?_)
  refine go_if_eq (tgt := 30) dX11_lets_5 (by decide) (fun hc => ?_) (fun hc => ?_)
  · replace h := h.1 hc
    refine go_ldc dX11_lets_30 qc_X11_100 ?_
    exact go_iret dX11_lets_32 rfl h
  · replace h := h.2 hc
    refine go_iload_n dX11_lets_8 rfl rfl ?_
    refine go_cSi (As := [.int x2]) (st := []) (lc := [some (.int x2)]) dX11_lets_9 me_X11_isDay qm_X11_184 rfl (Nat.le_of_ble_eq_true rfl) rfl ⟨Nat.le_of_ble_eq_true rfl, Nat.le_of_ble_eq_true rfl⟩ rfl (Nat.le_of_ble_eq_true rfl) h (fun r2 u2 h => ?_)
    refine go_if_eq (tgt := 30) dX11_lets_12 (by decide) (fun hc => ?_) (fun hc => ?_)
    · replace h := h.1 hc
      refine go_ldc dX11_lets_30 qc_X11_100 ?_
      exact go_iret dX11_lets_32 rfl h
    · replace h := h.2 hc
      refine go_iload_n dX11_lets_15 rfl rfl ?_
      refine go_cSi (As := [.int x3]) (st := []) (lc := [some (.int x3)]) dX11_lets_16 me_X11_isGate qm_X11_135 rfl (Nat.le_of_ble_eq_true rfl) rfl ⟨Nat.le_of_ble_eq_true rfl, Nat.le_of_ble_eq_true rfl⟩ rfl (Nat.le_of_ble_eq_true rfl) h (fun r3 u3 h => ?_)
      refine go_if_eq (tgt := 30) dX11_lets_19 (by decide) (fun hc => ?_) (fun hc => ?_)
      · replace h := h.1 hc
        refine go_ldc dX11_lets_30 qc_X11_100 ?_
        exact go_iret dX11_lets_32 rfl h
      · replace h := h.2 hc
        refine go_iload dX11_lets_22 rfl ?_
        refine go_cSi (As := [.int x4]) (st := []) (lc := [some (.int x4)]) dX11_lets_24 me_X11_isMinute qm_X11_213 rfl (Nat.le_of_ble_eq_true rfl) rfl ⟨Nat.le_of_ble_eq_true rfl, Nat.le_of_ble_eq_true rfl⟩ rfl (Nat.le_of_ble_eq_true rfl) h (fun r4 u4 h => ?_)
        refine go_if_ne (tgt := 33) dX11_lets_27 (by decide) (fun hc => ?_) (fun hc => ?_)
        · replace h := h.1 hc
          refine go_aload_n dX11_lets_33 rfl rfl ?_
          refine go_get (k := 5) (v := .ref (gd g 6)) dX11_lets_34 ob_0 (by decide) qf_X11_51 rfl ?_
          refine go_iload_n dX11_lets_37 rfl rfl ?_
          refine go_iload_n dX11_lets_38 rfl rfl ?_
          refine go_iload_n dX11_lets_39 rfl rfl ?_
          refine go_iload dX11_lets_40 rfl ?_
          refine go_cVi (o := 6) (As := [.int x1, .int x2, .int x3, .int x4]) (st := []) (lc := [some (.ref (gd g 6)), some (.int x1), some (.int x2), some (.int x3), some (.int x4)]) dX11_lets_42 me_X5_letsIn rfl ob_6 qm_X11_273 rfl (Nat.le_of_ble_eq_true rfl) rfl ⟨Nat.le_of_ble_eq_true rfl, Nat.le_of_ble_eq_true rfl⟩ rfl (Nat.le_of_ble_eq_true rfl) h (fun r5 u5 h => ?_)
          refine go_if_eq (tgt := 52) dX11_lets_45 (by decide) (fun hc => ?_) (fun hc => ?_)
          · replace h := h.1 hc
            refine go_iconst (v := 0) dX11_lets_52 (by decide) ?_
            exact go_iret dX11_lets_53 rfl h
          · replace h := h.2 hc
            refine go_iconst (v := 1) dX11_lets_48 (by decide) ?_
            refine go_goto (tgt := 53) dX11_lets_49 (by decide) ?_
            exact go_iret dX11_lets_53 rfl h
        · replace h := h.2 hc
          refine go_ldc dX11_lets_30 qc_X11_100 ?_
          exact go_iret dX11_lets_32 rfl h
set_option maxRecDepth 100000 in
set_option maxHeartbeats 4000000 in
theorem B_X11_dusk_0 {g : gp} {u : sg} {Q : Option Value → sg → Prop} (x1 : Int32) (x2 : Int32) (x3 : Int32) (x4 : Int32) (h : Go g iX11_isPlace 0 [some (.int x1), some (.int x2)] [] u (QI (fun r1 u1 => ((r1 = (0 : Int32) → Q (some (.int (-1000001 : Int32))) u1) ∧ (¬ r1 = (0 : Int32) → Go g iX11_isMinute 0 [some (.int x3)] [] u1 (QI (fun r2 u2 => ((r2 = (0 : Int32) → Q (some (.int (-1000001 : Int32))) u2) ∧ (¬ r2 = (0 : Int32) → Go g iX11_within 0 [some (.int x4), some (.int 1), some (.int 60)] [] u2 (QI (fun r3 u3 => ((¬ r3 = (0 : Int32) → Go g iX4_firstIn 0 [some (.ref (gd g 5)), some (.int x1), some (.int x2), some (.int x3), some (.int x4), none, none, none, none, none] [] u3 (QI (fun r4 u4 => Q (some (.int r4)) u4))) ∧ (r3 = (0 : Int32) → Q (some (.int (-1000001 : Int32))) u3))))))))))))) : Go g iX11_dusk 0 [some (.ref (gd g 0)), some (.int x1), some (.int x2), some (.int x3), some (.int x4)] [] u Q := by
  refine go_iload_n dX11_dusk_0 rfl rfl ?_
  refine go_iload_n dX11_dusk_1 rfl rfl ?_
  refine go_cSi (As := [.int x1, .int x2]) (st := []) (lc := [some (.int x1), some (.int x2)]) dX11_dusk_2 me_X11_isPlace qm_X11_148 rfl (Nat.le_of_ble_eq_true rfl) rfl ⟨Nat.le_of_ble_eq_true rfl, Nat.le_of_ble_eq_true rfl⟩ rfl (Nat.le_of_ble_eq_true rfl) h (fun r1 u1 h => ?_)
  refine go_if_eq (tgt := 26) dX11_dusk_5 (by decide) (fun hc => ?_) (fun hc => ?_)
  · replace h := h.1 hc
    refine go_ldc dX11_dusk_26 qc_X11_100 ?_
    exact go_iret dX11_dusk_28 rfl h
  · replace h := h.2 hc
    refine go_iload_n dX11_dusk_8 rfl rfl ?_
    refine go_cSi (As := [.int x3]) (st := []) (lc := [some (.int x3)]) dX11_dusk_9 me_X11_isMinute qm_X11_213 rfl (Nat.le_of_ble_eq_true rfl) rfl ⟨Nat.le_of_ble_eq_true rfl, Nat.le_of_ble_eq_true rfl⟩ rfl (Nat.le_of_ble_eq_true rfl) h (fun r2 u2 h => ?_)
    refine go_if_eq (tgt := 26) dX11_dusk_12 (by decide) (fun hc => ?_) (fun hc => ?_)
    · replace h := h.1 hc
      refine go_ldc dX11_dusk_26 qc_X11_100 ?_
      exact go_iret dX11_dusk_28 rfl h
    · replace h := h.2 hc
      refine go_iload dX11_dusk_15 rfl ?_
      refine go_iconst (v := 1) dX11_dusk_17 (by decide) ?_
      refine go_bipush (v := 60) dX11_dusk_18 (by decide) ?_
      refine go_cSi (As := [.int x4, .int 1, .int 60]) (st := []) (lc := [some (.int x4), some (.int 1), some (.int 60)]) dX11_dusk_20 me_X11_within qm_X11_96 rfl (Nat.le_of_ble_eq_true rfl) rfl ⟨Nat.le_of_ble_eq_true rfl, Nat.le_of_ble_eq_true rfl⟩ rfl (Nat.le_of_ble_eq_true rfl) h (fun r3 u3 h => ?_)
      refine go_if_ne (tgt := 29) dX11_dusk_23 (by decide) (fun hc => ?_) (fun hc => ?_)
      · replace h := h.1 hc
        refine go_aload_n dX11_dusk_29 rfl rfl ?_
        refine go_get (k := 1) (v := .ref (gd g 5)) dX11_dusk_30 ob_0 (by decide) qf_X11_19 rfl ?_
        refine go_iload_n dX11_dusk_33 rfl rfl ?_
        refine go_iload_n dX11_dusk_34 rfl rfl ?_
        refine go_iload_n dX11_dusk_35 rfl rfl ?_
        refine go_iload dX11_dusk_36 rfl ?_
        refine go_cVi (o := 5) (As := [.int x1, .int x2, .int x3, .int x4]) (st := []) (lc := [some (.ref (gd g 5)), some (.int x1), some (.int x2), some (.int x3), some (.int x4), none, none, none, none, none]) dX11_dusk_38 me_X4_firstIn rfl ob_5 qm_X11_277 rfl (Nat.le_of_ble_eq_true rfl) rfl ⟨Nat.le_of_ble_eq_true rfl, Nat.le_of_ble_eq_true rfl⟩ rfl (Nat.le_of_ble_eq_true rfl) h (fun r4 u4 h => ?_)
        exact go_iret dX11_dusk_41 rfl h
      · replace h := h.2 hc
        refine go_ldc dX11_dusk_26 qc_X11_100 ?_
        exact go_iret dX11_dusk_28 rfl h
set_option maxRecDepth 100000 in
set_option maxHeartbeats 4000000 in
theorem B_X11_clerks_0 {g : gp} {u : sg} {Q : Option Value → sg → Prop} (x1 : Int32) (x2 : Int32) (x3 : Int32) (x4 : Int32) (x5 : Int32) (x6 : Int32) (h : Go g iX11_isSheet 0 [some (.int x1)] [] u (QI (fun r1 u1 => ((r1 = (0 : Int32) → Q (some (.int (-1000001 : Int32))) u1) ∧ (¬ r1 = (0 : Int32) → Go g iX11_within 0 [some (.int x3), some (.int 1), some (.int 20)] [] u1 (QI (fun r2 u2 => ((r2 = (0 : Int32) → Q (some (.int (-1000001 : Int32))) u2) ∧ (¬ r2 = (0 : Int32) → Go g iX11_within 0 [some (.int x4), some (.int 1), some (.int 60)] [] u2 (QI (fun r3 u3 => ((¬ r3 = (0 : Int32) → Go g iX11_within 0 [some (.int x5), some (.int 1), some (.int 8)] [] u3 (QI (fun r4 u4 => ((r4 = (0 : Int32) → Q (some (.int (-1000001 : Int32))) u4) ∧ (¬ r4 = (0 : Int32) → Go g iX11_within 0 [some (.int x6), some (.int 0), some (.int 4)] [] u4 (QI (fun r5 u5 => ((¬ r5 = (0 : Int32) → Go g iX11_flawOf 0 [some (.ref (gd g 0)), some (.int x1), some (.int x2), some (.int (2 * x3))] [] u5 (QI (fun r6 u6 => ((r6 = (0 : Int32) → Go g iX6_clear 0 [some (.ref (gd g 7))] [] u6 (QV (fun u7 => Go g iX11_clerks 88 [some (.ref (gd g 0)), some (.int x1), some (.int x2), some (.int x3), some (.int x4), some (.int x5), some (.int x6), none, some (.int 0), none, none] [] u7 Q))) ∧ (¬ r6 = (0 : Int32) → Go g iX11_found 0 [some (.ref (gd g 0)), some (.int r6)] [] u6 (QI (fun r8 u8 => Q (some (.int r8)) u8))))))) ∧ (r5 = (0 : Int32) → Q (some (.int (-1000001 : Int32))) u5))))))))) ∧ (r3 = (0 : Int32) → Q (some (.int (-1000001 : Int32))) u3))))))))))))) : Go g iX11_clerks 0 [some (.ref (gd g 0)), some (.int x1), some (.int x2), some (.int x3), some (.int x4), some (.int x5), some (.int x6), none, none, none, none] [] u Q := by
  refine go_iload_n dX11_clerks_0 rfl rfl ?_
  refine go_cSi (As := [.int x1]) (st := []) (lc := [some (.int x1)]) dX11_clerks_1 me_X11_isSheet qm_X11_92 rfl (Nat.le_of_ble_eq_true rfl) rfl ⟨Nat.le_of_ble_eq_true rfl, Nat.le_of_ble_eq_true rfl⟩ rfl (Nat.le_of_ble_eq_true rfl) h (fun r1 u1 h => ?_)
  refine go_if_eq (tgt := 28) dX11_clerks_4 (by decide) (fun hc => ?_) (fun hc => ?_)
  · replace h := h.1 hc
    refine go_ldc dX11_clerks_28 qc_X11_100 ?_
    exact go_iret dX11_clerks_30 rfl h
  · replace h := h.2 hc
    refine go_iload_n dX11_clerks_7 rfl rfl ?_
    refine go_iconst (v := 1) dX11_clerks_8 (by decide) ?_
    refine go_bipush (v := 20) dX11_clerks_9 (by decide) ?_
    refine go_cSi (As := [.int x3, .int 1, .int 20]) (st := []) (lc := [some (.int x3), some (.int 1), some (.int 20)]) dX11_clerks_11 me_X11_within qm_X11_96 rfl (Nat.le_of_ble_eq_true rfl) rfl ⟨Nat.le_of_ble_eq_true rfl, Nat.le_of_ble_eq_true rfl⟩ rfl (Nat.le_of_ble_eq_true rfl) h (fun r2 u2 h => ?_)
    refine go_if_eq (tgt := 28) dX11_clerks_14 (by decide) (fun hc => ?_) (fun hc => ?_)
    · replace h := h.1 hc
      refine go_ldc dX11_clerks_28 qc_X11_100 ?_
      exact go_iret dX11_clerks_30 rfl h
    · replace h := h.2 hc
      refine go_iload dX11_clerks_17 rfl ?_
      refine go_iconst (v := 1) dX11_clerks_19 (by decide) ?_
      refine go_bipush (v := 60) dX11_clerks_20 (by decide) ?_
      refine go_cSi (As := [.int x4, .int 1, .int 60]) (st := []) (lc := [some (.int x4), some (.int 1), some (.int 60)]) dX11_clerks_22 me_X11_within qm_X11_96 rfl (Nat.le_of_ble_eq_true rfl) rfl ⟨Nat.le_of_ble_eq_true rfl, Nat.le_of_ble_eq_true rfl⟩ rfl (Nat.le_of_ble_eq_true rfl) h (fun r3 u3 h => ?_)
      refine go_if_ne (tgt := 31) dX11_clerks_25 (by decide) (fun hc => ?_) (fun hc => ?_)
      · replace h := h.1 hc
        refine go_iload dX11_clerks_31 rfl ?_
        refine go_iconst (v := 1) dX11_clerks_33 (by decide) ?_
        refine go_bipush (v := 8) dX11_clerks_34 (by decide) ?_
        refine go_cSi (As := [.int x5, .int 1, .int 8]) (st := []) (lc := [some (.int x5), some (.int 1), some (.int 8)]) dX11_clerks_36 me_X11_within qm_X11_96 rfl (Nat.le_of_ble_eq_true rfl) rfl ⟨Nat.le_of_ble_eq_true rfl, Nat.le_of_ble_eq_true rfl⟩ rfl (Nat.le_of_ble_eq_true rfl) h (fun r4 u4 h => ?_)
        refine go_if_eq (tgt := 52) dX11_clerks_39 (by decide) (fun hc => ?_) (fun hc => ?_)
        · replace h := h.1 hc
          refine go_ldc dX11_clerks_52 qc_X11_100 ?_
          exact go_iret dX11_clerks_54 rfl h
        · replace h := h.2 hc
          refine go_iload dX11_clerks_42 rfl ?_
          refine go_iconst (v := 0) dX11_clerks_44 (by decide) ?_
          refine go_iconst (v := 4) dX11_clerks_45 (by decide) ?_
          refine go_cSi (As := [.int x6, .int 0, .int 4]) (st := []) (lc := [some (.int x6), some (.int 0), some (.int 4)]) dX11_clerks_46 me_X11_within qm_X11_96 rfl (Nat.le_of_ble_eq_true rfl) rfl ⟨Nat.le_of_ble_eq_true rfl, Nat.le_of_ble_eq_true rfl⟩ rfl (Nat.le_of_ble_eq_true rfl) h (fun r5 u5 h => ?_)
          refine go_if_ne (tgt := 55) dX11_clerks_49 (by decide) (fun hc => ?_) (fun hc => ?_)
          · replace h := h.1 hc
            refine go_aload_n dX11_clerks_55 rfl rfl ?_
            refine go_iload_n dX11_clerks_56 rfl rfl ?_
            refine go_iload_n dX11_clerks_57 rfl rfl ?_
            refine go_iconst (v := 2) dX11_clerks_58 (by decide) ?_
            refine go_iload_n dX11_clerks_59 rfl rfl ?_
            refine go_imul dX11_clerks_60 ?_
            refine go_cVi (o := 0) (As := [.int x1, .int x2, .int (2 * x3)]) (st := []) (lc := [some (.ref (gd g 0)), some (.int x1), some (.int x2), some (.int (2 * x3))]) dX11_clerks_61 me_X11_flawOf rfl ob_0 qm_X11_112 rfl (Nat.le_of_ble_eq_true rfl) rfl ⟨Nat.le_of_ble_eq_true rfl, Nat.le_of_ble_eq_true rfl⟩ rfl (Nat.le_of_ble_eq_true rfl) h (fun r6 u6 h => ?_)
            refine go_istore (lm := [some (.ref (gd g 0)), some (.int x1), some (.int x2), some (.int x3), some (.int x4), some (.int x5), some (.int x6), some (.int r6), none, none, none]) dX11_clerks_64 (by decide) rfl rfl ?_
            refine go_iload dX11_clerks_66 rfl ?_
            refine go_if_eq (tgt := 78) dX11_clerks_68 (by decide) (fun hc => ?_) (fun hc => ?_)
            · replace h := h.1 hc
              refine go_aload_n dX11_clerks_78 rfl rfl ?_
              refine go_get (k := 7) (v := .ref (gd g 7)) dX11_clerks_79 ob_0 (by decide) qf_X11_67 rfl ?_
              refine go_cVv (o := 7) (As := []) (st := []) (lc := [some (.ref (gd g 7))]) dX11_clerks_82 me_X6_clear rfl ob_7 qm_X11_281 rfl (Nat.le_of_ble_eq_true rfl) rfl ⟨Nat.le_of_ble_eq_true rfl, Nat.le_of_ble_eq_true rfl⟩ rfl (Nat.le_of_ble_eq_true rfl) h (fun u7 h => ?_)
              refine go_iconst (v := 0) dX11_clerks_85 (by decide) ?_
              refine go_istore (lm := [some (.ref (gd g 0)), some (.int x1), some (.int x2), some (.int x3), some (.int x4), some (.int x5), some (.int x6), some (.int r6), some (.int 0), none, none]) dX11_clerks_86 (by decide) rfl rfl ?_
              refine go_mask [true, true, true, true, true, true, true, false, true, true, true] rfl ?_
              exact h
            · replace h := h.2 hc
              refine go_aload_n dX11_clerks_71 rfl rfl ?_
              refine go_iload dX11_clerks_72 rfl ?_
              refine go_cVi (o := 0) (As := [.int r6]) (st := []) (lc := [some (.ref (gd g 0)), some (.int r6)]) dX11_clerks_74 me_X11_found rfl ob_0 qm_X11_101 rfl (Nat.le_of_ble_eq_true rfl) rfl ⟨Nat.le_of_ble_eq_true rfl, Nat.le_of_ble_eq_true rfl⟩ rfl (Nat.le_of_ble_eq_true rfl) h (fun r8 u8 h => ?_)
              exact go_iret dX11_clerks_77 rfl h
          · replace h := h.2 hc
            refine go_ldc dX11_clerks_52 qc_X11_100 ?_
            exact go_iret dX11_clerks_54 rfl h
      · replace h := h.2 hc
        refine go_ldc dX11_clerks_28 qc_X11_100 ?_
        exact go_iret dX11_clerks_30 rfl h
set_option maxRecDepth 100000 in
set_option maxHeartbeats 4000000 in
theorem B_X11_clerks_88 {g : gp} {u : sg} {Q : Option Value → sg → Prop} (x1 : Int32) (x2 : Int32) (x3 : Int32) (x4 : Int32) (x5 : Int32) (x6 : Int32) (x8 : Int32) (h : ((x3 ≤ x8 → Go g iX6_shareOut 0 [some (.ref (gd g 7)), some (.int x4), some (.int x5), none, none, none] [] u (QI (fun r1 u1 => ((¬ r1 = (0 : Int32) → ((¬ x6 = (0 : Int32) → (vp_in (x6 - 1) 4 ∧ Go g iX11_fine 0 [some (.ref (gd g 0)), some (.int (u1.2 39 (x6 - 1).toNatClampNeg))] [] u1 (QI (fun r2 u2 => Q (some (.int r2)) u2)))) ∧ (x6 = (0 : Int32) → Go g iX11_fine 0 [some (.ref (gd g 0)), some (.int (u1.1 7 6))] [] u1 (QI (fun r3 u3 => Q (some (.int r3)) u3))))) ∧ (r1 = (0 : Int32) → Go g iX11_fine 0 [some (.ref (gd g 0)), some (.int ((-1000000)))] [] u1 (QI (fun r4 u4 => Q (some (.int r4)) u4))))))) ∧ (¬ x3 ≤ x8 → Go g iX8_itemAt 0 [some (.ref (gd g 9)), some (.int x1), some (.int (x2 + (2 * x8)))] [] u (QI (fun r5 u5 => Go g iX8_itemAt 0 [some (.ref (gd g 9)), some (.int x1), some (.int ((x2 + (2 * x8)) + 1))] [] u5 (QI (fun r6 u6 => Go g iX11_within 0 [some (.int r5), some (.int 0), some (.int 3)] [] u6 (QI (fun r7 u7 => ((r7 = (0 : Int32) → Q (some (.int (-1000001 : Int32))) u7) ∧ (¬ r7 = (0 : Int32) → Go g iX11_isMinute 0 [some (.int r6)] [] u7 (QI (fun r8 u8 => ((¬ r8 = (0 : Int32) → Go g iX6_comes 0 [some (.ref (gd g 7)), some (.int r5), some (.int r6), none] [] u8 (QV (fun u9 => Go g iX11_clerks 88 [some (.ref (gd g 0)), some (.int x1), some (.int x2), some (.int x3), some (.int x4), some (.int x5), some (.int x6), none, some (.int (x8 + 1)), none, none] [] u9 Q))) ∧ (r8 = (0 : Int32) → Q (some (.int (-1000001 : Int32))) u8))))))))))))))) : Go g iX11_clerks 88 [some (.ref (gd g 0)), some (.int x1), some (.int x2), some (.int x3), some (.int x4), some (.int x5), some (.int x6), none, some (.int x8), none, none] [] u Q := by
  refine go_iload dX11_clerks_88 rfl ?_
  refine go_iload_n dX11_clerks_90 rfl rfl ?_
  refine go_icmp_ge (tgt := 166) dX11_clerks_91 (by decide) (fun hc => ?_) (fun hc => ?_)
  · replace h := h.1 hc
    refine go_aload_n dX11_clerks_166 rfl rfl ?_
    refine go_get (k := 7) (v := .ref (gd g 7)) dX11_clerks_167 ob_0 (by decide) qf_X11_67 rfl ?_
    refine go_iload dX11_clerks_170 rfl ?_
    refine go_iload dX11_clerks_172 rfl ?_
    refine go_cVi (o := 7) (As := [.int x4, .int x5]) (st := []) (lc := [some (.ref (gd g 7)), some (.int x4), some (.int x5), none, none, none]) dX11_clerks_174 me_X6_shareOut rfl ob_7 qm_X11_288 rfl (Nat.le_of_ble_eq_true rfl) rfl ⟨Nat.le_of_ble_eq_true rfl, Nat.le_of_ble_eq_true rfl⟩ rfl (Nat.le_of_ble_eq_true rfl) h (fun r1 u1 h => ?_)
    refine go_if_ne (tgt := 187) dX11_clerks_177 (by decide) (fun hc => ?_) (fun hc => ?_)
    · replace h := h.1 hc
      refine go_aload_n dX11_clerks_187 rfl rfl ?_
      refine go_iload dX11_clerks_188 rfl ?_
      refine go_if_ne (tgt := 203) dX11_clerks_190 (by decide) (fun hc => ?_) (fun hc => ?_)
      · replace h := h.1 hc
        refine go_aload_n dX11_clerks_203 rfl rfl ?_
        refine go_get (k := 7) (v := .ref (gd g 7)) dX11_clerks_204 ob_0 (by decide) qf_X11_67 rfl ?_
        refine go_get (k := 5) (v := .ref (gd g 39)) dX11_clerks_207 ob_7 (by decide) qf_X11_294 rfl ?_
        refine go_iload dX11_clerks_210 rfl ?_
        refine go_iconst (v := 1) dX11_clerks_212 (by decide) ?_
        refine go_isub dX11_clerks_213 ?_
        obtain ⟨hi, h⟩ := h
        refine go_ild (a := 39) (n := 4) dX11_clerks_214 (by decide) (by decide) rfl hi ?_
        refine go_cVi (o := 0) (As := [.int (u1.2 39 (x6 - 1).toNatClampNeg)]) (st := []) (lc := [some (.ref (gd g 0)), some (.int (u1.2 39 (x6 - 1).toNatClampNeg))]) dX11_clerks_215 me_X11_fine rfl ob_0 qm_X11_109 rfl (Nat.le_of_ble_eq_true rfl) rfl ⟨Nat.le_of_ble_eq_true rfl, Nat.le_of_ble_eq_true rfl⟩ rfl (Nat.le_of_ble_eq_true rfl) h (fun r2 u2 h => ?_)
        exact go_iret dX11_clerks_218 rfl h
      · replace h := h.2 hc
        refine go_aload_n dX11_clerks_193 rfl rfl ?_
        refine go_get (k := 7) (v := .ref (gd g 7)) dX11_clerks_194 ob_0 (by decide) qf_X11_67 rfl ?_
        refine go_get (k := 6) (v := .int (u1.1 7 6)) dX11_clerks_197 ob_7 (by decide) qf_X11_291 rfl ?_
        refine go_goto (tgt := 215) dX11_clerks_200 (by decide) ?_
        refine go_cVi (o := 0) (As := [.int (u1.1 7 6)]) (st := []) (lc := [some (.ref (gd g 0)), some (.int (u1.1 7 6))]) dX11_clerks_215 me_X11_fine rfl ob_0 qm_X11_109 rfl (Nat.le_of_ble_eq_true rfl) rfl ⟨Nat.le_of_ble_eq_true rfl, Nat.le_of_ble_eq_true rfl⟩ rfl (Nat.le_of_ble_eq_true rfl) h (fun r3 u3 h => ?_)
        exact go_iret dX11_clerks_218 rfl h
    · replace h := h.2 hc
      refine go_aload_n dX11_clerks_180 rfl rfl ?_
      refine go_ldc dX11_clerks_181 qc_X11_206 ?_
      refine go_cVi (o := 0) (As := [.int ((-1000000))]) (st := []) (lc := [some (.ref (gd g 0)), some (.int ((-1000000)))]) dX11_clerks_183 me_X11_fine rfl ob_0 qm_X11_109 rfl (Nat.le_of_ble_eq_true rfl) rfl ⟨Nat.le_of_ble_eq_true rfl, Nat.le_of_ble_eq_true rfl⟩ rfl (Nat.le_of_ble_eq_true rfl) h (fun r4 u4 h => ?_)
      exact go_iret dX11_clerks_186 rfl h
  · replace h := h.2 hc
    refine go_aload_n dX11_clerks_94 rfl rfl ?_
    refine go_get (k := 0) (v := .ref (gd g 9)) dX11_clerks_95 ob_0 (by decide) qf_X11_10 rfl ?_
    refine go_iload_n dX11_clerks_98 rfl rfl ?_
    refine go_iload_n dX11_clerks_99 rfl rfl ?_
    refine go_iconst (v := 2) dX11_clerks_100 (by decide) ?_
    refine go_iload dX11_clerks_101 rfl ?_
    refine go_imul dX11_clerks_103 ?_
    refine go_iadd dX11_clerks_104 ?_
    refine go_cVi (o := 9) (As := [.int x1, .int (x2 + (2 * x8))]) (st := []) (lc := [some (.ref (gd g 9)), some (.int x1), some (.int (x2 + (2 * x8)))]) dX11_clerks_105 me_X8_itemAt rfl ob_9 qm_X11_196 rfl (Nat.le_of_ble_eq_true rfl) rfl ⟨Nat.le_of_ble_eq_true rfl, Nat.le_of_ble_eq_true rfl⟩ rfl (Nat.le_of_ble_eq_true rfl) h (fun r5 u5 h => ?_)
    refine go_istore (lm := [some (.ref (gd g 0)), some (.int x1), some (.int x2), some (.int x3), some (.int x4), some (.int x5), some (.int x6), none, some (.int x8), some (.int r5), none]) dX11_clerks_108 (by decide) rfl rfl ?_
    refine go_aload_n dX11_clerks_110 rfl rfl ?_
    refine go_get (k := 0) (v := .ref (gd g 9)) dX11_clerks_111 ob_0 (by decide) qf_X11_10 rfl ?_
    refine go_iload_n dX11_clerks_114 rfl rfl ?_
    refine go_iload_n dX11_clerks_115 rfl rfl ?_
    refine go_iconst (v := 2) dX11_clerks_116 (by decide) ?_
    refine go_iload dX11_clerks_117 rfl ?_
    refine go_imul dX11_clerks_119 ?_
    refine go_iadd dX11_clerks_120 ?_
    refine go_iconst (v := 1) dX11_clerks_121 (by decide) ?_
    refine go_iadd dX11_clerks_122 ?_
    refine go_cVi (o := 9) (As := [.int x1, .int ((x2 + (2 * x8)) + 1)]) (st := []) (lc := [some (.ref (gd g 9)), some (.int x1), some (.int ((x2 + (2 * x8)) + 1))]) dX11_clerks_123 me_X8_itemAt rfl ob_9 qm_X11_196 rfl (Nat.le_of_ble_eq_true rfl) rfl ⟨Nat.le_of_ble_eq_true rfl, Nat.le_of_ble_eq_true rfl⟩ rfl (Nat.le_of_ble_eq_true rfl) h (fun r6 u6 h => ?_)
    refine go_istore (lm := [some (.ref (gd g 0)), some (.int x1), some (.int x2), some (.int x3), some (.int x4), some (.int x5), some (.int x6), none, some (.int x8), some (.int r5), some (.int r6)]) dX11_clerks_126 (by decide) rfl rfl ?_
    refine go_iload dX11_clerks_128 rfl ?_
    refine go_iconst (v := 0) dX11_clerks_130 (by decide) ?_
    refine go_iconst (v := 3) dX11_clerks_131 (by decide) ?_
    refine go_cSi (As := [.int r5, .int 0, .int 3]) (st := []) (lc := [some (.int r5), some (.int 0), some (.int 3)]) dX11_clerks_132 me_X11_within qm_X11_96 rfl (Nat.le_of_ble_eq_true rfl) rfl ⟨Nat.le_of_ble_eq_true rfl, Nat.le_of_ble_eq_true rfl⟩ rfl (Nat.le_of_ble_eq_true rfl) h (fun r7 u7 h => ?_)
    refine go_if_eq (tgt := 146) dX11_clerks_135 (by decide) (fun hc => ?_) (fun hc => ?_)
    · replace h := h.1 hc
      refine go_ldc dX11_clerks_146 qc_X11_100 ?_
      exact go_iret dX11_clerks_148 rfl h
    · replace h := h.2 hc
      refine go_iload dX11_clerks_138 rfl ?_
      refine go_cSi (As := [.int r6]) (st := []) (lc := [some (.int r6)]) dX11_clerks_140 me_X11_isMinute qm_X11_213 rfl (Nat.le_of_ble_eq_true rfl) rfl ⟨Nat.le_of_ble_eq_true rfl, Nat.le_of_ble_eq_true rfl⟩ rfl (Nat.le_of_ble_eq_true rfl) h (fun r8 u8 h => ?_)
      refine go_if_ne (tgt := 149) dX11_clerks_143 (by decide) (fun hc => ?_) (fun hc => ?_)
      · replace h := h.1 hc
        refine go_aload_n dX11_clerks_149 rfl rfl ?_
        refine go_get (k := 7) (v := .ref (gd g 7)) dX11_clerks_150 ob_0 (by decide) qf_X11_67 rfl ?_
        refine go_iload dX11_clerks_153 rfl ?_
        refine go_iload dX11_clerks_155 rfl ?_
        refine go_cVv (o := 7) (As := [.int r5, .int r6]) (st := []) (lc := [some (.ref (gd g 7)), some (.int r5), some (.int r6), none]) dX11_clerks_157 me_X6_comes rfl ob_7 qm_X11_284 rfl (Nat.le_of_ble_eq_true rfl) rfl ⟨Nat.le_of_ble_eq_true rfl, Nat.le_of_ble_eq_true rfl⟩ rfl (Nat.le_of_ble_eq_true rfl) h (fun u9 h => ?_)
        refine go_iinc (v := x8 + 1) (lm := [some (.ref (gd g 0)), some (.int x1), some (.int x2), some (.int x3), some (.int x4), some (.int x5), some (.int x6), none, some (.int (x8 + 1)), some (.int r5), some (.int r6)]) dX11_clerks_160 rfl rfl (by decide) rfl rfl ?_
        refine go_goto (tgt := 88) dX11_clerks_163 (by decide) ?_
        refine go_mask [true, true, true, true, true, true, true, true, true, false, false] rfl ?_
        exact h
      · replace h := h.2 hc
        refine go_ldc dX11_clerks_146 qc_X11_100 ?_
        exact go_iret dX11_clerks_148 rfl h
set_option maxRecDepth 100000 in
set_option maxHeartbeats 4000000 in
theorem B_X11_guest_0 {g : gp} {u : sg} {Q : Option Value → sg → Prop} (x1 : Int32) (x2 : Int32) (x3 : Int32) (x4 : Int32) (h : Go g iX11_isPerson 0 [some (.int x1)] [] u (QI (fun r1 u1 => ((r1 = (0 : Int32) → Q (some (.int (-1000001 : Int32))) u1) ∧ (¬ r1 = (0 : Int32) → Go g iX11_isHouse 0 [some (.int x2)] [] u1 (QI (fun r2 u2 => ((r2 = (0 : Int32) → Q (some (.int (-1000001 : Int32))) u2) ∧ (¬ r2 = (0 : Int32) → Go g iX11_areDays 0 [some (.int x3), some (.int x4)] [] u2 (QI (fun r3 u3 => ((¬ r3 = (0 : Int32) → (((u3.1 10 4) < (40 : Int32) → Go g iX9_addGuest 0 [some (.ref (gd g 10)), some (.int x1), some (.int x2), some (.int x3), some (.int x4)] [] u3 (QI (fun r4 u4 => Q (some (.int r4)) u4))) ∧ (¬ (u3.1 10 4) < (40 : Int32) → Q (some (.int (-1000003 : Int32))) u3))) ∧ (r3 = (0 : Int32) → Q (some (.int (-1000001 : Int32))) u3))))))))))))) : Go g iX11_guest 0 [some (.ref (gd g 0)), some (.int x1), some (.int x2), some (.int x3), some (.int x4)] [] u Q := by
  refine go_iload_n dX11_guest_0 rfl rfl ?_
  refine go_cSi (As := [.int x1]) (st := []) (lc := [some (.int x1)]) dX11_guest_1 me_X11_isPerson qm_X11_264 rfl (Nat.le_of_ble_eq_true rfl) rfl ⟨Nat.le_of_ble_eq_true rfl, Nat.le_of_ble_eq_true rfl⟩ rfl (Nat.le_of_ble_eq_true rfl) h (fun r1 u1 h => ?_)
  refine go_if_eq (tgt := 23) dX11_guest_4 (by decide) (fun hc => ?_) (fun hc => ?_)
  · replace h := h.1 hc
    refine go_ldc dX11_guest_23 qc_X11_100 ?_
    exact go_iret dX11_guest_25 rfl h
  · replace h := h.2 hc
    refine go_iload_n dX11_guest_7 rfl rfl ?_
    refine go_cSi (As := [.int x2]) (st := []) (lc := [some (.int x2)]) dX11_guest_8 me_X11_isHouse qm_X11_297 rfl (Nat.le_of_ble_eq_true rfl) rfl ⟨Nat.le_of_ble_eq_true rfl, Nat.le_of_ble_eq_true rfl⟩ rfl (Nat.le_of_ble_eq_true rfl) h (fun r2 u2 h => ?_)
    refine go_if_eq (tgt := 23) dX11_guest_11 (by decide) (fun hc => ?_) (fun hc => ?_)
    · replace h := h.1 hc
      refine go_ldc dX11_guest_23 qc_X11_100 ?_
      exact go_iret dX11_guest_25 rfl h
    · replace h := h.2 hc
      refine go_iload_n dX11_guest_14 rfl rfl ?_
      refine go_iload dX11_guest_15 rfl ?_
      refine go_cSi (As := [.int x3, .int x4]) (st := []) (lc := [some (.int x3), some (.int x4)]) dX11_guest_17 me_X11_areDays qm_X11_234 rfl (Nat.le_of_ble_eq_true rfl) rfl ⟨Nat.le_of_ble_eq_true rfl, Nat.le_of_ble_eq_true rfl⟩ rfl (Nat.le_of_ble_eq_true rfl) h (fun r3 u3 h => ?_)
      refine go_if_ne (tgt := 26) dX11_guest_20 (by decide) (fun hc => ?_) (fun hc => ?_)
      · replace h := h.1 hc
        refine go_aload_n dX11_guest_26 rfl rfl ?_
        refine go_get (k := 8) (v := .ref (gd g 10)) dX11_guest_27 ob_0 (by decide) qf_X11_74 rfl ?_
        refine go_get (k := 4) (v := .int (u3.1 10 4)) dX11_guest_30 ob_10 (by decide) qf_X11_300 rfl ?_
        refine go_bipush (v := 40) dX11_guest_33 (by decide) ?_
        refine go_icmp_lt (tgt := 41) dX11_guest_35 (by decide) (fun hc => ?_) (fun hc => ?_)
        · replace h := h.1 hc
          refine go_aload_n dX11_guest_41 rfl rfl ?_
          refine go_get (k := 8) (v := .ref (gd g 10)) dX11_guest_42 ob_0 (by decide) qf_X11_74 rfl ?_
          refine go_iload_n dX11_guest_45 rfl rfl ?_
          refine go_iload_n dX11_guest_46 rfl rfl ?_
          refine go_iload_n dX11_guest_47 rfl rfl ?_
          refine go_iload dX11_guest_48 rfl ?_
          refine go_cVi (o := 10) (As := [.int x1, .int x2, .int x3, .int x4]) (st := []) (lc := [some (.ref (gd g 10)), some (.int x1), some (.int x2), some (.int x3), some (.int x4)]) dX11_guest_50 me_X9_addGuest rfl ob_10 qm_X11_303 rfl (Nat.le_of_ble_eq_true rfl) rfl ⟨Nat.le_of_ble_eq_true rfl, Nat.le_of_ble_eq_true rfl⟩ rfl (Nat.le_of_ble_eq_true rfl) h (fun r4 u4 h => ?_)
          exact go_iret dX11_guest_53 rfl h
        · replace h := h.2 hc
          refine go_ldc dX11_guest_38 qc_X11_161 ?_
          exact go_iret dX11_guest_40 rfl h
      · replace h := h.2 hc
        refine go_ldc dX11_guest_23 qc_X11_100 ?_
        exact go_iret dX11_guest_25 rfl h
set_option maxRecDepth 100000 in
set_option maxHeartbeats 4000000 in
theorem B_X11_fell_0 {g : gp} {u : sg} {Q : Option Value → sg → Prop} (x1 : Int32) (x2 : Int32) (h : Go g iX11_isHouse 0 [some (.int x1)] [] u (QI (fun r1 u1 => ((r1 = (0 : Int32) → Q (some (.int (-1000001 : Int32))) u1) ∧ (¬ r1 = (0 : Int32) → Go g iX11_isDay 0 [some (.int x2)] [] u1 (QI (fun r2 u2 => ((¬ r2 = (0 : Int32) → Go g iX9_addCase 0 [some (.ref (gd g 10)), some (.int x1), some (.int x2)] [] u2 (QI (fun r3 u3 => ((r3 = (0 : Int32) → Q (some (.int (0 : Int32))) u3) ∧ (¬ r3 = (0 : Int32) → Q (some (.int (1 : Int32))) u3))))) ∧ (r2 = (0 : Int32) → Q (some (.int (-1000001 : Int32))) u2))))))))) : Go g iX11_fell 0 [some (.ref (gd g 0)), some (.int x1), some (.int x2)] [] u Q := by
  refine go_iload_n dX11_fell_0 rfl rfl ?_
  refine go_cSi (As := [.int x1]) (st := []) (lc := [some (.int x1)]) dX11_fell_1 me_X11_isHouse qm_X11_297 rfl (Nat.le_of_ble_eq_true rfl) rfl ⟨Nat.le_of_ble_eq_true rfl, Nat.le_of_ble_eq_true rfl⟩ rfl (Nat.le_of_ble_eq_true rfl) h (fun r1 u1 h => ?_)
  refine go_if_eq (tgt := 14) dX11_fell_4 (by decide) (fun hc => ?_) (fun hc => ?_)
  · replace h := h.1 hc
    refine go_ldc dX11_fell_14 qc_X11_100 ?_
    exact go_iret dX11_fell_16 rfl h
  · replace h := h.2 hc
    refine go_iload_n dX11_fell_7 rfl rfl ?_
    refine go_cSi (As := [.int x2]) (st := []) (lc := [some (.int x2)]) dX11_fell_8 me_X11_isDay qm_X11_184 rfl (Nat.le_of_ble_eq_true rfl) rfl ⟨Nat.le_of_ble_eq_true rfl, Nat.le_of_ble_eq_true rfl⟩ rfl (Nat.le_of_ble_eq_true rfl) h (fun r2 u2 h => ?_)
    refine go_if_ne (tgt := 17) dX11_fell_11 (by decide) (fun hc => ?_) (fun hc => ?_)
    · replace h := h.1 hc
      refine go_aload_n dX11_fell_17 rfl rfl ?_
      refine go_get (k := 8) (v := .ref (gd g 10)) dX11_fell_18 ob_0 (by decide) qf_X11_74 rfl ?_
      refine go_iload_n dX11_fell_21 rfl rfl ?_
      refine go_iload_n dX11_fell_22 rfl rfl ?_
      refine go_cVi (o := 10) (As := [.int x1, .int x2]) (st := []) (lc := [some (.ref (gd g 10)), some (.int x1), some (.int x2)]) dX11_fell_23 me_X9_addCase rfl ob_10 qm_X11_306 rfl (Nat.le_of_ble_eq_true rfl) rfl ⟨Nat.le_of_ble_eq_true rfl, Nat.le_of_ble_eq_true rfl⟩ rfl (Nat.le_of_ble_eq_true rfl) h (fun r3 u3 h => ?_)
      refine go_if_eq (tgt := 33) dX11_fell_26 (by decide) (fun hc => ?_) (fun hc => ?_)
      · replace h := h.1 hc
        refine go_iconst (v := 0) dX11_fell_33 (by decide) ?_
        exact go_iret dX11_fell_34 rfl h
      · replace h := h.2 hc
        refine go_iconst (v := 1) dX11_fell_29 (by decide) ?_
        refine go_goto (tgt := 34) dX11_fell_30 (by decide) ?_
        exact go_iret dX11_fell_34 rfl h
    · replace h := h.2 hc
      refine go_ldc dX11_fell_14 qc_X11_100 ?_
      exact go_iret dX11_fell_16 rfl h
set_option maxRecDepth 100000 in
set_option maxHeartbeats 4000000 in
theorem B_X11_brought_0 {g : gp} {u : sg} {Q : Option Value → sg → Prop} (x1 : Int32) (h : Go g iX11_within 0 [some (.int x1), some (.int 0), some (.int 2)] [] u (QI (fun r1 u1 => ((¬ r1 = (0 : Int32) → Go g iX9_tellWhoMay 0 [some (.ref (gd g 10)), some (.ref (gd g 23)), none, none] [] u1 (QV (fun u2 => ((¬ x1 = (2 : Int32) → Go g iX9_housesWithCases 0 [some (.ref (gd g 10)), none, none] [] u2 (QI (fun r3 u3 => Go g iX3_search 0 [some (.ref (gd g 4)), some (.int 12), some (.int r3), none, none, none] [] u3 (QV (fun u4 => ((¬ x1 = (0 : Int32) → Q (some (.int (u4.1 4 2))) u4) ∧ (x1 = (0 : Int32) → Q (some (.int (u4.1 4 1))) u4))))))) ∧ (x1 = (2 : Int32) → Go g iX3_anyUse 0 [some (.ref (gd g 4)), some (.int 12), none, none] [] u2 (QI (fun r5 u5 => Q (some (.int r5)) u5))))))) ∧ (r1 = (0 : Int32) → Q (some (.int (-1000001 : Int32))) u1))))) : Go g iX11_brought 0 [some (.ref (gd g 0)), some (.int x1)] [] u Q := by
  refine go_iload_n dX11_brought_0 rfl rfl ?_
  refine go_iconst (v := 0) dX11_brought_1 (by decide) ?_
  refine go_iconst (v := 2) dX11_brought_2 (by decide) ?_
  refine go_cSi (As := [.int x1, .int 0, .int 2]) (st := []) (lc := [some (.int x1), some (.int 0), some (.int 2)]) dX11_brought_3 me_X11_within qm_X11_96 rfl (Nat.le_of_ble_eq_true rfl) rfl ⟨Nat.le_of_ble_eq_true rfl, Nat.le_of_ble_eq_true rfl⟩ rfl (Nat.le_of_ble_eq_true rfl) h (fun r1 u1 h => ?_)
  refine go_if_ne (tgt := 12) dX11_brought_6 (by decide) (fun hc => ?_) (fun hc => ?_)
  · replace h := h.1 hc
    refine go_aload_n dX11_brought_12 rfl rfl ?_
    refine go_get (k := 8) (v := .ref (gd g 10)) dX11_brought_13 ob_0 (by decide) qf_X11_74 rfl ?_
    refine go_aload_n dX11_brought_16 rfl rfl ?_
    refine go_get (k := 10) (v := .ref (gd g 4)) dX11_brought_17 ob_0 (by decide) qf_X11_88 rfl ?_
    refine go_get (k := 0) (v := .ref (gd g 23)) dX11_brought_20 ob_4 (by decide) qf_X11_309 rfl ?_
    refine go_cVv (o := 10) (As := [.ref (gd g 23)]) (st := []) (lc := [some (.ref (gd g 10)), some (.ref (gd g 23)), none, none]) dX11_brought_23 me_X9_tellWhoMay rfl ob_10 qm_X11_312 rfl (Nat.le_of_ble_eq_true rfl) rfl ⟨Nat.le_of_ble_eq_true rfl, Nat.le_of_ble_eq_true rfl⟩ rfl (Nat.le_of_ble_eq_true rfl) h (fun u2 h => ?_)
    refine go_iload_n dX11_brought_26 rfl rfl ?_
    refine go_iconst (v := 2) dX11_brought_27 (by decide) ?_
    refine go_icmp_ne (tgt := 41) dX11_brought_28 (by decide) (fun hc => ?_) (fun hc => ?_)
    · replace h := h.1 hc
      refine go_aload_n dX11_brought_41 rfl rfl ?_
      refine go_get (k := 10) (v := .ref (gd g 4)) dX11_brought_42 ob_0 (by decide) qf_X11_88 rfl ?_
      refine go_bipush (v := 12) dX11_brought_45 (by decide) ?_
      refine go_aload_n dX11_brought_47 rfl rfl ?_
      refine go_get (k := 8) (v := .ref (gd g 10)) dX11_brought_48 ob_0 (by decide) qf_X11_74 rfl ?_
      refine go_cVi (o := 10) (As := []) (st := [.int 12, .ref (gd g 4)]) (lc := [some (.ref (gd g 10)), none, none]) dX11_brought_51 me_X9_housesWithCases rfl ob_10 qm_X11_319 rfl (Nat.le_of_ble_eq_true rfl) rfl ⟨Nat.le_of_ble_eq_true rfl, Nat.le_of_ble_eq_true rfl⟩ rfl (Nat.le_of_ble_eq_true rfl) h (fun r3 u3 h => ?_)
      refine go_cVv (o := 4) (As := [.int 12, .int r3]) (st := []) (lc := [some (.ref (gd g 4)), some (.int 12), some (.int r3), none, none, none]) dX11_brought_54 me_X3_search rfl ob_4 qm_X11_322 rfl (Nat.le_of_ble_eq_true rfl) rfl ⟨Nat.le_of_ble_eq_true rfl, Nat.le_of_ble_eq_true rfl⟩ rfl (Nat.le_of_ble_eq_true rfl) h (fun u4 h => ?_)
      refine go_iload_n dX11_brought_57 rfl rfl ?_
      refine go_if_ne (tgt := 71) dX11_brought_58 (by decide) (fun hc => ?_) (fun hc => ?_)
      · replace h := h.1 hc
        refine go_aload_n dX11_brought_71 rfl rfl ?_
        refine go_get (k := 10) (v := .ref (gd g 4)) dX11_brought_72 ob_0 (by decide) qf_X11_88 rfl ?_
        refine go_get (k := 2) (v := .int (u4.1 4 2)) dX11_brought_75 ob_4 (by decide) qf_X11_328 rfl ?_
        exact go_iret dX11_brought_78 rfl h
      · replace h := h.2 hc
        refine go_aload_n dX11_brought_61 rfl rfl ?_
        refine go_get (k := 10) (v := .ref (gd g 4)) dX11_brought_62 ob_0 (by decide) qf_X11_88 rfl ?_
        refine go_get (k := 1) (v := .int (u4.1 4 1)) dX11_brought_65 ob_4 (by decide) qf_X11_325 rfl ?_
        refine go_goto (tgt := 78) dX11_brought_68 (by decide) ?_
        exact go_iret dX11_brought_78 rfl h
    · replace h := h.2 hc
      refine go_aload_n dX11_brought_31 rfl rfl ?_
      refine go_get (k := 10) (v := .ref (gd g 4)) dX11_brought_32 ob_0 (by decide) qf_X11_88 rfl ?_
      refine go_bipush (v := 12) dX11_brought_35 (by decide) ?_
      refine go_cVi (o := 4) (As := [.int 12]) (st := []) (lc := [some (.ref (gd g 4)), some (.int 12), none, none]) dX11_brought_37 me_X3_anyUse rfl ob_4 qm_X11_316 rfl (Nat.le_of_ble_eq_true rfl) rfl ⟨Nat.le_of_ble_eq_true rfl, Nat.le_of_ble_eq_true rfl⟩ rfl (Nat.le_of_ble_eq_true rfl) h (fun r5 u5 h => ?_)
      exact go_iret dX11_brought_40 rfl h
  · replace h := h.2 hc
    refine go_ldc dX11_brought_9 qc_X11_100 ?_
    exact go_iret dX11_brought_11 rfl h
set_option maxRecDepth 100000 in
set_option maxHeartbeats 4000000 in
theorem B_X11_high_0 {g : gp} {u : sg} {Q : Option Value → sg → Prop} (x1 : Int32) (x2 : Int32) (h : Go g iX11_isLength 0 [some (.int x1)] [] u (QI (fun r1 u1 => ((r1 = (0 : Int32) → Q (some (.int (-1000001 : Int32))) u1) ∧ (¬ r1 = (0 : Int32) → Go g iX11_within 0 [some (.int x2), some (.int 1), some (.int 99)] [] u1 (QI (fun r2 u2 => ((¬ r2 = (0 : Int32) → (vp_in x1 12 ∧ (vp_in x1 12 ∧ Q (some (.int (u2.2 49 x1.toNatClampNeg))) (sA u2 49 x1.toNatClampNeg x2)))) ∧ (r2 = (0 : Int32) → Q (some (.int (-1000001 : Int32))) u2))))))))) : Go g iX11_high 0 [some (.ref (gd g 0)), some (.int x1), some (.int x2), none] [] u Q := by
  refine go_iload_n dX11_high_0 rfl rfl ?_
  refine go_cSi (As := [.int x1]) (st := []) (lc := [some (.int x1)]) dX11_high_1 me_X11_isLength qm_X11_331 rfl (Nat.le_of_ble_eq_true rfl) rfl ⟨Nat.le_of_ble_eq_true rfl, Nat.le_of_ble_eq_true rfl⟩ rfl (Nat.le_of_ble_eq_true rfl) h (fun r1 u1 h => ?_)
  refine go_if_eq (tgt := 17) dX11_high_4 (by decide) (fun hc => ?_) (fun hc => ?_)
  · replace h := h.1 hc
    refine go_ldc dX11_high_17 qc_X11_100 ?_
    exact go_iret dX11_high_19 rfl h
  · replace h := h.2 hc
    refine go_iload_n dX11_high_7 rfl rfl ?_
    refine go_iconst (v := 1) dX11_high_8 (by decide) ?_
    refine go_bipush (v := 99) dX11_high_9 (by decide) ?_
    refine go_cSi (As := [.int x2, .int 1, .int 99]) (st := []) (lc := [some (.int x2), some (.int 1), some (.int 99)]) dX11_high_11 me_X11_within qm_X11_96 rfl (Nat.le_of_ble_eq_true rfl) rfl ⟨Nat.le_of_ble_eq_true rfl, Nat.le_of_ble_eq_true rfl⟩ rfl (Nat.le_of_ble_eq_true rfl) h (fun r2 u2 h => ?_)
    refine go_if_ne (tgt := 20) dX11_high_14 (by decide) (fun hc => ?_) (fun hc => ?_)
    · replace h := h.1 hc
      refine go_aload_n dX11_high_20 rfl rfl ?_
      refine go_get (k := 9) (v := .ref (gd g 11)) dX11_high_21 ob_0 (by decide) qf_X11_81 rfl ?_
      refine go_get (k := 0) (v := .ref (gd g 49)) dX11_high_24 ob_11 (by decide) qf_X11_334 rfl ?_
      refine go_iload_n dX11_high_27 rfl rfl ?_
      obtain ⟨hi, h⟩ := h
      refine go_ild (a := 49) (n := 12) dX11_high_28 (by decide) (by decide) rfl hi ?_
      refine go_istore_n (lm := [some (.ref (gd g 0)), some (.int x1), some (.int x2), some (.int (u2.2 49 x1.toNatClampNeg))]) dX11_high_29 rfl (by decide) rfl rfl ?_
      refine go_aload_n dX11_high_30 rfl rfl ?_
      refine go_get (k := 9) (v := .ref (gd g 11)) dX11_high_31 ob_0 (by decide) qf_X11_81 rfl ?_
      refine go_get (k := 0) (v := .ref (gd g 49)) dX11_high_34 ob_11 (by decide) qf_X11_334 rfl ?_
      refine go_iload_n dX11_high_37 rfl rfl ?_
      refine go_iload_n dX11_high_38 rfl rfl ?_
      obtain ⟨hi, h⟩ := h
      refine go_ist (a := 49) (n := 12) dX11_high_39 (by decide) (by decide) rfl hi ?_
      refine go_iload_n dX11_high_40 rfl rfl ?_
      exact go_iret dX11_high_41 rfl h
    · replace h := h.2 hc
      refine go_ldc dX11_high_17 qc_X11_100 ?_
      exact go_iret dX11_high_19 rfl h
set_option maxRecDepth 100000 in
set_option maxHeartbeats 4000000 in
theorem B_X11_lean_0 {g : gp} {u : sg} {Q : Option Value → sg → Prop} (x1 : Int32) (x2 : Int32) (x3 : Int32) (h : Go g iX11_isLength 0 [some (.int x1)] [] u (QI (fun r1 u1 => ((r1 = (0 : Int32) → Q (some (.int (-1000001 : Int32))) u1) ∧ (¬ r1 = (0 : Int32) → Go g iX11_within 0 [some (.int x2), some (.int 0), some (.int 99)] [] u1 (QI (fun r2 u2 => ((r2 = (0 : Int32) → Q (some (.int (-1000001 : Int32))) u2) ∧ (¬ r2 = (0 : Int32) → Go g iX11_within 0 [some (.int x3), some (.int 0), some (.int 99)] [] u2 (QI (fun r3 u3 => ((¬ r3 = (0 : Int32) → (((u3.1 11 3) < (20 : Int32) → Go g iX10_addHouse 0 [some (.ref (gd g 11)), some (.int x1), some (.int x2), some (.int x3)] [] u3 (QI (fun r4 u4 => Q (some (.int r4)) u4))) ∧ (¬ (u3.1 11 3) < (20 : Int32) → Q (some (.int (-1000003 : Int32))) u3))) ∧ (r3 = (0 : Int32) → Q (some (.int (-1000001 : Int32))) u3))))))))))))) : Go g iX11_lean 0 [some (.ref (gd g 0)), some (.int x1), some (.int x2), some (.int x3)] [] u Q := by
  refine go_iload_n dX11_lean_0 rfl rfl ?_
  refine go_cSi (As := [.int x1]) (st := []) (lc := [some (.int x1)]) dX11_lean_1 me_X11_isLength qm_X11_331 rfl (Nat.le_of_ble_eq_true rfl) rfl ⟨Nat.le_of_ble_eq_true rfl, Nat.le_of_ble_eq_true rfl⟩ rfl (Nat.le_of_ble_eq_true rfl) h (fun r1 u1 h => ?_)
  refine go_if_eq (tgt := 27) dX11_lean_4 (by decide) (fun hc => ?_) (fun hc => ?_)
  · replace h := h.1 hc
    refine go_ldc dX11_lean_27 qc_X11_100 ?_
    exact go_iret dX11_lean_29 rfl h
  · replace h := h.2 hc
    refine go_iload_n dX11_lean_7 rfl rfl ?_
    refine go_iconst (v := 0) dX11_lean_8 (by decide) ?_
    refine go_bipush (v := 99) dX11_lean_9 (by decide) ?_
    refine go_cSi (As := [.int x2, .int 0, .int 99]) (st := []) (lc := [some (.int x2), some (.int 0), some (.int 99)]) dX11_lean_11 me_X11_within qm_X11_96 rfl (Nat.le_of_ble_eq_true rfl) rfl ⟨Nat.le_of_ble_eq_true rfl, Nat.le_of_ble_eq_true rfl⟩ rfl (Nat.le_of_ble_eq_true rfl) h (fun r2 u2 h => ?_)
    refine go_if_eq (tgt := 27) dX11_lean_14 (by decide) (fun hc => ?_) (fun hc => ?_)
    · replace h := h.1 hc
      refine go_ldc dX11_lean_27 qc_X11_100 ?_
      exact go_iret dX11_lean_29 rfl h
    · replace h := h.2 hc
      refine go_iload_n dX11_lean_17 rfl rfl ?_
      refine go_iconst (v := 0) dX11_lean_18 (by decide) ?_
      refine go_bipush (v := 99) dX11_lean_19 (by decide) ?_
      refine go_cSi (As := [.int x3, .int 0, .int 99]) (st := []) (lc := [some (.int x3), some (.int 0), some (.int 99)]) dX11_lean_21 me_X11_within qm_X11_96 rfl (Nat.le_of_ble_eq_true rfl) rfl ⟨Nat.le_of_ble_eq_true rfl, Nat.le_of_ble_eq_true rfl⟩ rfl (Nat.le_of_ble_eq_true rfl) h (fun r3 u3 h => ?_)
      refine go_if_ne (tgt := 30) dX11_lean_24 (by decide) (fun hc => ?_) (fun hc => ?_)
      · replace h := h.1 hc
        refine go_aload_n dX11_lean_30 rfl rfl ?_
        refine go_get (k := 9) (v := .ref (gd g 11)) dX11_lean_31 ob_0 (by decide) qf_X11_81 rfl ?_
        refine go_get (k := 3) (v := .int (u3.1 11 3)) dX11_lean_34 ob_11 (by decide) qf_X11_337 rfl ?_
        refine go_bipush (v := 20) dX11_lean_37 (by decide) ?_
        refine go_icmp_lt (tgt := 45) dX11_lean_39 (by decide) (fun hc => ?_) (fun hc => ?_)
        · replace h := h.1 hc
          refine go_aload_n dX11_lean_45 rfl rfl ?_
          refine go_get (k := 9) (v := .ref (gd g 11)) dX11_lean_46 ob_0 (by decide) qf_X11_81 rfl ?_
          refine go_iload_n dX11_lean_49 rfl rfl ?_
          refine go_iload_n dX11_lean_50 rfl rfl ?_
          refine go_iload_n dX11_lean_51 rfl rfl ?_
          refine go_cVi (o := 11) (As := [.int x1, .int x2, .int x3]) (st := []) (lc := [some (.ref (gd g 11)), some (.int x1), some (.int x2), some (.int x3)]) dX11_lean_52 me_X10_addHouse rfl ob_11 qm_X11_340 rfl (Nat.le_of_ble_eq_true rfl) rfl ⟨Nat.le_of_ble_eq_true rfl, Nat.le_of_ble_eq_true rfl⟩ rfl (Nat.le_of_ble_eq_true rfl) h (fun r4 u4 h => ?_)
          exact go_iret dX11_lean_55 rfl h
        · replace h := h.2 hc
          refine go_ldc dX11_lean_42 qc_X11_161 ?_
          exact go_iret dX11_lean_44 rfl h
      · replace h := h.2 hc
        refine go_ldc dX11_lean_27 qc_X11_100 ?_
        exact go_iret dX11_lean_29 rfl h
set_option maxRecDepth 100000 in
set_option maxHeartbeats 4000000 in
theorem B_X11_breaches_0 {g : gp} {u : sg} {Q : Option Value → sg → Prop}  (h : Go g iX10_passable 0 [some (.ref (gd g 11)), none, none] [] u (QI (fun r1 u1 => Q (some (.int r1)) u1))) : Go g iX11_breaches 0 [some (.ref (gd g 0))] [] u Q := by
  refine go_aload_n dX11_breaches_0 rfl rfl ?_
  refine go_get (k := 9) (v := .ref (gd g 11)) dX11_breaches_1 ob_0 (by decide) qf_X11_81 rfl ?_
  refine go_cVi (o := 11) (As := []) (st := []) (lc := [some (.ref (gd g 11)), none, none]) dX11_breaches_4 me_X10_passable rfl ob_11 qm_X11_343 rfl (Nat.le_of_ble_eq_true rfl) rfl ⟨Nat.le_of_ble_eq_true rfl, Nat.le_of_ble_eq_true rfl⟩ rfl (Nat.le_of_ble_eq_true rfl) h (fun r1 u1 h => ?_)
  exact go_iret dX11_breaches_7 rfl h
set_option maxRecDepth 100000 in
set_option maxHeartbeats 4000000 in
theorem B_X11_watch_0 {g : gp} {u : sg} {Q : Option Value → sg → Prop} (x1 : Int32) (x2 : Int32) (x3 : Int32) (h : Go g iX11_isSheet 0 [some (.int x1)] [] u (QI (fun r1 u1 => ((r1 = (0 : Int32) → Q (some (.int (-1000001 : Int32))) u1) ∧ (¬ r1 = (0 : Int32) → Go g iX11_within 0 [some (.int x3), some (.int 1), some (.int 12)] [] u1 (QI (fun r2 u2 => ((¬ r2 = (0 : Int32) → Go g iX11_flawOf 0 [some (.ref (gd g 0)), some (.int x1), some (.int x2), some (.int x3)] [] u2 (QI (fun r3 u3 => ((r3 = (0 : Int32) → Go g iX11_watch 44 [some (.ref (gd g 0)), some (.int x1), some (.int x2), some (.int x3), none, some (.int 0), none] [] u3 Q) ∧ (¬ r3 = (0 : Int32) → Go g iX11_found 0 [some (.ref (gd g 0)), some (.int r3)] [] u3 (QI (fun r4 u4 => Q (some (.int r4)) u4))))))) ∧ (r2 = (0 : Int32) → Q (some (.int (-1000001 : Int32))) u2))))))))) : Go g iX11_watch 0 [some (.ref (gd g 0)), some (.int x1), some (.int x2), some (.int x3), none, none, none] [] u Q := by
  refine go_iload_n dX11_watch_0 rfl rfl ?_
  refine go_cSi (As := [.int x1]) (st := []) (lc := [some (.int x1)]) dX11_watch_1 me_X11_isSheet qm_X11_92 rfl (Nat.le_of_ble_eq_true rfl) rfl ⟨Nat.le_of_ble_eq_true rfl, Nat.le_of_ble_eq_true rfl⟩ rfl (Nat.le_of_ble_eq_true rfl) h (fun r1 u1 h => ?_)
  refine go_if_eq (tgt := 17) dX11_watch_4 (by decide) (fun hc => ?_) (fun hc => ?_)
  · replace h := h.1 hc
    refine go_ldc dX11_watch_17 qc_X11_100 ?_
    exact go_iret dX11_watch_19 rfl h
  · replace h := h.2 hc
    refine go_iload_n dX11_watch_7 rfl rfl ?_
    refine go_iconst (v := 1) dX11_watch_8 (by decide) ?_
    refine go_bipush (v := 12) dX11_watch_9 (by decide) ?_
    refine go_cSi (As := [.int x3, .int 1, .int 12]) (st := []) (lc := [some (.int x3), some (.int 1), some (.int 12)]) dX11_watch_11 me_X11_within qm_X11_96 rfl (Nat.le_of_ble_eq_true rfl) rfl ⟨Nat.le_of_ble_eq_true rfl, Nat.le_of_ble_eq_true rfl⟩ rfl (Nat.le_of_ble_eq_true rfl) h (fun r2 u2 h => ?_)
    refine go_if_ne (tgt := 20) dX11_watch_14 (by decide) (fun hc => ?_) (fun hc => ?_)
    · replace h := h.1 hc
      refine go_aload_n dX11_watch_20 rfl rfl ?_
      refine go_iload_n dX11_watch_21 rfl rfl ?_
      refine go_iload_n dX11_watch_22 rfl rfl ?_
      refine go_iload_n dX11_watch_23 rfl rfl ?_
      refine go_cVi (o := 0) (As := [.int x1, .int x2, .int x3]) (st := []) (lc := [some (.ref (gd g 0)), some (.int x1), some (.int x2), some (.int x3)]) dX11_watch_24 me_X11_flawOf rfl ob_0 qm_X11_112 rfl (Nat.le_of_ble_eq_true rfl) rfl ⟨Nat.le_of_ble_eq_true rfl, Nat.le_of_ble_eq_true rfl⟩ rfl (Nat.le_of_ble_eq_true rfl) h (fun r3 u3 h => ?_)
      refine go_istore (lm := [some (.ref (gd g 0)), some (.int x1), some (.int x2), some (.int x3), some (.int r3), none, none]) dX11_watch_27 (by decide) rfl rfl ?_
      refine go_iload dX11_watch_29 rfl ?_
      refine go_if_eq (tgt := 41) dX11_watch_31 (by decide) (fun hc => ?_) (fun hc => ?_)
      · replace h := h.1 hc
        refine go_iconst (v := 0) dX11_watch_41 (by decide) ?_
        refine go_istore (lm := [some (.ref (gd g 0)), some (.int x1), some (.int x2), some (.int x3), some (.int r3), some (.int 0), none]) dX11_watch_42 (by decide) rfl rfl ?_
        refine go_mask [true, true, true, true, false, true, true] rfl ?_
        exact h
      · replace h := h.2 hc
        refine go_aload_n dX11_watch_34 rfl rfl ?_
        refine go_iload dX11_watch_35 rfl ?_
        refine go_cVi (o := 0) (As := [.int r3]) (st := []) (lc := [some (.ref (gd g 0)), some (.int r3)]) dX11_watch_37 me_X11_found rfl ob_0 qm_X11_101 rfl (Nat.le_of_ble_eq_true rfl) rfl ⟨Nat.le_of_ble_eq_true rfl, Nat.le_of_ble_eq_true rfl⟩ rfl (Nat.le_of_ble_eq_true rfl) h (fun r4 u4 h => ?_)
        exact go_iret dX11_watch_40 rfl h
    · replace h := h.2 hc
      refine go_ldc dX11_watch_17 qc_X11_100 ?_
      exact go_iret dX11_watch_19 rfl h
set_option maxRecDepth 100000 in
set_option maxHeartbeats 4000000 in
theorem B_X11_watch_44 {g : gp} {u : sg} {Q : Option Value → sg → Prop} (x1 : Int32) (x2 : Int32) (x3 : Int32) (x5 : Int32) (h : ((x3 ≤ x5 → Go g iX10_passable 0 [some (.ref (gd g 11)), none, none] [] u (QI (fun r1 u1 => Go g iX3_search 0 [some (.ref (gd g 4)), some (.int x3), some (.int r1), none, none, none] [] u1 (QV (fun u2 => Go g iX11_fine 0 [some (.ref (gd g 0)), some (.int (u2.1 4 1))] [] u2 (QI (fun r3 u3 => Q (some (.int r3)) u3))))))) ∧ (¬ x3 ≤ x5 → Go g iX8_itemAt 0 [some (.ref (gd g 9)), some (.int x1), some (.int (x2 + x5))] [] u (QI (fun r4 u4 => Go g iX11_within 0 [some (.int r4), some (.int 0), some (.int 4095)] [] u4 (QI (fun r5 u5 => ((¬ r5 = (0 : Int32) → (vp_in x5 12 ∧ Go g iX11_watch 44 [some (.ref (gd g 0)), some (.int x1), some (.int x2), some (.int x3), none, some (.int (x5 + 1)), none] [] (sA u5 23 x5.toNatClampNeg r4) Q)) ∧ (r5 = (0 : Int32) → Q (some (.int (-1000001 : Int32))) u5))))))))) : Go g iX11_watch 44 [some (.ref (gd g 0)), some (.int x1), some (.int x2), some (.int x3), none, some (.int x5), none] [] u Q := by
  refine go_iload dX11_watch_44 rfl ?_
  refine go_iload_n dX11_watch_46 rfl rfl ?_
  refine go_icmp_ge (tgt := 97) dX11_watch_47 (by decide) (fun hc => ?_) (fun hc => ?_)
  · replace h := h.1 hc
    refine go_aload_n dX11_watch_97 rfl rfl ?_
    refine go_get (k := 10) (v := .ref (gd g 4)) dX11_watch_98 ob_0 (by decide) qf_X11_88 rfl ?_
    refine go_iload_n dX11_watch_101 rfl rfl ?_
    refine go_aload_n dX11_watch_102 rfl rfl ?_
    refine go_get (k := 9) (v := .ref (gd g 11)) dX11_watch_103 ob_0 (by decide) qf_X11_81 rfl ?_
    refine go_cVi (o := 11) (As := []) (st := [.int x3, .ref (gd g 4)]) (lc := [some (.ref (gd g 11)), none, none]) dX11_watch_106 me_X10_passable rfl ob_11 qm_X11_343 rfl (Nat.le_of_ble_eq_true rfl) rfl ⟨Nat.le_of_ble_eq_true rfl, Nat.le_of_ble_eq_true rfl⟩ rfl (Nat.le_of_ble_eq_true rfl) h (fun r1 u1 h => ?_)
    refine go_cVv (o := 4) (As := [.int x3, .int r1]) (st := []) (lc := [some (.ref (gd g 4)), some (.int x3), some (.int r1), none, none, none]) dX11_watch_109 me_X3_search rfl ob_4 qm_X11_322 rfl (Nat.le_of_ble_eq_true rfl) rfl ⟨Nat.le_of_ble_eq_true rfl, Nat.le_of_ble_eq_true rfl⟩ rfl (Nat.le_of_ble_eq_true rfl) h (fun u2 h => ?_)
    refine go_aload_n dX11_watch_112 rfl rfl ?_
    refine go_aload_n dX11_watch_113 rfl rfl ?_
    refine go_get (k := 10) (v := .ref (gd g 4)) dX11_watch_114 ob_0 (by decide) qf_X11_88 rfl ?_
    refine go_get (k := 1) (v := .int (u2.1 4 1)) dX11_watch_117 ob_4 (by decide) qf_X11_325 rfl ?_
    refine go_cVi (o := 0) (As := [.int (u2.1 4 1)]) (st := []) (lc := [some (.ref (gd g 0)), some (.int (u2.1 4 1))]) dX11_watch_120 me_X11_fine rfl ob_0 qm_X11_109 rfl (Nat.le_of_ble_eq_true rfl) rfl ⟨Nat.le_of_ble_eq_true rfl, Nat.le_of_ble_eq_true rfl⟩ rfl (Nat.le_of_ble_eq_true rfl) h (fun r3 u3 h => ?_)
    exact go_iret dX11_watch_123 rfl h
  · replace h := h.2 hc
    refine go_aload_n dX11_watch_50 rfl rfl ?_
    refine go_get (k := 0) (v := .ref (gd g 9)) dX11_watch_51 ob_0 (by decide) qf_X11_10 rfl ?_
    refine go_iload_n dX11_watch_54 rfl rfl ?_
    refine go_iload_n dX11_watch_55 rfl rfl ?_
    refine go_iload dX11_watch_56 rfl ?_
    refine go_iadd dX11_watch_58 ?_
    refine go_cVi (o := 9) (As := [.int x1, .int (x2 + x5)]) (st := []) (lc := [some (.ref (gd g 9)), some (.int x1), some (.int (x2 + x5))]) dX11_watch_59 me_X8_itemAt rfl ob_9 qm_X11_196 rfl (Nat.le_of_ble_eq_true rfl) rfl ⟨Nat.le_of_ble_eq_true rfl, Nat.le_of_ble_eq_true rfl⟩ rfl (Nat.le_of_ble_eq_true rfl) h (fun r4 u4 h => ?_)
    refine go_istore (lm := [some (.ref (gd g 0)), some (.int x1), some (.int x2), some (.int x3), none, some (.int x5), some (.int r4)]) dX11_watch_62 (by decide) rfl rfl ?_
    refine go_iload dX11_watch_64 rfl ?_
    refine go_iconst (v := 0) dX11_watch_66 (by decide) ?_
    refine go_sipush (v := 4095) dX11_watch_67 (by decide) ?_
    refine go_cSi (As := [.int r4, .int 0, .int 4095]) (st := []) (lc := [some (.int r4), some (.int 0), some (.int 4095)]) dX11_watch_70 me_X11_within qm_X11_96 rfl (Nat.le_of_ble_eq_true rfl) rfl ⟨Nat.le_of_ble_eq_true rfl, Nat.le_of_ble_eq_true rfl⟩ rfl (Nat.le_of_ble_eq_true rfl) h (fun r5 u5 h => ?_)
    refine go_if_ne (tgt := 79) dX11_watch_73 (by decide) (fun hc => ?_) (fun hc => ?_)
    · replace h := h.1 hc
      refine go_aload_n dX11_watch_79 rfl rfl ?_
      refine go_get (k := 10) (v := .ref (gd g 4)) dX11_watch_80 ob_0 (by decide) qf_X11_88 rfl ?_
      refine go_get (k := 0) (v := .ref (gd g 23)) dX11_watch_83 ob_4 (by decide) qf_X11_309 rfl ?_
      refine go_iload dX11_watch_86 rfl ?_
      refine go_iload dX11_watch_88 rfl ?_
      obtain ⟨hi, h⟩ := h
      refine go_ist (a := 23) (n := 12) dX11_watch_90 (by decide) (by decide) rfl hi ?_
      refine go_iinc (v := x5 + 1) (lm := [some (.ref (gd g 0)), some (.int x1), some (.int x2), some (.int x3), none, some (.int (x5 + 1)), some (.int r4)]) dX11_watch_91 rfl rfl (by decide) rfl rfl ?_
      refine go_goto (tgt := 44) dX11_watch_94 (by decide) ?_
      refine go_mask [true, true, true, true, true, true, false] rfl ?_
      exact h
    · replace h := h.2 hc
      refine go_ldc dX11_watch_76 qc_X11_100 ?_
      exact go_iret dX11_watch_78 rfl h
set_option maxRecDepth 100000 in
set_option maxHeartbeats 4000000 in
theorem B_X11_day_0 {g : gp} {u : sg} {Q : Option Value → sg → Prop} (x1 : Int32) (h : Go g iX11_isDay 0 [some (.int x1)] [] u (QI (fun r1 u1 => ((¬ r1 = (0 : Int32) → Q (some (.int (u1.1 0 11))) (sI u1 0 11 x1)) ∧ (r1 = (0 : Int32) → Q (some (.int (-1000001 : Int32))) u1))))) : Go g iX11_day 0 [some (.ref (gd g 0)), some (.int x1), none] [] u Q := by
  refine go_iload_n dX11_day_0 rfl rfl ?_
  refine go_cSi (As := [.int x1]) (st := []) (lc := [some (.int x1)]) dX11_day_1 me_X11_isDay qm_X11_184 rfl (Nat.le_of_ble_eq_true rfl) rfl ⟨Nat.le_of_ble_eq_true rfl, Nat.le_of_ble_eq_true rfl⟩ rfl (Nat.le_of_ble_eq_true rfl) h (fun r1 u1 h => ?_)
  refine go_if_ne (tgt := 10) dX11_day_4 (by decide) (fun hc => ?_) (fun hc => ?_)
  · replace h := h.1 hc
    refine go_aload_n dX11_day_10 rfl rfl ?_
    refine go_get (k := 11) (v := .int (u1.1 0 11)) dX11_day_11 ob_0 (by decide) qf_X11_346 rfl ?_
    refine go_istore_n (lm := [some (.ref (gd g 0)), some (.int x1), some (.int (u1.1 0 11))]) dX11_day_14 rfl (by decide) rfl rfl ?_
    refine go_aload_n dX11_day_15 rfl rfl ?_
    refine go_iload_n dX11_day_16 rfl rfl ?_
    refine go_put (k := 11) dX11_day_17 ob_0 (by decide) qf_X11_346 rfl rfl pf_I ?_
    refine go_iload_n dX11_day_20 rfl rfl ?_
    exact go_iret dX11_day_21 rfl h
  · replace h := h.2 hc
    refine go_ldc dX11_day_7 qc_X11_100 ?_
    exact go_iret dX11_day_9 rfl h
set_option maxRecDepth 100000 in
set_option maxHeartbeats 4000000 in
theorem B_X11_kind_0 {g : gp} {u : sg} {Q : Option Value → sg → Prop} (x1 : Int32) (h : Go g iX11_isPass 0 [some (.ref (gd g 0)), some (.int x1)] [] u (QI (fun r1 u1 => ((r1 = (0 : Int32) → Q (some (.int (-1000001 : Int32))) u1) ∧ (¬ r1 = (0 : Int32) → Go g iX5_kindOn 0 [some (.ref (gd g 6)), some (.int x1), some (.int (u1.1 0 11))] [] u1 (QI (fun r2 u2 => Q (some (.int r2)) u2))))))) : Go g iX11_kind 0 [some (.ref (gd g 0)), some (.int x1)] [] u Q := by
  refine go_aload_n dX11_kind_0 rfl rfl ?_
  refine go_iload_n dX11_kind_1 rfl rfl ?_
  refine go_cVi (o := 0) (As := [.int x1]) (st := []) (lc := [some (.ref (gd g 0)), some (.int x1)]) dX11_kind_2 me_X11_isPass rfl ob_0 qm_X11_270 rfl (Nat.le_of_ble_eq_true rfl) rfl ⟨Nat.le_of_ble_eq_true rfl, Nat.le_of_ble_eq_true rfl⟩ rfl (Nat.le_of_ble_eq_true rfl) h (fun r1 u1 h => ?_)
  refine go_if_eq (tgt := 23) dX11_kind_5 (by decide) (fun hc => ?_) (fun hc => ?_)
  · replace h := h.1 hc
    refine go_ldc dX11_kind_23 qc_X11_100 ?_
    exact go_iret dX11_kind_25 rfl h
  · replace h := h.2 hc
    refine go_aload_n dX11_kind_8 rfl rfl ?_
    refine go_get (k := 5) (v := .ref (gd g 6)) dX11_kind_9 ob_0 (by decide) qf_X11_51 rfl ?_
    refine go_iload_n dX11_kind_12 rfl rfl ?_
    refine go_aload_n dX11_kind_13 rfl rfl ?_
    refine go_get (k := 11) (v := .int (u1.1 0 11)) dX11_kind_14 ob_0 (by decide) qf_X11_346 rfl ?_
    refine go_cVi (o := 6) (As := [.int x1, .int (u1.1 0 11)]) (st := []) (lc := [some (.ref (gd g 6)), some (.int x1), some (.int (u1.1 0 11))]) dX11_kind_17 me_X5_kindOn rfl ob_6 qm_X11_349 rfl (Nat.le_of_ble_eq_true rfl) rfl ⟨Nat.le_of_ble_eq_true rfl, Nat.le_of_ble_eq_true rfl⟩ rfl (Nat.le_of_ble_eq_true rfl) h (fun r2 u2 h => ?_)
    refine go_goto (tgt := 25) dX11_kind_20 (by decide) ?_
    exact go_iret dX11_kind_25 rfl h
set_option maxRecDepth 100000 in
set_option maxHeartbeats 4000000 in
theorem B_X11_as_0 {g : gp} {u : sg} {Q : Option Value → sg → Prop} (x1 : Int32) (x2 : Int32) (h : Go g iX11_isPass 0 [some (.ref (gd g 0)), some (.int x1)] [] u (QI (fun r1 u1 => ((r1 = (0 : Int32) → Q (some (.int (-1000001 : Int32))) u1) ∧ (¬ r1 = (0 : Int32) → Go g iX11_within 0 [some (.int x2), some (.int 0), some (.int 4)] [] u1 (QI (fun r2 u2 => ((¬ r2 = (0 : Int32) → Go g iX5_isOfKind 0 [some (.ref (gd g 6)), some (.int x1), some (.int x2), some (.int (u2.1 0 11)), none] [] u2 (QI (fun r3 u3 => ((¬ r3 = (0 : Int32) → Go g iX5_itemOf 0 [some (.ref (gd g 6)), some (.int x1), some (.int 2)] [] u3 (QI (fun r4 u4 => Go g iX11_fine 0 [some (.ref (gd g 0)), some (.int r4)] [] u4 (QI (fun r5 u5 => Q (some (.int r5)) u5))))) ∧ (r3 = (0 : Int32) → Go g iX11_found 0 [some (.ref (gd g 0)), some (.int 3)] [] u3 (QI (fun r6 u6 => Q (some (.int r6)) u6))))))) ∧ (r2 = (0 : Int32) → Q (some (.int (-1000001 : Int32))) u2))))))))) : Go g iX11_as 0 [some (.ref (gd g 0)), some (.int x1), some (.int x2)] [] u Q := by
  refine go_aload_n dX11_as_0 rfl rfl ?_
  refine go_iload_n dX11_as_1 rfl rfl ?_
  refine go_cVi (o := 0) (As := [.int x1]) (st := []) (lc := [some (.ref (gd g 0)), some (.int x1)]) dX11_as_2 me_X11_isPass rfl ob_0 qm_X11_270 rfl (Nat.le_of_ble_eq_true rfl) rfl ⟨Nat.le_of_ble_eq_true rfl, Nat.le_of_ble_eq_true rfl⟩ rfl (Nat.le_of_ble_eq_true rfl) h (fun r1 u1 h => ?_)
  refine go_if_eq (tgt := 17) dX11_as_5 (by decide) (fun hc => ?_) (fun hc => ?_)
  · replace h := h.1 hc
    refine go_ldc dX11_as_17 qc_X11_100 ?_
    exact go_iret dX11_as_19 rfl h
  · replace h := h.2 hc
    refine go_iload_n dX11_as_8 rfl rfl ?_
    refine go_iconst (v := 0) dX11_as_9 (by decide) ?_
    refine go_iconst (v := 4) dX11_as_10 (by decide) ?_
    refine go_cSi (As := [.int x2, .int 0, .int 4]) (st := []) (lc := [some (.int x2), some (.int 0), some (.int 4)]) dX11_as_11 me_X11_within qm_X11_96 rfl (Nat.le_of_ble_eq_true rfl) rfl ⟨Nat.le_of_ble_eq_true rfl, Nat.le_of_ble_eq_true rfl⟩ rfl (Nat.le_of_ble_eq_true rfl) h (fun r2 u2 h => ?_)
    refine go_if_ne (tgt := 20) dX11_as_14 (by decide) (fun hc => ?_) (fun hc => ?_)
    · replace h := h.1 hc
      refine go_aload_n dX11_as_20 rfl rfl ?_
      refine go_get (k := 5) (v := .ref (gd g 6)) dX11_as_21 ob_0 (by decide) qf_X11_51 rfl ?_
      refine go_iload_n dX11_as_24 rfl rfl ?_
      refine go_iload_n dX11_as_25 rfl rfl ?_
      refine go_aload_n dX11_as_26 rfl rfl ?_
      refine go_get (k := 11) (v := .int (u2.1 0 11)) dX11_as_27 ob_0 (by decide) qf_X11_346 rfl ?_
      refine go_cVi (o := 6) (As := [.int x1, .int x2, .int (u2.1 0 11)]) (st := []) (lc := [some (.ref (gd g 6)), some (.int x1), some (.int x2), some (.int (u2.1 0 11)), none]) dX11_as_30 me_X5_isOfKind rfl ob_6 qm_X11_352 rfl (Nat.le_of_ble_eq_true rfl) rfl ⟨Nat.le_of_ble_eq_true rfl, Nat.le_of_ble_eq_true rfl⟩ rfl (Nat.le_of_ble_eq_true rfl) h (fun r3 u3 h => ?_)
      refine go_if_ne (tgt := 42) dX11_as_33 (by decide) (fun hc => ?_) (fun hc => ?_)
      · replace h := h.1 hc
        refine go_aload_n dX11_as_42 rfl rfl ?_
        refine go_aload_n dX11_as_43 rfl rfl ?_
        refine go_get (k := 5) (v := .ref (gd g 6)) dX11_as_44 ob_0 (by decide) qf_X11_51 rfl ?_
        refine go_iload_n dX11_as_47 rfl rfl ?_
        refine go_iconst (v := 2) dX11_as_48 (by decide) ?_
        refine go_cVi (o := 6) (As := [.int x1, .int 2]) (st := [.ref (gd g 0)]) (lc := [some (.ref (gd g 6)), some (.int x1), some (.int 2)]) dX11_as_49 me_X5_itemOf rfl ob_6 qm_X11_355 rfl (Nat.le_of_ble_eq_true rfl) rfl ⟨Nat.le_of_ble_eq_true rfl, Nat.le_of_ble_eq_true rfl⟩ rfl (Nat.le_of_ble_eq_true rfl) h (fun r4 u4 h => ?_)
        refine go_cVi (o := 0) (As := [.int r4]) (st := []) (lc := [some (.ref (gd g 0)), some (.int r4)]) dX11_as_52 me_X11_fine rfl ob_0 qm_X11_109 rfl (Nat.le_of_ble_eq_true rfl) rfl ⟨Nat.le_of_ble_eq_true rfl, Nat.le_of_ble_eq_true rfl⟩ rfl (Nat.le_of_ble_eq_true rfl) h (fun r5 u5 h => ?_)
        exact go_iret dX11_as_55 rfl h
      · replace h := h.2 hc
        refine go_aload_n dX11_as_36 rfl rfl ?_
        refine go_iconst (v := 3) dX11_as_37 (by decide) ?_
        refine go_cVi (o := 0) (As := [.int 3]) (st := []) (lc := [some (.ref (gd g 0)), some (.int 3)]) dX11_as_38 me_X11_found rfl ob_0 qm_X11_101 rfl (Nat.le_of_ble_eq_true rfl) rfl ⟨Nat.le_of_ble_eq_true rfl, Nat.le_of_ble_eq_true rfl⟩ rfl (Nat.le_of_ble_eq_true rfl) h (fun r6 u6 h => ?_)
        exact go_iret dX11_as_41 rfl h
    · replace h := h.2 hc
      refine go_ldc dX11_as_17 qc_X11_100 ?_
      exact go_iret dX11_as_19 rfl h
set_option maxRecDepth 100000 in
set_option maxHeartbeats 4000000 in
theorem B_X11_ask_0 {g : gp} {u : sg} {Q : Option Value → sg → Prop} (x1 : Int32) (x2 : Int32) (h : Go g iX11_isPass 0 [some (.ref (gd g 0)), some (.int x1)] [] u (QI (fun r1 u1 => ((r1 = (0 : Int32) → Q (some (.int (-1000001 : Int32))) u1) ∧ (¬ r1 = (0 : Int32) → Go g iX11_within 0 [some (.int x2), some (.int 0), some (.int 1)] [] u1 (QI (fun r2 u2 => ((¬ r2 = (0 : Int32) → Go g iX5_kindOn 0 [some (.ref (gd g 6)), some (.int x1), some (.int (u2.1 0 11))] [] (sI u2 1 2 (0 : Int32)) (QI (fun r3 u3 => ((¬ x2 = (0 : Int32) → Go g iX0_markOf 0 [some (.ref (gd g 1)), some (.int x1), some (.int r3)] [] u3 (QI (fun r4 u4 => Q (some (.int r4)) u4))) ∧ (x2 = (0 : Int32) → Go g iX0_sizeOf 0 [some (.ref (gd g 1)), some (.int x1), some (.int r3)] [] u3 (QI (fun r5 u5 => Q (some (.int r5)) u5))))))) ∧ (r2 = (0 : Int32) → Q (some (.int (-1000001 : Int32))) u2))))))))) : Go g iX11_ask 0 [some (.ref (gd g 0)), some (.int x1), some (.int x2), none] [] u Q := by
  refine go_aload_n dX11_ask_0 rfl rfl ?_
  refine go_iload_n dX11_ask_1 rfl rfl ?_
  refine go_cVi (o := 0) (As := [.int x1]) (st := []) (lc := [some (.ref (gd g 0)), some (.int x1)]) dX11_ask_2 me_X11_isPass rfl ob_0 qm_X11_270 rfl (Nat.le_of_ble_eq_true rfl) rfl ⟨Nat.le_of_ble_eq_true rfl, Nat.le_of_ble_eq_true rfl⟩ rfl (Nat.le_of_ble_eq_true rfl) h (fun r1 u1 h => ?_)
  refine go_if_eq (tgt := 17) dX11_ask_5 (by decide) (fun hc => ?_) (fun hc => ?_)
  · replace h := h.1 hc
    refine go_ldc dX11_ask_17 qc_X11_100 ?_
    exact go_iret dX11_ask_19 rfl h
  · replace h := h.2 hc
    refine go_iload_n dX11_ask_8 rfl rfl ?_
    refine go_iconst (v := 0) dX11_ask_9 (by decide) ?_
    refine go_iconst (v := 1) dX11_ask_10 (by decide) ?_
    refine go_cSi (As := [.int x2, .int 0, .int 1]) (st := []) (lc := [some (.int x2), some (.int 0), some (.int 1)]) dX11_ask_11 me_X11_within qm_X11_96 rfl (Nat.le_of_ble_eq_true rfl) rfl ⟨Nat.le_of_ble_eq_true rfl, Nat.le_of_ble_eq_true rfl⟩ rfl (Nat.le_of_ble_eq_true rfl) h (fun r2 u2 h => ?_)
    refine go_if_ne (tgt := 20) dX11_ask_14 (by decide) (fun hc => ?_) (fun hc => ?_)
    · replace h := h.1 hc
      refine go_aload_n dX11_ask_20 rfl rfl ?_
      refine go_get (k := 6) (v := .ref (gd g 1)) dX11_ask_21 ob_0 (by decide) qf_X11_60 rfl ?_
      refine go_iconst (v := 0) dX11_ask_24 (by decide) ?_
      refine go_put (k := 2) dX11_ask_25 ob_1 (by decide) qf_X11_358 rfl rfl pf_I ?_
      refine go_aload_n dX11_ask_28 rfl rfl ?_
      refine go_get (k := 5) (v := .ref (gd g 6)) dX11_ask_29 ob_0 (by decide) qf_X11_51 rfl ?_
      refine go_iload_n dX11_ask_32 rfl rfl ?_
      refine go_aload_n dX11_ask_33 rfl rfl ?_
      refine go_get (k := 11) (v := .int (u2.1 0 11)) dX11_ask_34 ob_0 (by decide) qf_X11_346 rfl ?_
      refine go_cVi (o := 6) (As := [.int x1, .int (u2.1 0 11)]) (st := []) (lc := [some (.ref (gd g 6)), some (.int x1), some (.int (u2.1 0 11))]) dX11_ask_37 me_X5_kindOn rfl ob_6 qm_X11_349 rfl (Nat.le_of_ble_eq_true rfl) rfl ⟨Nat.le_of_ble_eq_true rfl, Nat.le_of_ble_eq_true rfl⟩ rfl (Nat.le_of_ble_eq_true rfl) h (fun r3 u3 h => ?_)
      refine go_istore_n (lm := [some (.ref (gd g 0)), some (.int x1), some (.int x2), some (.int r3)]) dX11_ask_40 rfl (by decide) rfl rfl ?_
      refine go_iload_n dX11_ask_41 rfl rfl ?_
      refine go_if_ne (tgt := 57) dX11_ask_42 (by decide) (fun hc => ?_) (fun hc => ?_)
      · replace h := h.1 hc
        refine go_aload_n dX11_ask_57 rfl rfl ?_
        refine go_get (k := 6) (v := .ref (gd g 1)) dX11_ask_58 ob_0 (by decide) qf_X11_60 rfl ?_
        refine go_iload_n dX11_ask_61 rfl rfl ?_
        refine go_iload_n dX11_ask_62 rfl rfl ?_
        refine go_cVi (o := 1) (As := [.int x1, .int r3]) (st := []) (lc := [some (.ref (gd g 1)), some (.int x1), some (.int r3)]) dX11_ask_63 me_X0_markOf rfl ob_1 qm_X11_364 rfl (Nat.le_of_ble_eq_true rfl) rfl ⟨Nat.le_of_ble_eq_true rfl, Nat.le_of_ble_eq_true rfl⟩ rfl (Nat.le_of_ble_eq_true rfl) h (fun r4 u4 h => ?_)
        exact go_iret dX11_ask_66 rfl h
      · replace h := h.2 hc
        refine go_aload_n dX11_ask_45 rfl rfl ?_
        refine go_get (k := 6) (v := .ref (gd g 1)) dX11_ask_46 ob_0 (by decide) qf_X11_60 rfl ?_
        refine go_iload_n dX11_ask_49 rfl rfl ?_
        refine go_iload_n dX11_ask_50 rfl rfl ?_
        refine go_cVi (o := 1) (As := [.int x1, .int r3]) (st := []) (lc := [some (.ref (gd g 1)), some (.int x1), some (.int r3)]) dX11_ask_51 me_X0_sizeOf rfl ob_1 qm_X11_361 rfl (Nat.le_of_ble_eq_true rfl) rfl ⟨Nat.le_of_ble_eq_true rfl, Nat.le_of_ble_eq_true rfl⟩ rfl (Nat.le_of_ble_eq_true rfl) h (fun r5 u5 h => ?_)
        refine go_goto (tgt := 66) dX11_ask_54 (by decide) ?_
        exact go_iret dX11_ask_66 rfl h
    · replace h := h.2 hc
      refine go_ldc dX11_ask_17 qc_X11_100 ?_
      exact go_iret dX11_ask_19 rfl h
set_option maxRecDepth 100000 in
set_option maxHeartbeats 4000000 in
theorem B_X11_trace_0 {g : gp} {u : sg} {Q : Option Value → sg → Prop} (x1 : Int32) (h : Go g iX11_within 0 [some (.int x1), some (.int 0), some (.int ((u.1 1 2) - 1))] [] u (QI (fun r1 u1 => ((r1 = (0 : Int32) → Q (some (.int (-1000000 : Int32))) u1) ∧ (¬ r1 = (0 : Int32) → (vp_in x1 16 ∧ Q (some (.int (u1.2 13 x1.toNatClampNeg))) u1)))))) : Go g iX11_trace 0 [some (.ref (gd g 0)), some (.int x1)] [] u Q := by
  refine go_iload_n dX11_trace_0 rfl rfl ?_
  refine go_iconst (v := 0) dX11_trace_1 (by decide) ?_
  refine go_aload_n dX11_trace_2 rfl rfl ?_
  refine go_get (k := 6) (v := .ref (gd g 1)) dX11_trace_3 ob_0 (by decide) qf_X11_60 rfl ?_
  refine go_get (k := 2) (v := .int (u.1 1 2)) dX11_trace_6 ob_1 (by decide) qf_X11_358 rfl ?_
  refine go_iconst (v := 1) dX11_trace_9 (by decide) ?_
  refine go_isub dX11_trace_10 ?_
  refine go_cSi (As := [.int x1, .int 0, .int ((u.1 1 2) - 1)]) (st := []) (lc := [some (.int x1), some (.int 0), some (.int ((u.1 1 2) - 1))]) dX11_trace_11 me_X11_within qm_X11_96 rfl (Nat.le_of_ble_eq_true rfl) rfl ⟨Nat.le_of_ble_eq_true rfl, Nat.le_of_ble_eq_true rfl⟩ rfl (Nat.le_of_ble_eq_true rfl) h (fun r1 u1 h => ?_)
  refine go_if_eq (tgt := 29) dX11_trace_14 (by decide) (fun hc => ?_) (fun hc => ?_)
  · replace h := h.1 hc
    refine go_ldc dX11_trace_29 qc_X11_206 ?_
    exact go_iret dX11_trace_31 rfl h
  · replace h := h.2 hc
    refine go_aload_n dX11_trace_17 rfl rfl ?_
    refine go_get (k := 6) (v := .ref (gd g 1)) dX11_trace_18 ob_0 (by decide) qf_X11_60 rfl ?_
    refine go_get (k := 1) (v := .ref (gd g 13)) dX11_trace_21 ob_1 (by decide) qf_X11_367 rfl ?_
    refine go_iload_n dX11_trace_24 rfl rfl ?_
    obtain ⟨hi, h⟩ := h
    refine go_ild (a := 13) (n := 16) dX11_trace_25 (by decide) (by decide) rfl hi ?_
    refine go_goto (tgt := 31) dX11_trace_26 (by decide) ?_
    exact go_iret dX11_trace_31 rfl h
set_option maxRecDepth 100000 in
set_option maxHeartbeats 4000000 in
theorem B_X11_count_0 {g : gp} {u : sg} {Q : Option Value → sg → Prop} (x1 : Int32) (h : ((x1 = 0 → Go g iX8_present 0 [some (.ref (gd g 9)), none, none] [] u (QI (fun r1 u1 => Q (some (.int r1)) u1))) ∧ (x1 = 1 → Q (some (.int (u.1 2 3))) u) ∧ (x1 = 2 → Q (some (.int (u.1 3 3))) u) ∧ (x1 = 3 → Q (some (.int (u.1 3 9))) u) ∧ (x1 = 4 → Q (some (.int (u.1 6 3))) u) ∧ (x1 = 5 → Go g iX5_howMany 0 [some (.ref (gd g 6)), some (.int 2), some (.int (u.1 0 11)), none, none] [] u (QI (fun r2 u2 => Q (some (.int r2)) u2))) ∧ (x1 = 6 → Go g iX5_howMany 0 [some (.ref (gd g 6)), some (.int 3), some (.int (u.1 0 11)), none, none] [] u (QI (fun r3 u3 => Q (some (.int r3)) u3))) ∧ (x1 = 7 → Go g iX9_housesWithCases 0 [some (.ref (gd g 10)), none, none] [] u (QI (fun r4 u4 => Go g iJ6_bitCount_0f7a4 0 [some (.int r4)] [] u4 (QI (fun r5 u5 => Q (some (.int r5)) u5))))) ∧ (x1 = 8 → Q (some (.int (u.1 8 2))) u) ∧ (¬ x1 = 0 → ¬ x1 = 1 → ¬ x1 = 2 → ¬ x1 = 3 → ¬ x1 = 4 → ¬ x1 = 5 → ¬ x1 = 6 → ¬ x1 = 7 → ¬ x1 = 8 → Q (some (.int (-1000001 : Int32))) u))) : Go g iX11_count 0 [some (.ref (gd g 0)), some (.int x1)] [] u Q := by
  refine go_iload_n dX11_count_0 rfl rfl ?_
  by_cases hc0 : x1 = 0
  · replace h := h.1 hc0
    refine go_tabIn (off := 51) (tgt := 52) dX11_count_1 (by rw [hc0]; decide) (by rw [hc0]; decide) (by rw [hc0]; decide) (by decide) ?_
    refine go_aload_n dX11_count_52 rfl rfl ?_
    refine go_get (k := 0) (v := .ref (gd g 9)) dX11_count_53 ob_0 (by decide) qf_X11_10 rfl ?_
    refine go_cVi (o := 9) (As := []) (st := []) (lc := [some (.ref (gd g 9)), none, none]) dX11_count_56 me_X8_present rfl ob_9 qm_X11_370 rfl (Nat.le_of_ble_eq_true rfl) rfl ⟨Nat.le_of_ble_eq_true rfl, Nat.le_of_ble_eq_true rfl⟩ rfl (Nat.le_of_ble_eq_true rfl) h (fun r1 u1 h => ?_)
    exact go_iret dX11_count_59 rfl h
  replace h := h.2
  by_cases hc1 : x1 = 1
  · replace h := h.1 hc1
    refine go_tabIn (off := 59) (tgt := 60) dX11_count_1 (by rw [hc1]; decide) (by rw [hc1]; decide) (by rw [hc1]; decide) (by decide) ?_
    refine go_aload_n dX11_count_60 rfl rfl ?_
    refine go_get (k := 2) (v := .ref (gd g 2)) dX11_count_61 ob_0 (by decide) qf_X11_26 rfl ?_
    refine go_get (k := 3) (v := .int (u.1 2 3)) dX11_count_64 ob_2 (by decide) qf_X11_174 rfl ?_
    exact go_iret dX11_count_67 rfl h
  replace h := h.2
  by_cases hc2 : x1 = 2
  · replace h := h.1 hc2
    refine go_tabIn (off := 67) (tgt := 68) dX11_count_1 (by rw [hc2]; decide) (by rw [hc2]; decide) (by rw [hc2]; decide) (by decide) ?_
    refine go_aload_n dX11_count_68 rfl rfl ?_
    refine go_get (k := 4) (v := .ref (gd g 3)) dX11_count_69 ob_0 (by decide) qf_X11_44 rfl ?_
    refine go_get (k := 3) (v := .int (u.1 3 3)) dX11_count_72 ob_3 (by decide) qf_X11_194 rfl ?_
    exact go_iret dX11_count_75 rfl h
  replace h := h.2
  by_cases hc3 : x1 = 3
  · replace h := h.1 hc3
    refine go_tabIn (off := 75) (tgt := 76) dX11_count_1 (by rw [hc3]; decide) (by rw [hc3]; decide) (by rw [hc3]; decide) (by decide) ?_
    refine go_aload_n dX11_count_76 rfl rfl ?_
    refine go_get (k := 4) (v := .ref (gd g 3)) dX11_count_77 ob_0 (by decide) qf_X11_44 rfl ?_
    refine go_get (k := 9) (v := .int (u.1 3 9)) dX11_count_80 ob_3 (by decide) qf_X11_217 rfl ?_
    exact go_iret dX11_count_83 rfl h
  replace h := h.2
  by_cases hc4 : x1 = 4
  · replace h := h.1 hc4
    refine go_tabIn (off := 83) (tgt := 84) dX11_count_1 (by rw [hc4]; decide) (by rw [hc4]; decide) (by rw [hc4]; decide) (by decide) ?_
    refine go_aload_n dX11_count_84 rfl rfl ?_
    refine go_get (k := 5) (v := .ref (gd g 6)) dX11_count_85 ob_0 (by decide) qf_X11_51 rfl ?_
    refine go_get (k := 3) (v := .int (u.1 6 3)) dX11_count_88 ob_6 (by decide) qf_X11_255 rfl ?_
    exact go_iret dX11_count_91 rfl h
  replace h := h.2
  by_cases hc5 : x1 = 5
  · replace h := h.1 hc5
    refine go_tabIn (off := 91) (tgt := 92) dX11_count_1 (by rw [hc5]; decide) (by rw [hc5]; decide) (by rw [hc5]; decide) (by decide) ?_
    refine go_aload_n dX11_count_92 rfl rfl ?_
    refine go_get (k := 5) (v := .ref (gd g 6)) dX11_count_93 ob_0 (by decide) qf_X11_51 rfl ?_
    refine go_iconst (v := 2) dX11_count_96 (by decide) ?_
    refine go_aload_n dX11_count_97 rfl rfl ?_
    refine go_get (k := 11) (v := .int (u.1 0 11)) dX11_count_98 ob_0 (by decide) qf_X11_346 rfl ?_
    refine go_cVi (o := 6) (As := [.int 2, .int (u.1 0 11)]) (st := []) (lc := [some (.ref (gd g 6)), some (.int 2), some (.int (u.1 0 11)), none, none]) dX11_count_101 me_X5_howMany rfl ob_6 qm_X11_373 rfl (Nat.le_of_ble_eq_true rfl) rfl ⟨Nat.le_of_ble_eq_true rfl, Nat.le_of_ble_eq_true rfl⟩ rfl (Nat.le_of_ble_eq_true rfl) h (fun r2 u2 h => ?_)
    exact go_iret dX11_count_104 rfl h
  replace h := h.2
  by_cases hc6 : x1 = 6
  · replace h := h.1 hc6
    refine go_tabIn (off := 104) (tgt := 105) dX11_count_1 (by rw [hc6]; decide) (by rw [hc6]; decide) (by rw [hc6]; decide) (by decide) ?_
    refine go_aload_n dX11_count_105 rfl rfl ?_
    refine go_get (k := 5) (v := .ref (gd g 6)) dX11_count_106 ob_0 (by decide) qf_X11_51 rfl ?_
    refine go_iconst (v := 3) dX11_count_109 (by decide) ?_
    refine go_aload_n dX11_count_110 rfl rfl ?_
    refine go_get (k := 11) (v := .int (u.1 0 11)) dX11_count_111 ob_0 (by decide) qf_X11_346 rfl ?_
    refine go_cVi (o := 6) (As := [.int 3, .int (u.1 0 11)]) (st := []) (lc := [some (.ref (gd g 6)), some (.int 3), some (.int (u.1 0 11)), none, none]) dX11_count_114 me_X5_howMany rfl ob_6 qm_X11_373 rfl (Nat.le_of_ble_eq_true rfl) rfl ⟨Nat.le_of_ble_eq_true rfl, Nat.le_of_ble_eq_true rfl⟩ rfl (Nat.le_of_ble_eq_true rfl) h (fun r3 u3 h => ?_)
    exact go_iret dX11_count_117 rfl h
  replace h := h.2
  by_cases hc7 : x1 = 7
  · replace h := h.1 hc7
    refine go_tabIn (off := 117) (tgt := 118) dX11_count_1 (by rw [hc7]; decide) (by rw [hc7]; decide) (by rw [hc7]; decide) (by decide) ?_
    refine go_aload_n dX11_count_118 rfl rfl ?_
    refine go_get (k := 8) (v := .ref (gd g 10)) dX11_count_119 ob_0 (by decide) qf_X11_74 rfl ?_
    refine go_cVi (o := 10) (As := []) (st := []) (lc := [some (.ref (gd g 10)), none, none]) dX11_count_122 me_X9_housesWithCases rfl ob_10 qm_X11_319 rfl (Nat.le_of_ble_eq_true rfl) rfl ⟨Nat.le_of_ble_eq_true rfl, Nat.le_of_ble_eq_true rfl⟩ rfl (Nat.le_of_ble_eq_true rfl) h (fun r4 u4 h => ?_)
    refine go_cSi (As := [.int r4]) (st := []) (lc := [some (.int r4)]) dX11_count_125 me_J6_bitCount_0f7a4 qm_X11_376 rfl (Nat.le_of_ble_eq_true rfl) rfl ⟨Nat.le_of_ble_eq_true rfl, Nat.le_of_ble_eq_true rfl⟩ rfl (Nat.le_of_ble_eq_true rfl) h (fun r5 u5 h => ?_)
    exact go_iret dX11_count_128 rfl h
  replace h := h.2
  by_cases hc8 : x1 = 8
  · replace h := h.1 hc8
    refine go_tabIn (off := 128) (tgt := 129) dX11_count_1 (by rw [hc8]; decide) (by rw [hc8]; decide) (by rw [hc8]; decide) (by decide) ?_
    refine go_aload_n dX11_count_129 rfl rfl ?_
    refine go_get (k := 3) (v := .ref (gd g 8)) dX11_count_130 ob_0 (by decide) qf_X11_35 rfl ?_
    refine go_get (k := 2) (v := .int (u.1 8 2)) dX11_count_133 ob_8 (by decide) qf_X11_166 rfl ?_
    exact go_iret dX11_count_136 rfl h
  replace h := h.2
  replace h := h hc0 hc1 hc2 hc3 hc4 hc5 hc6 hc7 hc8
  refine go_tabOut (tgt := 137) dX11_count_1 (by have e0 : x1.toInt ≠ 0 := tab_ne hc0; have e1 : x1.toInt ≠ 1 := tab_ne hc1; have e2 : x1.toInt ≠ 2 := tab_ne hc2; have e3 : x1.toInt ≠ 3 := tab_ne hc3; have e4 : x1.toInt ≠ 4 := tab_ne hc4; have e5 : x1.toInt ≠ 5 := tab_ne hc5; have e6 : x1.toInt ≠ 6 := tab_ne hc6; have e7 : x1.toInt ≠ 7 := tab_ne hc7; have e8 : x1.toInt ≠ 8 := tab_ne hc8; omega) (by decide) ?_
  refine go_ldc dX11_count_137 qc_X11_100 ?_
  exact go_iret dX11_count_139 rfl h
set_option maxRecDepth 100000 in
set_option maxHeartbeats 4000000 in
theorem B_X11_status_0 {g : gp} {u : sg} {Q : Option Value → sg → Prop}  (h : Q (some (.int (u.1 0 12))) u) : Go g iX11_status 0 [some (.ref (gd g 0))] [] u Q := by
  refine go_aload_n dX11_status_0 rfl rfl ?_
  refine go_get (k := 12) (v := .int (u.1 0 12)) dX11_status_1 ob_0 (by decide) qf_X11_381 rfl ?_
  exact go_iret dX11_status_4 rfl h
set_option maxRecDepth 100000 in
set_option maxHeartbeats 4000000 in
theorem B_X11_found_0 {g : gp} {u : sg} {Q : Option Value → sg → Prop} (x1 : Int32) (h : Q (some (.int ((-1000010) - x1))) (sI u 0 12 x1)) : Go g iX11_found 0 [some (.ref (gd g 0)), some (.int x1)] [] u Q := by
  refine go_aload_n dX11_found_0 rfl rfl ?_
  refine go_iload_n dX11_found_1 rfl rfl ?_
  refine go_put (k := 12) dX11_found_2 ob_0 (by decide) qf_X11_381 rfl rfl pf_I ?_
  refine go_ldcw dX11_found_5 qc_X11_384 ?_
  refine go_iload_n dX11_found_8 rfl rfl ?_
  refine go_isub dX11_found_9 ?_
  exact go_iret dX11_found_10 rfl h
set_option maxRecDepth 100000 in
set_option maxHeartbeats 4000000 in
theorem B_X11_fine_0 {g : gp} {u : sg} {Q : Option Value → sg → Prop} (x1 : Int32) (h : Q (some (.int x1)) (sI u 0 12 (0 : Int32))) : Go g iX11_fine 0 [some (.ref (gd g 0)), some (.int x1)] [] u Q := by
  refine go_aload_n dX11_fine_0 rfl rfl ?_
  refine go_iconst (v := 0) dX11_fine_1 (by decide) ?_
  refine go_put (k := 12) dX11_fine_2 ob_0 (by decide) qf_X11_381 rfl rfl pf_I ?_
  refine go_iload_n dX11_fine_5 rfl rfl ?_
  exact go_iret dX11_fine_6 rfl h
set_option maxRecDepth 100000 in
set_option maxHeartbeats 4000000 in
theorem B_X11_flawOf_0 {g : gp} {u : sg} {Q : Option Value → sg → Prop} (x1 : Int32) (x2 : Int32) (x3 : Int32) (h : Go g iX8_isMissing 0 [some (.ref (gd g 9)), some (.int x1)] [] u (QI (fun r1 u1 => ((r1 = (0 : Int32) → Go g iX8_hasPlaces 0 [some (.ref (gd g 9)), some (.int x1), some (.int x2), some (.int x3)] [] u1 (QI (fun r2 u2 => ((r2 = (0 : Int32) → Q (some (.int (2 : Int32))) u2) ∧ (¬ r2 = (0 : Int32) → Q (some (.int (0 : Int32))) u2))))) ∧ (¬ r1 = (0 : Int32) → Q (some (.int (1 : Int32))) u1))))) : Go g iX11_flawOf 0 [some (.ref (gd g 0)), some (.int x1), some (.int x2), some (.int x3)] [] u Q := by
  refine go_aload_n dX11_flawOf_0 rfl rfl ?_
  refine go_get (k := 0) (v := .ref (gd g 9)) dX11_flawOf_1 ob_0 (by decide) qf_X11_10 rfl ?_
  refine go_iload_n dX11_flawOf_4 rfl rfl ?_
  refine go_cVi (o := 9) (As := [.int x1]) (st := []) (lc := [some (.ref (gd g 9)), some (.int x1)]) dX11_flawOf_5 me_X8_isMissing rfl ob_9 qm_X11_119 rfl (Nat.le_of_ble_eq_true rfl) rfl ⟨Nat.le_of_ble_eq_true rfl, Nat.le_of_ble_eq_true rfl⟩ rfl (Nat.le_of_ble_eq_true rfl) h (fun r1 u1 h => ?_)
  refine go_if_eq (tgt := 13) dX11_flawOf_8 (by decide) (fun hc => ?_) (fun hc => ?_)
  · replace h := h.1 hc
    refine go_aload_n dX11_flawOf_13 rfl rfl ?_
    refine go_get (k := 0) (v := .ref (gd g 9)) dX11_flawOf_14 ob_0 (by decide) qf_X11_10 rfl ?_
    refine go_iload_n dX11_flawOf_17 rfl rfl ?_
    refine go_iload_n dX11_flawOf_18 rfl rfl ?_
    refine go_iload_n dX11_flawOf_19 rfl rfl ?_
    refine go_cVi (o := 9) (As := [.int x1, .int x2, .int x3]) (st := []) (lc := [some (.ref (gd g 9)), some (.int x1), some (.int x2), some (.int x3)]) dX11_flawOf_20 me_X8_hasPlaces rfl ob_9 qm_X11_125 rfl (Nat.le_of_ble_eq_true rfl) rfl ⟨Nat.le_of_ble_eq_true rfl, Nat.le_of_ble_eq_true rfl⟩ rfl (Nat.le_of_ble_eq_true rfl) h (fun r2 u2 h => ?_)
    refine go_if_eq (tgt := 30) dX11_flawOf_23 (by decide) (fun hc => ?_) (fun hc => ?_)
    · replace h := h.1 hc
      refine go_iconst (v := 2) dX11_flawOf_30 (by decide) ?_
      exact go_iret dX11_flawOf_31 rfl h
    · replace h := h.2 hc
      refine go_iconst (v := 0) dX11_flawOf_26 (by decide) ?_
      refine go_goto (tgt := 31) dX11_flawOf_27 (by decide) ?_
      exact go_iret dX11_flawOf_31 rfl h
  · replace h := h.2 hc
    refine go_iconst (v := 1) dX11_flawOf_11 (by decide) ?_
    exact go_iret dX11_flawOf_12 rfl h
set_option maxRecDepth 100000 in
set_option maxHeartbeats 4000000 in
theorem B_X11_isCart_0 {g : gp} {u : sg} {Q : Option Value → sg → Prop} (x1 : Int32) (h : Go g iX11_within 0 [some (.int x1), some (.int 0), some (.int ((u.1 3 3) - 1))] [] u (QI (fun r1 u1 => (narrow .boolean (.int r1) = .int r1 ∧ Q (some (.int r1)) u1)))) : Go g iX11_isCart 0 [some (.ref (gd g 0)), some (.int x1)] [] u Q := by
  refine go_iload_n dX11_isCart_0 rfl rfl ?_
  refine go_iconst (v := 0) dX11_isCart_1 (by decide) ?_
  refine go_aload_n dX11_isCart_2 rfl rfl ?_
  refine go_get (k := 4) (v := .ref (gd g 3)) dX11_isCart_3 ob_0 (by decide) qf_X11_44 rfl ?_
  refine go_get (k := 3) (v := .int (u.1 3 3)) dX11_isCart_6 ob_3 (by decide) qf_X11_194 rfl ?_
  refine go_iconst (v := 1) dX11_isCart_9 (by decide) ?_
  refine go_isub dX11_isCart_10 ?_
  refine go_cSi (As := [.int x1, .int 0, .int ((u.1 3 3) - 1)]) (st := []) (lc := [some (.int x1), some (.int 0), some (.int ((u.1 3 3) - 1))]) dX11_isCart_11 me_X11_within qm_X11_96 rfl (Nat.le_of_ble_eq_true rfl) rfl ⟨Nat.le_of_ble_eq_true rfl, Nat.le_of_ble_eq_true rfl⟩ rfl (Nat.le_of_ble_eq_true rfl) h (fun r1 u1 h => ?_)
  exact go_zret dX11_isCart_14 rfl h.1 h.2
set_option maxRecDepth 100000 in
set_option maxHeartbeats 4000000 in
theorem B_X11_isPass_0 {g : gp} {u : sg} {Q : Option Value → sg → Prop} (x1 : Int32) (h : Go g iX11_within 0 [some (.int x1), some (.int 0), some (.int ((u.1 6 3) - 1))] [] u (QI (fun r1 u1 => (narrow .boolean (.int r1) = .int r1 ∧ Q (some (.int r1)) u1)))) : Go g iX11_isPass 0 [some (.ref (gd g 0)), some (.int x1)] [] u Q := by
  refine go_iload_n dX11_isPass_0 rfl rfl ?_
  refine go_iconst (v := 0) dX11_isPass_1 (by decide) ?_
  refine go_aload_n dX11_isPass_2 rfl rfl ?_
  refine go_get (k := 5) (v := .ref (gd g 6)) dX11_isPass_3 ob_0 (by decide) qf_X11_51 rfl ?_
  refine go_get (k := 3) (v := .int (u.1 6 3)) dX11_isPass_6 ob_6 (by decide) qf_X11_255 rfl ?_
  refine go_iconst (v := 1) dX11_isPass_9 (by decide) ?_
  refine go_isub dX11_isPass_10 ?_
  refine go_cSi (As := [.int x1, .int 0, .int ((u.1 6 3) - 1)]) (st := []) (lc := [some (.int x1), some (.int 0), some (.int ((u.1 6 3) - 1))]) dX11_isPass_11 me_X11_within qm_X11_96 rfl (Nat.le_of_ble_eq_true rfl) rfl ⟨Nat.le_of_ble_eq_true rfl, Nat.le_of_ble_eq_true rfl⟩ rfl (Nat.le_of_ble_eq_true rfl) h (fun r1 u1 h => ?_)
  exact go_zret dX11_isPass_14 rfl h.1 h.2
set_option maxRecDepth 100000 in
set_option maxHeartbeats 4000000 in
theorem B_X11_isSheet_0 {g : gp} {u : sg} {Q : Option Value → sg → Prop} (x0 : Int32) (h : Go g iX11_within 0 [some (.int x0), some (.int 0), some (.int 7)] [] u (QI (fun r1 u1 => (narrow .boolean (.int r1) = .int r1 ∧ Q (some (.int r1)) u1)))) : Go g iX11_isSheet 0 [some (.int x0)] [] u Q := by
  refine go_iload_n dX11_isSheet_0 rfl rfl ?_
  refine go_iconst (v := 0) dX11_isSheet_1 (by decide) ?_
  refine go_bipush (v := 7) dX11_isSheet_2 (by decide) ?_
  refine go_cSi (As := [.int x0, .int 0, .int 7]) (st := []) (lc := [some (.int x0), some (.int 0), some (.int 7)]) dX11_isSheet_4 me_X11_within qm_X11_96 rfl (Nat.le_of_ble_eq_true rfl) rfl ⟨Nat.le_of_ble_eq_true rfl, Nat.le_of_ble_eq_true rfl⟩ rfl (Nat.le_of_ble_eq_true rfl) h (fun r1 u1 h => ?_)
  exact go_zret dX11_isSheet_7 rfl h.1 h.2
set_option maxRecDepth 100000 in
set_option maxHeartbeats 4000000 in
theorem B_X11_isGate_0 {g : gp} {u : sg} {Q : Option Value → sg → Prop} (x0 : Int32) (h : Go g iX11_within 0 [some (.int x0), some (.int 0), some (.int 8)] [] u (QI (fun r1 u1 => (narrow .boolean (.int r1) = .int r1 ∧ Q (some (.int r1)) u1)))) : Go g iX11_isGate 0 [some (.int x0)] [] u Q := by
  refine go_iload_n dX11_isGate_0 rfl rfl ?_
  refine go_iconst (v := 0) dX11_isGate_1 (by decide) ?_
  refine go_bipush (v := 8) dX11_isGate_2 (by decide) ?_
  refine go_cSi (As := [.int x0, .int 0, .int 8]) (st := []) (lc := [some (.int x0), some (.int 0), some (.int 8)]) dX11_isGate_4 me_X11_within qm_X11_96 rfl (Nat.le_of_ble_eq_true rfl) rfl ⟨Nat.le_of_ble_eq_true rfl, Nat.le_of_ble_eq_true rfl⟩ rfl (Nat.le_of_ble_eq_true rfl) h (fun r1 u1 h => ?_)
  exact go_zret dX11_isGate_7 rfl h.1 h.2
set_option maxRecDepth 100000 in
set_option maxHeartbeats 4000000 in
theorem B_X11_isTown_0 {g : gp} {u : sg} {Q : Option Value → sg → Prop} (x0 : Int32) (h : Go g iX11_within 0 [some (.int x0), some (.int 0), some (.int 7)] [] u (QI (fun r1 u1 => (narrow .boolean (.int r1) = .int r1 ∧ Q (some (.int r1)) u1)))) : Go g iX11_isTown 0 [some (.int x0)] [] u Q := by
  refine go_iload_n dX11_isTown_0 rfl rfl ?_
  refine go_iconst (v := 0) dX11_isTown_1 (by decide) ?_
  refine go_bipush (v := 7) dX11_isTown_2 (by decide) ?_
  refine go_cSi (As := [.int x0, .int 0, .int 7]) (st := []) (lc := [some (.int x0), some (.int 0), some (.int 7)]) dX11_isTown_4 me_X11_within qm_X11_96 rfl (Nat.le_of_ble_eq_true rfl) rfl ⟨Nat.le_of_ble_eq_true rfl, Nat.le_of_ble_eq_true rfl⟩ rfl (Nat.le_of_ble_eq_true rfl) h (fun r1 u1 h => ?_)
  exact go_zret dX11_isTown_7 rfl h.1 h.2
set_option maxRecDepth 100000 in
set_option maxHeartbeats 4000000 in
theorem B_X11_isPerson_0 {g : gp} {u : sg} {Q : Option Value → sg → Prop} (x0 : Int32) (h : Go g iX11_within 0 [some (.int x0), some (.int 0), some (.int 11)] [] u (QI (fun r1 u1 => (narrow .boolean (.int r1) = .int r1 ∧ Q (some (.int r1)) u1)))) : Go g iX11_isPerson 0 [some (.int x0)] [] u Q := by
  refine go_iload_n dX11_isPerson_0 rfl rfl ?_
  refine go_iconst (v := 0) dX11_isPerson_1 (by decide) ?_
  refine go_bipush (v := 11) dX11_isPerson_2 (by decide) ?_
  refine go_cSi (As := [.int x0, .int 0, .int 11]) (st := []) (lc := [some (.int x0), some (.int 0), some (.int 11)]) dX11_isPerson_4 me_X11_within qm_X11_96 rfl (Nat.le_of_ble_eq_true rfl) rfl ⟨Nat.le_of_ble_eq_true rfl, Nat.le_of_ble_eq_true rfl⟩ rfl (Nat.le_of_ble_eq_true rfl) h (fun r1 u1 h => ?_)
  exact go_zret dX11_isPerson_7 rfl h.1 h.2
set_option maxRecDepth 100000 in
set_option maxHeartbeats 4000000 in
theorem B_X11_isHouse_0 {g : gp} {u : sg} {Q : Option Value → sg → Prop} (x0 : Int32) (h : Go g iX11_within 0 [some (.int x0), some (.int 0), some (.int 7)] [] u (QI (fun r1 u1 => (narrow .boolean (.int r1) = .int r1 ∧ Q (some (.int r1)) u1)))) : Go g iX11_isHouse 0 [some (.int x0)] [] u Q := by
  refine go_iload_n dX11_isHouse_0 rfl rfl ?_
  refine go_iconst (v := 0) dX11_isHouse_1 (by decide) ?_
  refine go_bipush (v := 7) dX11_isHouse_2 (by decide) ?_
  refine go_cSi (As := [.int x0, .int 0, .int 7]) (st := []) (lc := [some (.int x0), some (.int 0), some (.int 7)]) dX11_isHouse_4 me_X11_within qm_X11_96 rfl (Nat.le_of_ble_eq_true rfl) rfl ⟨Nat.le_of_ble_eq_true rfl, Nat.le_of_ble_eq_true rfl⟩ rfl (Nat.le_of_ble_eq_true rfl) h (fun r1 u1 h => ?_)
  exact go_zret dX11_isHouse_7 rfl h.1 h.2
set_option maxRecDepth 100000 in
set_option maxHeartbeats 4000000 in
theorem B_X11_isLength_0 {g : gp} {u : sg} {Q : Option Value → sg → Prop} (x0 : Int32) (h : Go g iX11_within 0 [some (.int x0), some (.int 0), some (.int 11)] [] u (QI (fun r1 u1 => (narrow .boolean (.int r1) = .int r1 ∧ Q (some (.int r1)) u1)))) : Go g iX11_isLength 0 [some (.int x0)] [] u Q := by
  refine go_iload_n dX11_isLength_0 rfl rfl ?_
  refine go_iconst (v := 0) dX11_isLength_1 (by decide) ?_
  refine go_bipush (v := 11) dX11_isLength_2 (by decide) ?_
  refine go_cSi (As := [.int x0, .int 0, .int 11]) (st := []) (lc := [some (.int x0), some (.int 0), some (.int 11)]) dX11_isLength_4 me_X11_within qm_X11_96 rfl (Nat.le_of_ble_eq_true rfl) rfl ⟨Nat.le_of_ble_eq_true rfl, Nat.le_of_ble_eq_true rfl⟩ rfl (Nat.le_of_ble_eq_true rfl) h (fun r1 u1 h => ?_)
  exact go_zret dX11_isLength_7 rfl h.1 h.2
set_option maxRecDepth 100000 in
set_option maxHeartbeats 4000000 in
theorem B_X11_isDay_0 {g : gp} {u : sg} {Q : Option Value → sg → Prop} (x0 : Int32) (h : Go g iX11_within 0 [some (.int x0), some (.int 0), some (.int 999)] [] u (QI (fun r1 u1 => (narrow .boolean (.int r1) = .int r1 ∧ Q (some (.int r1)) u1)))) : Go g iX11_isDay 0 [some (.int x0)] [] u Q := by
  refine go_iload_n dX11_isDay_0 rfl rfl ?_
  refine go_iconst (v := 0) dX11_isDay_1 (by decide) ?_
  refine go_sipush (v := 999) dX11_isDay_2 (by decide) ?_
  refine go_cSi (As := [.int x0, .int 0, .int 999]) (st := []) (lc := [some (.int x0), some (.int 0), some (.int 999)]) dX11_isDay_5 me_X11_within qm_X11_96 rfl (Nat.le_of_ble_eq_true rfl) rfl ⟨Nat.le_of_ble_eq_true rfl, Nat.le_of_ble_eq_true rfl⟩ rfl (Nat.le_of_ble_eq_true rfl) h (fun r1 u1 h => ?_)
  exact go_zret dX11_isDay_8 rfl h.1 h.2
set_option maxRecDepth 100000 in
set_option maxHeartbeats 4000000 in
theorem B_X11_areDays_0 {g : gp} {u : sg} {Q : Option Value → sg → Prop} (x0 : Int32) (x1 : Int32) (h : Go g iX11_isDay 0 [some (.int x0)] [] u (QI (fun r1 u1 => ((r1 = (0 : Int32) → Q (some (.int (0 : Int32))) u1) ∧ (¬ r1 = (0 : Int32) → Go g iX11_isDay 0 [some (.int x1)] [] u1 (QI (fun r2 u2 => ((r2 = (0 : Int32) → Q (some (.int (0 : Int32))) u2) ∧ (¬ r2 = (0 : Int32) → ((x1 < x0 → Q (some (.int (0 : Int32))) u2) ∧ (¬ x1 < x0 → Q (some (.int (1 : Int32))) u2))))))))))) : Go g iX11_areDays 0 [some (.int x0), some (.int x1)] [] u Q := by
  refine go_iload_n dX11_areDays_0 rfl rfl ?_
  refine go_cSi (As := [.int x0]) (st := []) (lc := [some (.int x0)]) dX11_areDays_1 me_X11_isDay qm_X11_184 rfl (Nat.le_of_ble_eq_true rfl) rfl ⟨Nat.le_of_ble_eq_true rfl, Nat.le_of_ble_eq_true rfl⟩ rfl (Nat.le_of_ble_eq_true rfl) h (fun r1 u1 h => ?_)
  refine go_if_eq (tgt := 23) dX11_areDays_4 (by decide) (fun hc => ?_) (fun hc => ?_)
  · replace h := h.1 hc
    refine go_iconst (v := 0) dX11_areDays_23 (by decide) ?_
    exact go_zret dX11_areDays_24 rfl (by decide) h
  · replace h := h.2 hc
    refine go_iload_n dX11_areDays_7 rfl rfl ?_
    refine go_cSi (As := [.int x1]) (st := []) (lc := [some (.int x1)]) dX11_areDays_8 me_X11_isDay qm_X11_184 rfl (Nat.le_of_ble_eq_true rfl) rfl ⟨Nat.le_of_ble_eq_true rfl, Nat.le_of_ble_eq_true rfl⟩ rfl (Nat.le_of_ble_eq_true rfl) h (fun r2 u2 h => ?_)
    refine go_if_eq (tgt := 23) dX11_areDays_11 (by decide) (fun hc => ?_) (fun hc => ?_)
    · replace h := h.1 hc
      refine go_iconst (v := 0) dX11_areDays_23 (by decide) ?_
      exact go_zret dX11_areDays_24 rfl (by decide) h
    · replace h := h.2 hc
      refine go_iload_n dX11_areDays_14 rfl rfl ?_
      refine go_iload_n dX11_areDays_15 rfl rfl ?_
      refine go_icmp_gt (tgt := 23) dX11_areDays_16 (by decide) (fun hc => ?_) (fun hc => ?_)
      · replace h := h.1 hc
        refine go_iconst (v := 0) dX11_areDays_23 (by decide) ?_
        exact go_zret dX11_areDays_24 rfl (by decide) h
      · replace h := h.2 hc
        refine go_iconst (v := 1) dX11_areDays_19 (by decide) ?_
        refine go_goto (tgt := 24) dX11_areDays_20 (by decide) ?_
        exact go_zret dX11_areDays_24 rfl (by decide) h
set_option maxRecDepth 100000 in
set_option maxHeartbeats 4000000 in
theorem B_X11_isMinute_0 {g : gp} {u : sg} {Q : Option Value → sg → Prop} (x0 : Int32) (h : Go g iX11_within 0 [some (.int x0), some (.int 0), some (.int 1439)] [] u (QI (fun r1 u1 => (narrow .boolean (.int r1) = .int r1 ∧ Q (some (.int r1)) u1)))) : Go g iX11_isMinute 0 [some (.int x0)] [] u Q := by
  refine go_iload_n dX11_isMinute_0 rfl rfl ?_
  refine go_iconst (v := 0) dX11_isMinute_1 (by decide) ?_
  refine go_sipush (v := 1439) dX11_isMinute_2 (by decide) ?_
  refine go_cSi (As := [.int x0, .int 0, .int 1439]) (st := []) (lc := [some (.int x0), some (.int 0), some (.int 1439)]) dX11_isMinute_5 me_X11_within qm_X11_96 rfl (Nat.le_of_ble_eq_true rfl) rfl ⟨Nat.le_of_ble_eq_true rfl, Nat.le_of_ble_eq_true rfl⟩ rfl (Nat.le_of_ble_eq_true rfl) h (fun r1 u1 h => ?_)
  exact go_zret dX11_isMinute_8 rfl h.1 h.2
set_option maxRecDepth 100000 in
set_option maxHeartbeats 4000000 in
theorem B_X11_isPlace_0 {g : gp} {u : sg} {Q : Option Value → sg → Prop} (x0 : Int32) (x1 : Int32) (h : Go g iX11_within 0 [some (.int x0), some (.int 0), some (.int 999)] [] u (QI (fun r1 u1 => ((r1 = (0 : Int32) → Q (some (.int (0 : Int32))) u1) ∧ (¬ r1 = (0 : Int32) → Go g iX11_within 0 [some (.int x1), some (.int 0), some (.int 999)] [] u1 (QI (fun r2 u2 => ((r2 = (0 : Int32) → Q (some (.int (0 : Int32))) u2) ∧ (¬ r2 = (0 : Int32) → Q (some (.int (1 : Int32))) u2))))))))) : Go g iX11_isPlace 0 [some (.int x0), some (.int x1)] [] u Q := by
  refine go_iload_n dX11_isPlace_0 rfl rfl ?_
  refine go_iconst (v := 0) dX11_isPlace_1 (by decide) ?_
  refine go_sipush (v := 999) dX11_isPlace_2 (by decide) ?_
  refine go_cSi (As := [.int x0, .int 0, .int 999]) (st := []) (lc := [some (.int x0), some (.int 0), some (.int 999)]) dX11_isPlace_5 me_X11_within qm_X11_96 rfl (Nat.le_of_ble_eq_true rfl) rfl ⟨Nat.le_of_ble_eq_true rfl, Nat.le_of_ble_eq_true rfl⟩ rfl (Nat.le_of_ble_eq_true rfl) h (fun r1 u1 h => ?_)
  refine go_if_eq (tgt := 26) dX11_isPlace_8 (by decide) (fun hc => ?_) (fun hc => ?_)
  · replace h := h.1 hc
    refine go_iconst (v := 0) dX11_isPlace_26 (by decide) ?_
    exact go_zret dX11_isPlace_27 rfl (by decide) h
  · replace h := h.2 hc
    refine go_iload_n dX11_isPlace_11 rfl rfl ?_
    refine go_iconst (v := 0) dX11_isPlace_12 (by decide) ?_
    refine go_sipush (v := 999) dX11_isPlace_13 (by decide) ?_
    refine go_cSi (As := [.int x1, .int 0, .int 999]) (st := []) (lc := [some (.int x1), some (.int 0), some (.int 999)]) dX11_isPlace_16 me_X11_within qm_X11_96 rfl (Nat.le_of_ble_eq_true rfl) rfl ⟨Nat.le_of_ble_eq_true rfl, Nat.le_of_ble_eq_true rfl⟩ rfl (Nat.le_of_ble_eq_true rfl) h (fun r2 u2 h => ?_)
    refine go_if_eq (tgt := 26) dX11_isPlace_19 (by decide) (fun hc => ?_) (fun hc => ?_)
    · replace h := h.1 hc
      refine go_iconst (v := 0) dX11_isPlace_26 (by decide) ?_
      exact go_zret dX11_isPlace_27 rfl (by decide) h
    · replace h := h.2 hc
      refine go_iconst (v := 1) dX11_isPlace_22 (by decide) ?_
      refine go_goto (tgt := 27) dX11_isPlace_23 (by decide) ?_
      exact go_zret dX11_isPlace_27 rfl (by decide) h
set_option maxRecDepth 100000 in
set_option maxHeartbeats 4000000 in
theorem B_X11_within_0 {g : gp} {u : sg} {Q : Option Value → sg → Prop} (x0 : Int32) (x1 : Int32) (x2 : Int32) (h : ((x0 < x1 → Q (some (.int (0 : Int32))) u) ∧ (¬ x0 < x1 → ((x2 < x0 → Q (some (.int (0 : Int32))) u) ∧ (¬ x2 < x0 → Q (some (.int (1 : Int32))) u))))) : Go g iX11_within 0 [some (.int x0), some (.int x1), some (.int x2)] [] u Q := by
  refine go_iload_n dX11_within_0 rfl rfl ?_
  refine go_iload_n dX11_within_1 rfl rfl ?_
  refine go_icmp_lt (tgt := 14) dX11_within_2 (by decide) (fun hc => ?_) (fun hc => ?_)
  · replace h := h.1 hc
    refine go_iconst (v := 0) dX11_within_14 (by decide) ?_
    exact go_zret dX11_within_15 rfl (by decide) h
  · replace h := h.2 hc
    refine go_iload_n dX11_within_5 rfl rfl ?_
    refine go_iload_n dX11_within_6 rfl rfl ?_
    refine go_icmp_gt (tgt := 14) dX11_within_7 (by decide) (fun hc => ?_) (fun hc => ?_)
    · replace h := h.1 hc
      refine go_iconst (v := 0) dX11_within_14 (by decide) ?_
      exact go_zret dX11_within_15 rfl (by decide) h
    · replace h := h.2 hc
      refine go_iconst (v := 1) dX11_within_10 (by decide) ?_
      refine go_goto (tgt := 15) dX11_within_11 (by decide) ?_
      exact go_zret dX11_within_15 rfl (by decide) h
