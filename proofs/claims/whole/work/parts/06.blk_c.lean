theorem dX0_sizeOf_0 : decode cX0_sizeOf 0 = .ok (.iload_n 2, 1) := by decide +kernel
theorem dX0_sizeOf_1 : decode cX0_sizeOf 1 = .ok (.tableswitch 56 1 4 #[31, 37, 44, 50], 31) := by decide +kernel
theorem dX0_sizeOf_32 : decode cX0_sizeOf 32 = .ok (.aload_n 0, 1) := by decide +kernel
theorem dX0_sizeOf_33 : decode cX0_sizeOf 33 = .ok (.iload_n 1, 1) := by decide +kernel
theorem dX0_sizeOf_34 : decode cX0_sizeOf 34 = .ok (.invokevirtual 17, 3) := by decide +kernel
theorem dX0_sizeOf_37 : decode cX0_sizeOf 37 = .ok (.ireturn, 1) := by decide +kernel
theorem dX0_sizeOf_38 : decode cX0_sizeOf 38 = .ok (.aload_n 0, 1) := by decide +kernel
theorem dX0_sizeOf_39 : decode cX0_sizeOf 39 = .ok (.iload_n 1, 1) := by decide +kernel
theorem dX0_sizeOf_40 : decode cX0_sizeOf 40 = .ok (.iconst 0, 1) := by decide +kernel
theorem dX0_sizeOf_41 : decode cX0_sizeOf 41 = .ok (.invokevirtual 21, 3) := by decide +kernel
theorem dX0_sizeOf_44 : decode cX0_sizeOf 44 = .ok (.ireturn, 1) := by decide +kernel
theorem dX0_sizeOf_45 : decode cX0_sizeOf 45 = .ok (.aload_n 0, 1) := by decide +kernel
theorem dX0_sizeOf_46 : decode cX0_sizeOf 46 = .ok (.iload_n 1, 1) := by decide +kernel
theorem dX0_sizeOf_47 : decode cX0_sizeOf 47 = .ok (.invokevirtual 25, 3) := by decide +kernel
theorem dX0_sizeOf_50 : decode cX0_sizeOf 50 = .ok (.ireturn, 1) := by decide +kernel
theorem dX0_sizeOf_51 : decode cX0_sizeOf 51 = .ok (.aload_n 0, 1) := by decide +kernel
theorem dX0_sizeOf_52 : decode cX0_sizeOf 52 = .ok (.iload_n 1, 1) := by decide +kernel
theorem dX0_sizeOf_53 : decode cX0_sizeOf 53 = .ok (.invokevirtual 28, 3) := by decide +kernel
theorem dX0_sizeOf_56 : decode cX0_sizeOf 56 = .ok (.ireturn, 1) := by decide +kernel
theorem dX0_sizeOf_57 : decode cX0_sizeOf 57 = .ok (.aload_n 0, 1) := by decide +kernel
theorem dX0_sizeOf_58 : decode cX0_sizeOf 58 = .ok (.iload_n 1, 1) := by decide +kernel
theorem dX0_sizeOf_59 : decode cX0_sizeOf 59 = .ok (.invokevirtual 31, 3) := by decide +kernel
theorem dX0_sizeOf_62 : decode cX0_sizeOf 62 = .ok (.ireturn, 1) := by decide +kernel
theorem dX0_markOf_0 : decode cX0_markOf 0 = .ok (.iload_n 2, 1) := by decide +kernel
theorem dX0_markOf_1 : decode cX0_markOf 1 = .ok (.tableswitch 45 2 4 #[27, 33, 39], 27) := by decide +kernel
theorem dX0_markOf_28 : decode cX0_markOf 28 = .ok (.aload_n 0, 1) := by decide +kernel
theorem dX0_markOf_29 : decode cX0_markOf 29 = .ok (.iload_n 1, 1) := by decide +kernel
theorem dX0_markOf_30 : decode cX0_markOf 30 = .ok (.invokevirtual 34, 3) := by decide +kernel
theorem dX0_markOf_33 : decode cX0_markOf 33 = .ok (.ireturn, 1) := by decide +kernel
theorem dX0_markOf_34 : decode cX0_markOf 34 = .ok (.aload_n 0, 1) := by decide +kernel
theorem dX0_markOf_35 : decode cX0_markOf 35 = .ok (.iload_n 1, 1) := by decide +kernel
theorem dX0_markOf_36 : decode cX0_markOf 36 = .ok (.invokevirtual 37, 3) := by decide +kernel
theorem dX0_markOf_39 : decode cX0_markOf 39 = .ok (.ireturn, 1) := by decide +kernel
theorem dX0_markOf_40 : decode cX0_markOf 40 = .ok (.aload_n 0, 1) := by decide +kernel
theorem dX0_markOf_41 : decode cX0_markOf 41 = .ok (.iload_n 1, 1) := by decide +kernel
theorem dX0_markOf_42 : decode cX0_markOf 42 = .ok (.invokevirtual 40, 3) := by decide +kernel
theorem dX0_markOf_45 : decode cX0_markOf 45 = .ok (.ireturn, 1) := by decide +kernel
theorem dX0_markOf_46 : decode cX0_markOf 46 = .ok (.aload_n 0, 1) := by decide +kernel
theorem dX0_markOf_47 : decode cX0_markOf 47 = .ok (.iload_n 1, 1) := by decide +kernel
theorem dX0_markOf_48 : decode cX0_markOf 48 = .ok (.invokevirtual 43, 3) := by decide +kernel
theorem dX0_markOf_51 : decode cX0_markOf 51 = .ok (.ireturn, 1) := by decide +kernel
theorem dX0_lentSize_0 : decode cX0_lentSize 0 = .ok (.aload_n 0, 1) := by decide +kernel
theorem dX0_lentSize_1 : decode cX0_lentSize 1 = .ok (.bipush 10, 2) := by decide +kernel
theorem dX0_lentSize_3 : decode cX0_lentSize 3 = .ok (.invokevirtual 46, 3) := by decide +kernel
theorem dX0_lentSize_6 : decode cX0_lentSize 6 = .ok (.aload_n 0, 1) := by decide +kernel
theorem dX0_lentSize_7 : decode cX0_lentSize 7 = .ok (.getfield 13, 3) := by decide +kernel
theorem dX0_lentSize_10 : decode cX0_lentSize 10 = .ok (.iload_n 1, 1) := by decide +kernel
theorem dX0_lentSize_11 : decode cX0_lentSize 11 = .ok (.bipush 6, 2) := by decide +kernel
theorem dX0_lentSize_13 : decode cX0_lentSize 13 = .ok (.invokevirtual 52, 3) := by decide +kernel
theorem dX0_lentSize_16 : decode cX0_lentSize 16 = .ok (.aload_n 0, 1) := by decide +kernel
theorem dX0_lentSize_17 : decode cX0_lentSize 17 = .ok (.getfield 13, 3) := by decide +kernel
theorem dX0_lentSize_20 : decode cX0_lentSize 20 = .ok (.iload_n 1, 1) := by decide +kernel
theorem dX0_lentSize_21 : decode cX0_lentSize 21 = .ok (.iconst 5, 1) := by decide +kernel
theorem dX0_lentSize_22 : decode cX0_lentSize 22 = .ok (.invokevirtual 52, 3) := by decide +kernel
theorem dX0_lentSize_25 : decode cX0_lentSize 25 = .ok (.isub, 1) := by decide +kernel
theorem dX0_lentSize_26 : decode cX0_lentSize 26 = .ok (.ireturn, 1) := by decide +kernel
theorem dX0_tollSize_0 : decode cX0_tollSize 0 = .ok (.aload_n 0, 1) := by decide +kernel
theorem dX0_tollSize_1 : decode cX0_tollSize 1 = .ok (.bipush 11, 2) := by decide +kernel
theorem dX0_tollSize_3 : decode cX0_tollSize 3 = .ok (.invokevirtual 46, 3) := by decide +kernel
theorem dX0_tollSize_6 : decode cX0_tollSize 6 = .ok (.iconst 2, 1) := by decide +kernel
theorem dX0_tollSize_7 : decode cX0_tollSize 7 = .ok (.aload_n 0, 1) := by decide +kernel
theorem dX0_tollSize_8 : decode cX0_tollSize 8 = .ok (.iload_n 1, 1) := by decide +kernel
theorem dX0_tollSize_9 : decode cX0_tollSize 9 = .ok (.invokevirtual 31, 3) := by decide +kernel
theorem dX0_tollSize_12 : decode cX0_tollSize 12 = .ok (.imul, 1) := by decide +kernel
theorem dX0_tollSize_13 : decode cX0_tollSize 13 = .ok (.ireturn, 1) := by decide +kernel
theorem dX0_healthSize_0 : decode cX0_healthSize 0 = .ok (.aload_n 0, 1) := by decide +kernel
theorem dX0_healthSize_1 : decode cX0_healthSize 1 = .ok (.bipush 12, 2) := by decide +kernel
theorem dX0_healthSize_3 : decode cX0_healthSize 3 = .ok (.invokevirtual 46, 3) := by decide +kernel
theorem dX0_healthSize_6 : decode cX0_healthSize 6 = .ok (.aload_n 0, 1) := by decide +kernel
theorem dX0_healthSize_7 : decode cX0_healthSize 7 = .ok (.iload_n 1, 1) := by decide +kernel
theorem dX0_healthSize_8 : decode cX0_healthSize 8 = .ok (.invokevirtual 31, 3) := by decide +kernel
theorem dX0_healthSize_11 : decode cX0_healthSize 11 = .ok (.istore_n 3, 1) := by decide +kernel
theorem dX0_healthSize_12 : decode cX0_healthSize 12 = .ok (.iload_n 3, 1) := by decide +kernel
theorem dX0_healthSize_13 : decode cX0_healthSize 13 = .ok (.iload_n 2, 1) := by decide +kernel
theorem dX0_healthSize_14 : decode cX0_healthSize 14 = .ok (.ifCond .eq 11, 3) := by decide +kernel
theorem dX0_healthSize_17 : decode cX0_healthSize 17 = .ok (.aload_n 0, 1) := by decide +kernel
theorem dX0_healthSize_18 : decode cX0_healthSize 18 = .ok (.iload_n 1, 1) := by decide +kernel
theorem dX0_healthSize_19 : decode cX0_healthSize 19 = .ok (.invokevirtual 37, 3) := by decide +kernel
theorem dX0_healthSize_22 : decode cX0_healthSize 22 = .ok (.goto 8, 3) := by decide +kernel
theorem dX0_healthSize_25 : decode cX0_healthSize 25 = .ok (.aload_n 0, 1) := by decide +kernel
theorem dX0_healthSize_26 : decode cX0_healthSize 26 = .ok (.iload_n 1, 1) := by decide +kernel
theorem dX0_healthSize_27 : decode cX0_healthSize 27 = .ok (.invokevirtual 34, 3) := by decide +kernel
theorem dX0_healthSize_30 : decode cX0_healthSize 30 = .ok (.iadd, 1) := by decide +kernel
theorem dX0_healthSize_31 : decode cX0_healthSize 31 = .ok (.ireturn, 1) := by decide +kernel
theorem dX0_forgedSize_0 : decode cX0_forgedSize 0 = .ok (.aload_n 0, 1) := by decide +kernel
theorem dX0_forgedSize_1 : decode cX0_forgedSize 1 = .ok (.bipush 13, 2) := by decide +kernel
theorem dX0_forgedSize_3 : decode cX0_forgedSize 3 = .ok (.invokevirtual 46, 3) := by decide +kernel
theorem dX0_forgedSize_6 : decode cX0_forgedSize 6 = .ok (.aload_n 0, 1) := by decide +kernel
theorem dX0_forgedSize_7 : decode cX0_forgedSize 7 = .ok (.iload_n 1, 1) := by decide +kernel
theorem dX0_forgedSize_8 : decode cX0_forgedSize 8 = .ok (.iconst 1, 1) := by decide +kernel
theorem dX0_forgedSize_9 : decode cX0_forgedSize 9 = .ok (.invokevirtual 21, 3) := by decide +kernel
theorem dX0_forgedSize_12 : decode cX0_forgedSize 12 = .ok (.ineg, 1) := by decide +kernel
theorem dX0_forgedSize_13 : decode cX0_forgedSize 13 = .ok (.ireturn, 1) := by decide +kernel
theorem dX0_nightSize_0 : decode cX0_nightSize 0 = .ok (.aload_n 0, 1) := by decide +kernel
theorem dX0_nightSize_1 : decode cX0_nightSize 1 = .ok (.bipush 14, 2) := by decide +kernel
theorem dX0_nightSize_3 : decode cX0_nightSize 3 = .ok (.invokevirtual 46, 3) := by decide +kernel
theorem dX0_nightSize_6 : decode cX0_nightSize 6 = .ok (.aload_n 0, 1) := by decide +kernel
theorem dX0_nightSize_7 : decode cX0_nightSize 7 = .ok (.iload_n 1, 1) := by decide +kernel
theorem dX0_nightSize_8 : decode cX0_nightSize 8 = .ok (.invokevirtual 31, 3) := by decide +kernel
theorem dX0_nightSize_11 : decode cX0_nightSize 11 = .ok (.aload_n 0, 1) := by decide +kernel
theorem dX0_nightSize_12 : decode cX0_nightSize 12 = .ok (.getfield 13, 3) := by decide +kernel
theorem dX0_nightSize_15 : decode cX0_nightSize 15 = .ok (.iload_n 1, 1) := by decide +kernel
theorem dX0_nightSize_16 : decode cX0_nightSize 16 = .ok (.iconst 1, 1) := by decide +kernel
theorem dX0_nightSize_17 : decode cX0_nightSize 17 = .ok (.invokevirtual 52, 3) := by decide +kernel
theorem dX0_nightSize_20 : decode cX0_nightSize 20 = .ok (.iadd, 1) := by decide +kernel
theorem dX0_nightSize_21 : decode cX0_nightSize 21 = .ok (.ireturn, 1) := by decide +kernel
theorem dX0_lentMark_0 : decode cX0_lentMark 0 = .ok (.aload_n 0, 1) := by decide +kernel
theorem dX0_lentMark_1 : decode cX0_lentMark 1 = .ok (.bipush 20, 2) := by decide +kernel
theorem dX0_lentMark_3 : decode cX0_lentMark 3 = .ok (.invokevirtual 46, 3) := by decide +kernel
theorem dX0_lentMark_6 : decode cX0_lentMark 6 = .ok (.aload_n 0, 1) := by decide +kernel
theorem dX0_lentMark_7 : decode cX0_lentMark 7 = .ok (.getfield 13, 3) := by decide +kernel
theorem dX0_lentMark_10 : decode cX0_lentMark 10 = .ok (.iload_n 1, 1) := by decide +kernel
theorem dX0_lentMark_11 : decode cX0_lentMark 11 = .ok (.iconst 2, 1) := by decide +kernel
theorem dX0_lentMark_12 : decode cX0_lentMark 12 = .ok (.invokevirtual 52, 3) := by decide +kernel
theorem dX0_lentMark_15 : decode cX0_lentMark 15 = .ok (.ireturn, 1) := by decide +kernel
theorem dX0_healthMark_0 : decode cX0_healthMark 0 = .ok (.aload_n 0, 1) := by decide +kernel
theorem dX0_healthMark_1 : decode cX0_healthMark 1 = .ok (.bipush 21, 2) := by decide +kernel
theorem dX0_healthMark_3 : decode cX0_healthMark 3 = .ok (.invokevirtual 46, 3) := by decide +kernel
theorem dX0_healthMark_6 : decode cX0_healthMark 6 = .ok (.aload_n 0, 1) := by decide +kernel
theorem dX0_healthMark_7 : decode cX0_healthMark 7 = .ok (.iload_n 1, 1) := by decide +kernel
theorem dX0_healthMark_8 : decode cX0_healthMark 8 = .ok (.invokevirtual 43, 3) := by decide +kernel
theorem dX0_healthMark_11 : decode cX0_healthMark 11 = .ok (.bipush 100, 2) := by decide +kernel
theorem dX0_healthMark_13 : decode cX0_healthMark 13 = .ok (.aload_n 0, 1) := by decide +kernel
theorem dX0_healthMark_14 : decode cX0_healthMark 14 = .ok (.getfield 13, 3) := by decide +kernel
theorem dX0_healthMark_17 : decode cX0_healthMark 17 = .ok (.iload_n 1, 1) := by decide +kernel
theorem dX0_healthMark_18 : decode cX0_healthMark 18 = .ok (.iconst 4, 1) := by decide +kernel
theorem dX0_healthMark_19 : decode cX0_healthMark 19 = .ok (.invokevirtual 52, 3) := by decide +kernel
theorem dX0_healthMark_22 : decode cX0_healthMark 22 = .ok (.imul, 1) := by decide +kernel
theorem dX0_healthMark_23 : decode cX0_healthMark 23 = .ok (.iadd, 1) := by decide +kernel
theorem dX0_healthMark_24 : decode cX0_healthMark 24 = .ok (.ireturn, 1) := by decide +kernel
theorem dX0_forgedMark_0 : decode cX0_forgedMark 0 = .ok (.aload_n 0, 1) := by decide +kernel
theorem dX0_forgedMark_1 : decode cX0_forgedMark 1 = .ok (.bipush 22, 2) := by decide +kernel
theorem dX0_forgedMark_3 : decode cX0_forgedMark 3 = .ok (.invokevirtual 46, 3) := by decide +kernel
theorem dX0_forgedMark_6 : decode cX0_forgedMark 6 = .ok (.aload_n 0, 1) := by decide +kernel
theorem dX0_forgedMark_7 : decode cX0_forgedMark 7 = .ok (.iload_n 1, 1) := by decide +kernel
theorem dX0_forgedMark_8 : decode cX0_forgedMark 8 = .ok (.invokevirtual 34, 3) := by decide +kernel
theorem dX0_forgedMark_11 : decode cX0_forgedMark 11 = .ok (.aload_n 0, 1) := by decide +kernel
theorem dX0_forgedMark_12 : decode cX0_forgedMark 12 = .ok (.getfield 13, 3) := by decide +kernel
theorem dX0_forgedMark_15 : decode cX0_forgedMark 15 = .ok (.iload_n 1, 1) := by decide +kernel
theorem dX0_forgedMark_16 : decode cX0_forgedMark 16 = .ok (.iconst 3, 1) := by decide +kernel
theorem dX0_forgedMark_17 : decode cX0_forgedMark 17 = .ok (.invokevirtual 52, 3) := by decide +kernel
theorem dX0_forgedMark_20 : decode cX0_forgedMark 20 = .ok (.iadd, 1) := by decide +kernel
theorem dX0_forgedMark_21 : decode cX0_forgedMark 21 = .ok (.ireturn, 1) := by decide +kernel
theorem dX0_nightMark_0 : decode cX0_nightMark 0 = .ok (.aload_n 0, 1) := by decide +kernel
theorem dX0_nightMark_1 : decode cX0_nightMark 1 = .ok (.bipush 23, 2) := by decide +kernel
theorem dX0_nightMark_3 : decode cX0_nightMark 3 = .ok (.invokevirtual 46, 3) := by decide +kernel
theorem dX0_nightMark_6 : decode cX0_nightMark 6 = .ok (.aload_n 0, 1) := by decide +kernel
theorem dX0_nightMark_7 : decode cX0_nightMark 7 = .ok (.iload_n 1, 1) := by decide +kernel
theorem dX0_nightMark_8 : decode cX0_nightMark 8 = .ok (.invokevirtual 43, 3) := by decide +kernel
theorem dX0_nightMark_11 : decode cX0_nightMark 11 = .ok (.istore_n 2, 1) := by decide +kernel
theorem dX0_nightMark_12 : decode cX0_nightMark 12 = .ok (.iload_n 2, 1) := by decide +kernel
theorem dX0_nightMark_13 : decode cX0_nightMark 13 = .ok (.aload_n 0, 1) := by decide +kernel
theorem dX0_nightMark_14 : decode cX0_nightMark 14 = .ok (.iload_n 1, 1) := by decide +kernel
theorem dX0_nightMark_15 : decode cX0_nightMark 15 = .ok (.invokevirtual 28, 3) := by decide +kernel
theorem dX0_nightMark_18 : decode cX0_nightMark 18 = .ok (.iadd, 1) := by decide +kernel
theorem dX0_nightMark_19 : decode cX0_nightMark 19 = .ok (.ireturn, 1) := by decide +kernel
theorem dX0_leave_0 : decode cX0_leave 0 = .ok (.aload_n 0, 1) := by decide +kernel
theorem dX0_leave_1 : decode cX0_leave 1 = .ok (.getfield 56, 3) := by decide +kernel
theorem dX0_leave_4 : decode cX0_leave 4 = .ok (.bipush 16, 2) := by decide +kernel
theorem dX0_leave_6 : decode cX0_leave 6 = .ok (.if_icmp .ge 23, 3) := by decide +kernel
theorem dX0_leave_9 : decode cX0_leave 9 = .ok (.aload_n 0, 1) := by decide +kernel
theorem dX0_leave_10 : decode cX0_leave 10 = .ok (.getfield 9, 3) := by decide +kernel
theorem dX0_leave_13 : decode cX0_leave 13 = .ok (.aload_n 0, 1) := by decide +kernel
theorem dX0_leave_14 : decode cX0_leave 14 = .ok (.getfield 56, 3) := by decide +kernel
theorem dX0_leave_17 : decode cX0_leave 17 = .ok (.iload_n 1, 1) := by decide +kernel
theorem dX0_leave_18 : decode cX0_leave 18 = .ok (.iastore, 1) := by decide +kernel
theorem dX0_leave_19 : decode cX0_leave 19 = .ok (.aload_n 0, 1) := by decide +kernel
theorem dX0_leave_20 : decode cX0_leave 20 = .ok (.dup, 1) := by decide +kernel
theorem dX0_leave_21 : decode cX0_leave 21 = .ok (.getfield 56, 3) := by decide +kernel
theorem dX0_leave_24 : decode cX0_leave 24 = .ok (.iconst 1, 1) := by decide +kernel
theorem dX0_leave_25 : decode cX0_leave 25 = .ok (.iadd, 1) := by decide +kernel
theorem dX0_leave_26 : decode cX0_leave 26 = .ok (.putfield 56, 3) := by decide +kernel
theorem dX0_leave_29 : decode cX0_leave 29 = .ok (.return_, 1) := by decide +kernel
theorem dX5_layRoad_0 : decode cX5_layRoad 0 = .ok (.aload_n 0, 1) := by decide +kernel
theorem dX5_layRoad_1 : decode cX5_layRoad 1 = .ok (.getfield 15, 3) := by decide +kernel
theorem dX5_layRoad_4 : decode cX5_layRoad 4 = .ok (.iload_n 1, 1) := by decide +kernel
theorem dX5_layRoad_5 : decode cX5_layRoad 5 = .ok (.bipush 8, 2) := by decide +kernel
theorem dX5_layRoad_7 : decode cX5_layRoad 7 = .ok (.imul, 1) := by decide +kernel
theorem dX5_layRoad_8 : decode cX5_layRoad 8 = .ok (.iload_n 2, 1) := by decide +kernel
theorem dX5_layRoad_9 : decode cX5_layRoad 9 = .ok (.iadd, 1) := by decide +kernel
theorem dX5_layRoad_10 : decode cX5_layRoad 10 = .ok (.iaload, 1) := by decide +kernel
theorem dX5_layRoad_11 : decode cX5_layRoad 11 = .ok (.istore 4, 2) := by decide +kernel
theorem dX5_layRoad_13 : decode cX5_layRoad 13 = .ok (.aload_n 0, 1) := by decide +kernel
theorem dX5_layRoad_14 : decode cX5_layRoad 14 = .ok (.getfield 15, 3) := by decide +kernel
theorem dX5_layRoad_17 : decode cX5_layRoad 17 = .ok (.iload_n 1, 1) := by decide +kernel
theorem dX5_layRoad_18 : decode cX5_layRoad 18 = .ok (.bipush 8, 2) := by decide +kernel
theorem dX5_layRoad_20 : decode cX5_layRoad 20 = .ok (.imul, 1) := by decide +kernel
theorem dX5_layRoad_21 : decode cX5_layRoad 21 = .ok (.iload_n 2, 1) := by decide +kernel
theorem dX5_layRoad_22 : decode cX5_layRoad 22 = .ok (.iadd, 1) := by decide +kernel
theorem dX5_layRoad_23 : decode cX5_layRoad 23 = .ok (.iload_n 3, 1) := by decide +kernel
theorem dX5_layRoad_24 : decode cX5_layRoad 24 = .ok (.iastore, 1) := by decide +kernel
theorem dX5_layRoad_25 : decode cX5_layRoad 25 = .ok (.aload_n 0, 1) := by decide +kernel
theorem dX5_layRoad_26 : decode cX5_layRoad 26 = .ok (.getfield 15, 3) := by decide +kernel
theorem dX5_layRoad_29 : decode cX5_layRoad 29 = .ok (.iload_n 2, 1) := by decide +kernel
theorem dX5_layRoad_30 : decode cX5_layRoad 30 = .ok (.bipush 8, 2) := by decide +kernel
theorem dX5_layRoad_32 : decode cX5_layRoad 32 = .ok (.imul, 1) := by decide +kernel
theorem dX5_layRoad_33 : decode cX5_layRoad 33 = .ok (.iload_n 1, 1) := by decide +kernel
theorem dX5_layRoad_34 : decode cX5_layRoad 34 = .ok (.iadd, 1) := by decide +kernel
theorem dX5_layRoad_35 : decode cX5_layRoad 35 = .ok (.iload_n 3, 1) := by decide +kernel
theorem dX5_layRoad_36 : decode cX5_layRoad 36 = .ok (.iastore, 1) := by decide +kernel
theorem dX5_layRoad_37 : decode cX5_layRoad 37 = .ok (.iload 4, 2) := by decide +kernel
theorem dX5_layRoad_39 : decode cX5_layRoad 39 = .ok (.ireturn, 1) := by decide +kernel
theorem dX5_layRoadToGates_0 : decode cX5_layRoadToGates 0 = .ok (.aload_n 0, 1) := by decide +kernel
theorem dX5_layRoadToGates_1 : decode cX5_layRoadToGates 1 = .ok (.getfield 18, 3) := by decide +kernel
theorem dX5_layRoadToGates_4 : decode cX5_layRoadToGates 4 = .ok (.iload_n 1, 1) := by decide +kernel
theorem dX5_layRoadToGates_5 : decode cX5_layRoadToGates 5 = .ok (.iaload, 1) := by decide +kernel
theorem dX5_layRoadToGates_6 : decode cX5_layRoadToGates 6 = .ok (.istore_n 3, 1) := by decide +kernel
theorem dX5_layRoadToGates_7 : decode cX5_layRoadToGates 7 = .ok (.aload_n 0, 1) := by decide +kernel
theorem dX5_layRoadToGates_8 : decode cX5_layRoadToGates 8 = .ok (.getfield 18, 3) := by decide +kernel
theorem dX5_layRoadToGates_11 : decode cX5_layRoadToGates 11 = .ok (.iload_n 1, 1) := by decide +kernel
theorem dX5_layRoadToGates_12 : decode cX5_layRoadToGates 12 = .ok (.iload_n 2, 1) := by decide +kernel
theorem dX5_layRoadToGates_13 : decode cX5_layRoadToGates 13 = .ok (.iastore, 1) := by decide +kernel
theorem dX5_layRoadToGates_14 : decode cX5_layRoadToGates 14 = .ok (.iload_n 3, 1) := by decide +kernel
theorem dX5_layRoadToGates_15 : decode cX5_layRoadToGates 15 = .ok (.ireturn, 1) := by decide +kernel
theorem dX5_addSick_0 : decode cX5_addSick 0 = .ok (.aload_n 0, 1) := by decide +kernel
theorem dX5_addSick_1 : decode cX5_addSick 1 = .ok (.getfield 21, 3) := by decide +kernel
theorem dX5_addSick_4 : decode cX5_addSick 4 = .ok (.aload_n 0, 1) := by decide +kernel
theorem dX5_addSick_5 : decode cX5_addSick 5 = .ok (.getfield 38, 3) := by decide +kernel
theorem dX5_addSick_8 : decode cX5_addSick 8 = .ok (.iload_n 1, 1) := by decide +kernel
theorem dX5_addSick_9 : decode cX5_addSick 9 = .ok (.iastore, 1) := by decide +kernel
theorem dX5_addSick_10 : decode cX5_addSick 10 = .ok (.aload_n 0, 1) := by decide +kernel
theorem dX5_addSick_11 : decode cX5_addSick 11 = .ok (.getfield 24, 3) := by decide +kernel
theorem dX5_addSick_14 : decode cX5_addSick 14 = .ok (.aload_n 0, 1) := by decide +kernel
theorem dX5_addSick_15 : decode cX5_addSick 15 = .ok (.getfield 38, 3) := by decide +kernel
theorem dX5_addSick_18 : decode cX5_addSick 18 = .ok (.iload_n 2, 1) := by decide +kernel
theorem dX5_addSick_19 : decode cX5_addSick 19 = .ok (.iastore, 1) := by decide +kernel
theorem dX5_addSick_20 : decode cX5_addSick 20 = .ok (.aload_n 0, 1) := by decide +kernel
theorem dX5_addSick_21 : decode cX5_addSick 21 = .ok (.getfield 27, 3) := by decide +kernel
theorem dX5_addSick_24 : decode cX5_addSick 24 = .ok (.aload_n 0, 1) := by decide +kernel
theorem dX5_addSick_25 : decode cX5_addSick 25 = .ok (.getfield 38, 3) := by decide +kernel
theorem dX5_addSick_28 : decode cX5_addSick 28 = .ok (.iload_n 3, 1) := by decide +kernel
theorem dX5_addSick_29 : decode cX5_addSick 29 = .ok (.iastore, 1) := by decide +kernel
theorem dX5_addSick_30 : decode cX5_addSick 30 = .ok (.aload_n 0, 1) := by decide +kernel
theorem dX5_addSick_31 : decode cX5_addSick 31 = .ok (.dup, 1) := by decide +kernel
theorem dX5_addSick_32 : decode cX5_addSick 32 = .ok (.getfield 38, 3) := by decide +kernel
theorem dX5_addSick_35 : decode cX5_addSick 35 = .ok (.iconst 1, 1) := by decide +kernel
theorem dX5_addSick_36 : decode cX5_addSick 36 = .ok (.iadd, 1) := by decide +kernel
theorem dX5_addSick_37 : decode cX5_addSick 37 = .ok (.putfield 38, 3) := by decide +kernel
theorem dX5_addSick_40 : decode cX5_addSick 40 = .ok (.aload_n 0, 1) := by decide +kernel
theorem dX5_addSick_41 : decode cX5_addSick 41 = .ok (.getfield 38, 3) := by decide +kernel
theorem dX5_addSick_44 : decode cX5_addSick 44 = .ok (.ireturn, 1) := by decide +kernel
theorem dX5_addPass_0 : decode cX5_addPass 0 = .ok (.iconst 0, 1) := by decide +kernel
theorem dX5_addPass_1 : decode cX5_addPass 1 = .ok (.istore 4, 2) := by decide +kernel
theorem dX5_addPass_3 : decode cX5_addPass 3 = .ok (.iload 4, 2) := by decide +kernel
theorem dX5_addPass_5 : decode cX5_addPass 5 = .ok (.bipush 7, 2) := by decide +kernel
theorem dX5_addPass_7 : decode cX5_addPass 7 = .ok (.if_icmp .ge 33, 3) := by decide +kernel
theorem dX5_addPass_10 : decode cX5_addPass 10 = .ok (.aload_n 0, 1) := by decide +kernel
theorem dX5_addPass_11 : decode cX5_addPass 11 = .ok (.getfield 11, 3) := by decide +kernel
theorem dX5_addPass_14 : decode cX5_addPass 14 = .ok (.aload_n 0, 1) := by decide +kernel
theorem dX5_addPass_15 : decode cX5_addPass 15 = .ok (.getfield 42, 3) := by decide +kernel
theorem dX5_addPass_18 : decode cX5_addPass 18 = .ok (.bipush 7, 2) := by decide +kernel
theorem dX5_addPass_20 : decode cX5_addPass 20 = .ok (.imul, 1) := by decide +kernel
theorem dX5_addPass_21 : decode cX5_addPass 21 = .ok (.iload 4, 2) := by decide +kernel
theorem dX5_addPass_23 : decode cX5_addPass 23 = .ok (.iadd, 1) := by decide +kernel
theorem dX5_addPass_24 : decode cX5_addPass 24 = .ok (.aload_n 1, 1) := by decide +kernel
theorem dX5_addPass_25 : decode cX5_addPass 25 = .ok (.iload_n 2, 1) := by decide +kernel
theorem dX5_addPass_26 : decode cX5_addPass 26 = .ok (.iload_n 3, 1) := by decide +kernel
theorem dX5_addPass_27 : decode cX5_addPass 27 = .ok (.iload 4, 2) := by decide +kernel
theorem dX5_addPass_29 : decode cX5_addPass 29 = .ok (.iadd, 1) := by decide +kernel
theorem dX5_addPass_30 : decode cX5_addPass 30 = .ok (.invokevirtual 45, 3) := by decide +kernel
theorem dX5_addPass_33 : decode cX5_addPass 33 = .ok (.iastore, 1) := by decide +kernel
theorem dX5_addPass_34 : decode cX5_addPass 34 = .ok (.iinc 4 1, 3) := by decide +kernel
theorem dX5_addPass_37 : decode cX5_addPass 37 = .ok (.goto (-34), 3) := by decide +kernel
theorem dX5_addPass_40 : decode cX5_addPass 40 = .ok (.aload_n 0, 1) := by decide +kernel
theorem dX5_addPass_41 : decode cX5_addPass 41 = .ok (.dup, 1) := by decide +kernel
theorem dX5_addPass_42 : decode cX5_addPass 42 = .ok (.getfield 42, 3) := by decide +kernel
theorem dX5_addPass_45 : decode cX5_addPass 45 = .ok (.iconst 1, 1) := by decide +kernel
theorem dX5_addPass_46 : decode cX5_addPass 46 = .ok (.iadd, 1) := by decide +kernel
theorem dX5_addPass_47 : decode cX5_addPass 47 = .ok (.putfield 42, 3) := by decide +kernel
theorem dX5_addPass_50 : decode cX5_addPass 50 = .ok (.aload_n 0, 1) := by decide +kernel
theorem dX5_addPass_51 : decode cX5_addPass 51 = .ok (.getfield 42, 3) := by decide +kernel
theorem dX5_addPass_54 : decode cX5_addPass 54 = .ok (.iconst 1, 1) := by decide +kernel
theorem dX5_addPass_55 : decode cX5_addPass 55 = .ok (.isub, 1) := by decide +kernel
theorem dX5_addPass_56 : decode cX5_addPass 56 = .ok (.ireturn, 1) := by decide +kernel
theorem dX5_itemOf_0 : decode cX5_itemOf 0 = .ok (.aload_n 0, 1) := by decide +kernel
theorem dX5_itemOf_1 : decode cX5_itemOf 1 = .ok (.getfield 11, 3) := by decide +kernel
theorem dX5_itemOf_4 : decode cX5_itemOf 4 = .ok (.iload_n 1, 1) := by decide +kernel
theorem dX5_itemOf_5 : decode cX5_itemOf 5 = .ok (.bipush 7, 2) := by decide +kernel
theorem dX5_itemOf_7 : decode cX5_itemOf 7 = .ok (.imul, 1) := by decide +kernel
theorem dX5_itemOf_8 : decode cX5_itemOf 8 = .ok (.iload_n 2, 1) := by decide +kernel
theorem dX5_itemOf_9 : decode cX5_itemOf 9 = .ok (.iadd, 1) := by decide +kernel
theorem dX5_itemOf_10 : decode cX5_itemOf 10 = .ok (.iaload, 1) := by decide +kernel
theorem dX5_itemOf_11 : decode cX5_itemOf 11 = .ok (.ireturn, 1) := by decide +kernel
theorem dX5_canBeTrue_0 : decode cX5_canBeTrue 0 = .ok (.iconst 0, 1) := by decide +kernel
theorem dX5_canBeTrue_1 : decode cX5_canBeTrue 1 = .ok (.istore_n 2, 1) := by decide +kernel
theorem dX5_canBeTrue_2 : decode cX5_canBeTrue 2 = .ok (.iload_n 2, 1) := by decide +kernel
theorem dX5_canBeTrue_3 : decode cX5_canBeTrue 3 = .ok (.aload_n 0, 1) := by decide +kernel
theorem dX5_canBeTrue_4 : decode cX5_canBeTrue 4 = .ok (.getfield 42, 3) := by decide +kernel
theorem dX5_canBeTrue_7 : decode cX5_canBeTrue 7 = .ok (.if_icmp .ge 65, 3) := by decide +kernel
theorem dX5_canBeTrue_10 : decode cX5_canBeTrue 10 = .ok (.iconst 0, 1) := by decide +kernel
theorem dX5_canBeTrue_11 : decode cX5_canBeTrue 11 = .ok (.istore_n 3, 1) := by decide +kernel
theorem dX5_canBeTrue_12 : decode cX5_canBeTrue 12 = .ok (.iload_n 3, 1) := by decide +kernel
theorem dX5_canBeTrue_13 : decode cX5_canBeTrue 13 = .ok (.iload_n 2, 1) := by decide +kernel
theorem dX5_canBeTrue_14 : decode cX5_canBeTrue 14 = .ok (.if_icmp .ge 52, 3) := by decide +kernel
theorem dX5_canBeTrue_17 : decode cX5_canBeTrue 17 = .ok (.aload_n 0, 1) := by decide +kernel
theorem dX5_canBeTrue_18 : decode cX5_canBeTrue 18 = .ok (.iload_n 2, 1) := by decide +kernel
theorem dX5_canBeTrue_19 : decode cX5_canBeTrue 19 = .ok (.iconst 1, 1) := by decide +kernel
theorem dX5_canBeTrue_20 : decode cX5_canBeTrue 20 = .ok (.invokevirtual 51, 3) := by decide +kernel
theorem dX5_canBeTrue_23 : decode cX5_canBeTrue 23 = .ok (.iload_n 1, 1) := by decide +kernel
theorem dX5_canBeTrue_24 : decode cX5_canBeTrue 24 = .ok (.if_icmp .ne 17, 3) := by decide +kernel
theorem dX5_canBeTrue_27 : decode cX5_canBeTrue 27 = .ok (.aload_n 0, 1) := by decide +kernel
theorem dX5_canBeTrue_28 : decode cX5_canBeTrue 28 = .ok (.iload_n 3, 1) := by decide +kernel
theorem dX5_canBeTrue_29 : decode cX5_canBeTrue 29 = .ok (.iconst 1, 1) := by decide +kernel
theorem dX5_canBeTrue_30 : decode cX5_canBeTrue 30 = .ok (.invokevirtual 51, 3) := by decide +kernel
theorem dX5_canBeTrue_33 : decode cX5_canBeTrue 33 = .ok (.iload_n 1, 1) := by decide +kernel
theorem dX5_canBeTrue_34 : decode cX5_canBeTrue 34 = .ok (.if_icmp .ne 7, 3) := by decide +kernel
theorem dX5_canBeTrue_37 : decode cX5_canBeTrue 37 = .ok (.iconst 1, 1) := by decide +kernel
theorem dX5_canBeTrue_38 : decode cX5_canBeTrue 38 = .ok (.goto 4, 3) := by decide +kernel
theorem dX5_canBeTrue_41 : decode cX5_canBeTrue 41 = .ok (.iconst 0, 1) := by decide +kernel
theorem dX5_canBeTrue_42 : decode cX5_canBeTrue 42 = .ok (.istore 4, 2) := by decide +kernel
theorem dX5_canBeTrue_44 : decode cX5_canBeTrue 44 = .ok (.iload 4, 2) := by decide +kernel
theorem dX5_canBeTrue_46 : decode cX5_canBeTrue 46 = .ok (.ifCond .eq 14, 3) := by decide +kernel
theorem dX5_canBeTrue_49 : decode cX5_canBeTrue 49 = .ok (.aload_n 0, 1) := by decide +kernel
theorem dX5_canBeTrue_50 : decode cX5_canBeTrue 50 = .ok (.iload_n 2, 1) := by decide +kernel
theorem dX5_canBeTrue_51 : decode cX5_canBeTrue 51 = .ok (.iload_n 3, 1) := by decide +kernel
theorem dX5_canBeTrue_52 : decode cX5_canBeTrue 52 = .ok (.invokevirtual 54, 3) := by decide +kernel
theorem dX5_canBeTrue_55 : decode cX5_canBeTrue 55 = .ok (.ifCond .ne 5, 3) := by decide +kernel
theorem dX5_canBeTrue_58 : decode cX5_canBeTrue 58 = .ok (.iconst 0, 1) := by decide +kernel
theorem dX5_canBeTrue_59 : decode cX5_canBeTrue 59 = .ok (.ireturn, 1) := by decide +kernel
theorem dX5_canBeTrue_60 : decode cX5_canBeTrue 60 = .ok (.iinc 3 1, 3) := by decide +kernel
theorem dX5_canBeTrue_63 : decode cX5_canBeTrue 63 = .ok (.goto (-51), 3) := by decide +kernel
theorem dX5_canBeTrue_66 : decode cX5_canBeTrue 66 = .ok (.iinc 2 1, 3) := by decide +kernel
theorem dX5_canBeTrue_69 : decode cX5_canBeTrue 69 = .ok (.goto (-67), 3) := by decide +kernel
theorem dX5_canBeTrue_72 : decode cX5_canBeTrue 72 = .ok (.iconst 1, 1) := by decide +kernel
theorem dX5_canBeTrue_73 : decode cX5_canBeTrue 73 = .ok (.ireturn, 1) := by decide +kernel
theorem dX5_areFarEnough_0 : decode cX5_areFarEnough 0 = .ok (.aload_n 0, 1) := by decide +kernel
theorem dX5_areFarEnough_1 : decode cX5_areFarEnough 1 = .ok (.iload_n 1, 1) := by decide +kernel
theorem dX5_areFarEnough_2 : decode cX5_areFarEnough 2 = .ok (.iconst 5, 1) := by decide +kernel
theorem dX5_areFarEnough_3 : decode cX5_areFarEnough 3 = .ok (.invokevirtual 51, 3) := by decide +kernel
theorem dX5_areFarEnough_6 : decode cX5_areFarEnough 6 = .ok (.aload_n 0, 1) := by decide +kernel
theorem dX5_areFarEnough_7 : decode cX5_areFarEnough 7 = .ok (.iload_n 2, 1) := by decide +kernel
theorem dX5_areFarEnough_8 : decode cX5_areFarEnough 8 = .ok (.iconst 5, 1) := by decide +kernel
theorem dX5_areFarEnough_9 : decode cX5_areFarEnough 9 = .ok (.invokevirtual 51, 3) := by decide +kernel
theorem dX5_areFarEnough_12 : decode cX5_areFarEnough 12 = .ok (.isub, 1) := by decide +kernel
theorem dX5_areFarEnough_13 : decode cX5_areFarEnough 13 = .ok (.invokestatic 58, 3) := by decide +kernel
theorem dX5_areFarEnough_16 : decode cX5_areFarEnough 16 = .ok (.istore_n 3, 1) := by decide +kernel
theorem dX5_areFarEnough_17 : decode cX5_areFarEnough 17 = .ok (.iload_n 3, 1) := by decide +kernel
theorem dX5_areFarEnough_18 : decode cX5_areFarEnough 18 = .ok (.aload_n 0, 1) := by decide +kernel
theorem dX5_areFarEnough_19 : decode cX5_areFarEnough 19 = .ok (.getfield 15, 3) := by decide +kernel
theorem dX5_areFarEnough_22 : decode cX5_areFarEnough 22 = .ok (.aload_n 0, 1) := by decide +kernel
theorem dX5_areFarEnough_23 : decode cX5_areFarEnough 23 = .ok (.iload_n 1, 1) := by decide +kernel
theorem dX5_areFarEnough_24 : decode cX5_areFarEnough 24 = .ok (.iconst 4, 1) := by decide +kernel
theorem dX5_areFarEnough_25 : decode cX5_areFarEnough 25 = .ok (.invokevirtual 51, 3) := by decide +kernel
theorem dX5_areFarEnough_28 : decode cX5_areFarEnough 28 = .ok (.bipush 8, 2) := by decide +kernel
theorem dX5_areFarEnough_30 : decode cX5_areFarEnough 30 = .ok (.imul, 1) := by decide +kernel
theorem dX5_areFarEnough_31 : decode cX5_areFarEnough 31 = .ok (.aload_n 0, 1) := by decide +kernel
theorem dX5_areFarEnough_32 : decode cX5_areFarEnough 32 = .ok (.iload_n 2, 1) := by decide +kernel
theorem dX5_areFarEnough_33 : decode cX5_areFarEnough 33 = .ok (.iconst 4, 1) := by decide +kernel
theorem dX5_areFarEnough_34 : decode cX5_areFarEnough 34 = .ok (.invokevirtual 51, 3) := by decide +kernel
theorem dX5_areFarEnough_37 : decode cX5_areFarEnough 37 = .ok (.iadd, 1) := by decide +kernel
theorem dX5_areFarEnough_38 : decode cX5_areFarEnough 38 = .ok (.iaload, 1) := by decide +kernel
theorem dX5_areFarEnough_39 : decode cX5_areFarEnough 39 = .ok (.if_icmp .lt 7, 3) := by decide +kernel
theorem dX5_areFarEnough_42 : decode cX5_areFarEnough 42 = .ok (.iconst 1, 1) := by decide +kernel
theorem dX5_areFarEnough_43 : decode cX5_areFarEnough 43 = .ok (.goto 4, 3) := by decide +kernel
theorem dX5_areFarEnough_46 : decode cX5_areFarEnough 46 = .ok (.iconst 0, 1) := by decide +kernel
theorem dX5_areFarEnough_47 : decode cX5_areFarEnough 47 = .ok (.ireturn, 1) := by decide +kernel
theorem dX5_letsIn_0 : decode cX5_letsIn 0 = .ok (.aload_n 0, 1) := by decide +kernel
theorem dX5_letsIn_1 : decode cX5_letsIn 1 = .ok (.getfield 34, 3) := by decide +kernel
theorem dX5_letsIn_4 : decode cX5_letsIn 4 = .ok (.iload_n 2, 1) := by decide +kernel
theorem dX5_letsIn_5 : decode cX5_letsIn 5 = .ok (.bipush 40, 2) := by decide +kernel
theorem dX5_letsIn_7 : decode cX5_letsIn 7 = .ok (.aload_n 0, 1) := by decide +kernel
theorem dX5_letsIn_8 : decode cX5_letsIn 8 = .ok (.iload_n 1, 1) := by decide +kernel
theorem dX5_letsIn_9 : decode cX5_letsIn 9 = .ok (.iconst 1, 1) := by decide +kernel
theorem dX5_letsIn_10 : decode cX5_letsIn 10 = .ok (.invokevirtual 51, 3) := by decide +kernel
theorem dX5_letsIn_13 : decode cX5_letsIn 13 = .ok (.iadd, 1) := by decide +kernel
theorem dX5_letsIn_14 : decode cX5_letsIn 14 = .ok (.invokevirtual 66, 3) := by decide +kernel
theorem dX5_letsIn_17 : decode cX5_letsIn 17 = .ok (.iconst 1, 1) := by decide +kernel
theorem dX5_letsIn_18 : decode cX5_letsIn 18 = .ok (.if_icmp .eq 14, 3) := by decide +kernel
theorem dX5_letsIn_21 : decode cX5_letsIn 21 = .ok (.iload_n 2, 1) := by decide +kernel
theorem dX5_letsIn_22 : decode cX5_letsIn 22 = .ok (.aload_n 0, 1) := by decide +kernel
theorem dX5_letsIn_23 : decode cX5_letsIn 23 = .ok (.iload_n 1, 1) := by decide +kernel
theorem dX5_letsIn_24 : decode cX5_letsIn 24 = .ok (.bipush 6, 2) := by decide +kernel
theorem dX5_letsIn_26 : decode cX5_letsIn 26 = .ok (.invokevirtual 51, 3) := by decide +kernel
theorem dX5_letsIn_29 : decode cX5_letsIn 29 = .ok (.if_icmp .le 5, 3) := by decide +kernel
theorem dX5_letsIn_32 : decode cX5_letsIn 32 = .ok (.iconst 0, 1) := by decide +kernel
theorem dX5_letsIn_33 : decode cX5_letsIn 33 = .ok (.ireturn, 1) := by decide +kernel
theorem dX5_letsIn_34 : decode cX5_letsIn 34 = .ok (.iload_n 2, 1) := by decide +kernel
theorem dX5_letsIn_35 : decode cX5_letsIn 35 = .ok (.aload_n 0, 1) := by decide +kernel
theorem dX5_letsIn_36 : decode cX5_letsIn 36 = .ok (.iload_n 1, 1) := by decide +kernel
theorem dX5_letsIn_37 : decode cX5_letsIn 37 = .ok (.iconst 5, 1) := by decide +kernel
theorem dX5_letsIn_38 : decode cX5_letsIn 38 = .ok (.invokevirtual 51, 3) := by decide +kernel
theorem dX5_letsIn_41 : decode cX5_letsIn 41 = .ok (.isub, 1) := by decide +kernel
theorem dX5_letsIn_42 : decode cX5_letsIn 42 = .ok (.aload_n 0, 1) := by decide +kernel
theorem dX5_letsIn_43 : decode cX5_letsIn 43 = .ok (.getfield 18, 3) := by decide +kernel
theorem dX5_letsIn_46 : decode cX5_letsIn 46 = .ok (.aload_n 0, 1) := by decide +kernel
theorem dX5_letsIn_47 : decode cX5_letsIn 47 = .ok (.iload_n 1, 1) := by decide +kernel
theorem dX5_letsIn_48 : decode cX5_letsIn 48 = .ok (.iconst 4, 1) := by decide +kernel
theorem dX5_letsIn_49 : decode cX5_letsIn 49 = .ok (.invokevirtual 51, 3) := by decide +kernel
theorem dX5_letsIn_52 : decode cX5_letsIn 52 = .ok (.iaload, 1) := by decide +kernel
theorem dX5_letsIn_53 : decode cX5_letsIn 53 = .ok (.if_icmp .lt 12, 3) := by decide +kernel
theorem dX5_letsIn_56 : decode cX5_letsIn 56 = .ok (.aload_n 0, 1) := by decide +kernel
theorem dX5_letsIn_57 : decode cX5_letsIn 57 = .ok (.iload_n 1, 1) := by decide +kernel
theorem dX5_letsIn_58 : decode cX5_letsIn 58 = .ok (.iload_n 2, 1) := by decide +kernel
theorem dX5_letsIn_59 : decode cX5_letsIn 59 = .ok (.invokevirtual 69, 3) := by decide +kernel
theorem dX5_letsIn_62 : decode cX5_letsIn 62 = .ok (.ifCond .eq 5, 3) := by decide +kernel
theorem dX5_letsIn_65 : decode cX5_letsIn 65 = .ok (.iconst 0, 1) := by decide +kernel
theorem dX5_letsIn_66 : decode cX5_letsIn 66 = .ok (.ireturn, 1) := by decide +kernel
theorem dX5_letsIn_67 : decode cX5_letsIn 67 = .ok (.aload_n 0, 1) := by decide +kernel
theorem dX5_letsIn_68 : decode cX5_letsIn 68 = .ok (.getfield 30, 3) := by decide +kernel
theorem dX5_letsIn_71 : decode cX5_letsIn 71 = .ok (.iload_n 3, 1) := by decide +kernel
theorem dX5_letsIn_72 : decode cX5_letsIn 72 = .ok (.iload 4, 2) := by decide +kernel
theorem dX5_letsIn_74 : decode cX5_letsIn 74 = .ok (.invokevirtual 72, 3) := by decide +kernel
theorem dX5_letsIn_77 : decode cX5_letsIn 77 = .ok (.ifCond .ne 13, 3) := by decide +kernel
theorem dX5_letsIn_80 : decode cX5_letsIn 80 = .ok (.aload_n 0, 1) := by decide +kernel
theorem dX5_letsIn_81 : decode cX5_letsIn 81 = .ok (.iload_n 1, 1) := by decide +kernel
theorem dX5_letsIn_82 : decode cX5_letsIn 82 = .ok (.iconst 0, 1) := by decide +kernel
theorem dX5_letsIn_83 : decode cX5_letsIn 83 = .ok (.invokevirtual 51, 3) := by decide +kernel
theorem dX5_letsIn_86 : decode cX5_letsIn 86 = .ok (.iconst 3, 1) := by decide +kernel
theorem dX5_letsIn_87 : decode cX5_letsIn 87 = .ok (.if_icmp .ne 7, 3) := by decide +kernel
theorem dX5_letsIn_90 : decode cX5_letsIn 90 = .ok (.iconst 1, 1) := by decide +kernel
theorem dX5_letsIn_91 : decode cX5_letsIn 91 = .ok (.goto 4, 3) := by decide +kernel
theorem dX5_letsIn_94 : decode cX5_letsIn 94 = .ok (.iconst 0, 1) := by decide +kernel
theorem dX5_letsIn_95 : decode cX5_letsIn 95 = .ok (.ireturn, 1) := by decide +kernel
theorem dX5_kindOn_0 : decode cX5_kindOn 0 = .ok (.aload_n 0, 1) := by decide +kernel
theorem dX5_kindOn_1 : decode cX5_kindOn 1 = .ok (.iload_n 1, 1) := by decide +kernel
theorem dX5_kindOn_2 : decode cX5_kindOn 2 = .ok (.iconst 0, 1) := by decide +kernel
theorem dX5_kindOn_3 : decode cX5_kindOn 3 = .ok (.invokevirtual 51, 3) := by decide +kernel
theorem dX5_kindOn_6 : decode cX5_kindOn 6 = .ok (.tableswitch 45 1 3 #[26, 28, 43], 26) := by decide +kernel
theorem dX5_kindOn_32 : decode cX5_kindOn 32 = .ok (.iconst 1, 1) := by decide +kernel
theorem dX5_kindOn_33 : decode cX5_kindOn 33 = .ok (.ireturn, 1) := by decide +kernel
theorem dX5_kindOn_34 : decode cX5_kindOn 34 = .ok (.aload_n 0, 1) := by decide +kernel
theorem dX5_kindOn_35 : decode cX5_kindOn 35 = .ok (.iload_n 1, 1) := by decide +kernel
theorem dX5_kindOn_36 : decode cX5_kindOn 36 = .ok (.iload_n 2, 1) := by decide +kernel
theorem dX5_kindOn_37 : decode cX5_kindOn 37 = .ok (.invokevirtual 69, 3) := by decide +kernel
theorem dX5_kindOn_40 : decode cX5_kindOn 40 = .ok (.ifCond .eq 7, 3) := by decide +kernel
theorem dX5_kindOn_43 : decode cX5_kindOn 43 = .ok (.iconst 3, 1) := by decide +kernel
theorem dX5_kindOn_44 : decode cX5_kindOn 44 = .ok (.goto 4, 3) := by decide +kernel
theorem dX5_kindOn_47 : decode cX5_kindOn 47 = .ok (.iconst 2, 1) := by decide +kernel
theorem dX5_kindOn_48 : decode cX5_kindOn 48 = .ok (.ireturn, 1) := by decide +kernel
theorem dX5_kindOn_49 : decode cX5_kindOn 49 = .ok (.iconst 4, 1) := by decide +kernel
theorem dX5_kindOn_50 : decode cX5_kindOn 50 = .ok (.ireturn, 1) := by decide +kernel
theorem dX5_kindOn_51 : decode cX5_kindOn 51 = .ok (.iconst 0, 1) := by decide +kernel
theorem dX5_kindOn_52 : decode cX5_kindOn 52 = .ok (.ireturn, 1) := by decide +kernel
theorem dX5_isOfKind_0 : decode cX5_isOfKind 0 = .ok (.aload_n 0, 1) := by decide +kernel
theorem dX5_isOfKind_1 : decode cX5_isOfKind 1 = .ok (.iload_n 1, 1) := by decide +kernel
theorem dX5_isOfKind_2 : decode cX5_isOfKind 2 = .ok (.iload_n 3, 1) := by decide +kernel
theorem dX5_isOfKind_3 : decode cX5_isOfKind 3 = .ok (.invokevirtual 77, 3) := by decide +kernel
theorem dX5_isOfKind_6 : decode cX5_isOfKind 6 = .ok (.istore 4, 2) := by decide +kernel
theorem dX5_isOfKind_8 : decode cX5_isOfKind 8 = .ok (.iload_n 2, 1) := by decide +kernel
theorem dX5_isOfKind_9 : decode cX5_isOfKind 9 = .ok (.ifCond .eq 20, 3) := by decide +kernel
theorem dX5_isOfKind_12 : decode cX5_isOfKind 12 = .ok (.iload_n 2, 1) := by decide +kernel
theorem dX5_isOfKind_13 : decode cX5_isOfKind 13 = .ok (.iload 4, 2) := by decide +kernel
theorem dX5_isOfKind_15 : decode cX5_isOfKind 15 = .ok (.if_icmp .eq 14, 3) := by decide +kernel
theorem dX5_isOfKind_18 : decode cX5_isOfKind 18 = .ok (.iload_n 2, 1) := by decide +kernel
theorem dX5_isOfKind_19 : decode cX5_isOfKind 19 = .ok (.iconst 2, 1) := by decide +kernel
theorem dX5_isOfKind_20 : decode cX5_isOfKind 20 = .ok (.if_icmp .ne 13, 3) := by decide +kernel
theorem dX5_isOfKind_23 : decode cX5_isOfKind 23 = .ok (.iload 4, 2) := by decide +kernel
theorem dX5_isOfKind_25 : decode cX5_isOfKind 25 = .ok (.iconst 3, 1) := by decide +kernel
theorem dX5_isOfKind_26 : decode cX5_isOfKind 26 = .ok (.if_icmp .ne 7, 3) := by decide +kernel
theorem dX5_isOfKind_29 : decode cX5_isOfKind 29 = .ok (.iconst 1, 1) := by decide +kernel
theorem dX5_isOfKind_30 : decode cX5_isOfKind 30 = .ok (.goto 4, 3) := by decide +kernel
theorem dX5_isOfKind_33 : decode cX5_isOfKind 33 = .ok (.iconst 0, 1) := by decide +kernel
theorem dX5_isOfKind_34 : decode cX5_isOfKind 34 = .ok (.ireturn, 1) := by decide +kernel
theorem dX5_howMany_0 : decode cX5_howMany 0 = .ok (.iconst 0, 1) := by decide +kernel
theorem dX5_howMany_1 : decode cX5_howMany 1 = .ok (.istore_n 3, 1) := by decide +kernel
theorem dX5_howMany_2 : decode cX5_howMany 2 = .ok (.iconst 0, 1) := by decide +kernel
theorem dX5_howMany_3 : decode cX5_howMany 3 = .ok (.istore 4, 2) := by decide +kernel
theorem dX5_howMany_5 : decode cX5_howMany 5 = .ok (.iload 4, 2) := by decide +kernel
theorem dX5_howMany_7 : decode cX5_howMany 7 = .ok (.aload_n 0, 1) := by decide +kernel
theorem dX5_howMany_8 : decode cX5_howMany 8 = .ok (.getfield 42, 3) := by decide +kernel
theorem dX5_howMany_11 : decode cX5_howMany 11 = .ok (.if_icmp .ge 23, 3) := by decide +kernel
theorem dX5_howMany_14 : decode cX5_howMany 14 = .ok (.aload_n 0, 1) := by decide +kernel
theorem dX5_howMany_15 : decode cX5_howMany 15 = .ok (.iload 4, 2) := by decide +kernel
theorem dX5_howMany_17 : decode cX5_howMany 17 = .ok (.iload_n 1, 1) := by decide +kernel
theorem dX5_howMany_18 : decode cX5_howMany 18 = .ok (.iload_n 2, 1) := by decide +kernel
theorem dX5_howMany_19 : decode cX5_howMany 19 = .ok (.invokevirtual 80, 3) := by decide +kernel
theorem dX5_howMany_22 : decode cX5_howMany 22 = .ok (.ifCond .eq 6, 3) := by decide +kernel
theorem dX5_howMany_25 : decode cX5_howMany 25 = .ok (.iinc 3 1, 3) := by decide +kernel
theorem dX5_howMany_28 : decode cX5_howMany 28 = .ok (.iinc 4 1, 3) := by decide +kernel
theorem dX5_howMany_31 : decode cX5_howMany 31 = .ok (.goto (-26), 3) := by decide +kernel
theorem dX5_howMany_34 : decode cX5_howMany 34 = .ok (.iload_n 3, 1) := by decide +kernel
theorem dX5_howMany_35 : decode cX5_howMany 35 = .ok (.ireturn, 1) := by decide +kernel
theorem dX5_isForged_0 : decode cX5_isForged 0 = .ok (.aload_n 0, 1) := by decide +kernel
theorem dX5_isForged_1 : decode cX5_isForged 1 = .ok (.iload_n 1, 1) := by decide +kernel
theorem dX5_isForged_2 : decode cX5_isForged 2 = .ok (.iconst 0, 1) := by decide +kernel
theorem dX5_isForged_3 : decode cX5_isForged 3 = .ok (.invokevirtual 51, 3) := by decide +kernel
theorem dX5_isForged_6 : decode cX5_isForged 6 = .ok (.iconst 2, 1) := by decide +kernel
theorem dX5_isForged_7 : decode cX5_isForged 7 = .ok (.if_icmp .eq 5, 3) := by decide +kernel
theorem dX5_isForged_10 : decode cX5_isForged 10 = .ok (.iconst 0, 1) := by decide +kernel
theorem dX5_isForged_11 : decode cX5_isForged 11 = .ok (.ireturn, 1) := by decide +kernel
theorem dX5_isForged_12 : decode cX5_isForged 12 = .ok (.aload_n 0, 1) := by decide +kernel
theorem dX5_isForged_13 : decode cX5_isForged 13 = .ok (.iload_n 1, 1) := by decide +kernel
theorem dX5_isForged_14 : decode cX5_isForged 14 = .ok (.iconst 4, 1) := by decide +kernel
theorem dX5_isForged_15 : decode cX5_isForged 15 = .ok (.invokevirtual 51, 3) := by decide +kernel
theorem dX5_isForged_18 : decode cX5_isForged 18 = .ok (.istore_n 3, 1) := by decide +kernel
theorem dX5_isForged_19 : decode cX5_isForged 19 = .ok (.aload_n 0, 1) := by decide +kernel
theorem dX5_isForged_20 : decode cX5_isForged 20 = .ok (.iload_n 3, 1) := by decide +kernel
theorem dX5_isForged_21 : decode cX5_isForged 21 = .ok (.aload_n 0, 1) := by decide +kernel
theorem dX5_isForged_22 : decode cX5_isForged 22 = .ok (.iload_n 1, 1) := by decide +kernel
theorem dX5_isForged_23 : decode cX5_isForged 23 = .ok (.iconst 5, 1) := by decide +kernel
theorem dX5_isForged_24 : decode cX5_isForged 24 = .ok (.invokevirtual 51, 3) := by decide +kernel
theorem dX5_isForged_27 : decode cX5_isForged 27 = .ok (.invokevirtual 84, 3) := by decide +kernel
theorem dX5_isForged_30 : decode cX5_isForged 30 = .ok (.ifCond .ne 26, 3) := by decide +kernel
theorem dX5_isForged_33 : decode cX5_isForged 33 = .ok (.aload_n 0, 1) := by decide +kernel
theorem dX5_isForged_34 : decode cX5_isForged 34 = .ok (.getfield 34, 3) := by decide +kernel
theorem dX5_isForged_37 : decode cX5_isForged 37 = .ok (.iload_n 2, 1) := by decide +kernel
theorem dX5_isForged_38 : decode cX5_isForged 38 = .ok (.bipush 30, 2) := by decide +kernel
theorem dX5_isForged_40 : decode cX5_isForged 40 = .ok (.iload_n 3, 1) := by decide +kernel
theorem dX5_isForged_41 : decode cX5_isForged 41 = .ok (.iadd, 1) := by decide +kernel
theorem dX5_isForged_42 : decode cX5_isForged 42 = .ok (.invokevirtual 66, 3) := by decide +kernel
theorem dX5_isForged_45 : decode cX5_isForged 45 = .ok (.ifCond .eq 11, 3) := by decide +kernel
theorem dX5_isForged_48 : decode cX5_isForged 48 = .ok (.aload_n 0, 1) := by decide +kernel
theorem dX5_isForged_49 : decode cX5_isForged 49 = .ok (.iload_n 1, 1) := by decide +kernel
theorem dX5_isForged_50 : decode cX5_isForged 50 = .ok (.invokevirtual 87, 3) := by decide +kernel
theorem dX5_isForged_53 : decode cX5_isForged 53 = .ok (.ifCond .eq 7, 3) := by decide +kernel
theorem dX5_isForged_56 : decode cX5_isForged 56 = .ok (.iconst 1, 1) := by decide +kernel
theorem dX5_isForged_57 : decode cX5_isForged 57 = .ok (.goto 4, 3) := by decide +kernel
theorem dX5_isForged_60 : decode cX5_isForged 60 = .ok (.iconst 0, 1) := by decide +kernel
theorem dX5_isForged_61 : decode cX5_isForged 61 = .ok (.ireturn, 1) := by decide +kernel
theorem dX5_wasSick_0 : decode cX5_wasSick 0 = .ok (.iconst 0, 1) := by decide +kernel
theorem dX5_wasSick_1 : decode cX5_wasSick 1 = .ok (.istore_n 3, 1) := by decide +kernel
theorem dX5_wasSick_2 : decode cX5_wasSick 2 = .ok (.iload_n 3, 1) := by decide +kernel
theorem dX5_wasSick_3 : decode cX5_wasSick 3 = .ok (.aload_n 0, 1) := by decide +kernel
theorem dX5_wasSick_4 : decode cX5_wasSick 4 = .ok (.getfield 38, 3) := by decide +kernel
theorem dX5_wasSick_7 : decode cX5_wasSick 7 = .ok (.if_icmp .ge 40, 3) := by decide +kernel
theorem dX5_wasSick_10 : decode cX5_wasSick 10 = .ok (.aload_n 0, 1) := by decide +kernel
theorem dX5_wasSick_11 : decode cX5_wasSick 11 = .ok (.getfield 21, 3) := by decide +kernel
theorem dX5_wasSick_14 : decode cX5_wasSick 14 = .ok (.iload_n 3, 1) := by decide +kernel
theorem dX5_wasSick_15 : decode cX5_wasSick 15 = .ok (.iaload, 1) := by decide +kernel
theorem dX5_wasSick_16 : decode cX5_wasSick 16 = .ok (.iload_n 1, 1) := by decide +kernel
theorem dX5_wasSick_17 : decode cX5_wasSick 17 = .ok (.if_icmp .ne 24, 3) := by decide +kernel
theorem dX5_wasSick_20 : decode cX5_wasSick 20 = .ok (.iload_n 2, 1) := by decide +kernel
theorem dX5_wasSick_21 : decode cX5_wasSick 21 = .ok (.aload_n 0, 1) := by decide +kernel
theorem dX5_wasSick_22 : decode cX5_wasSick 22 = .ok (.getfield 24, 3) := by decide +kernel
theorem dX5_wasSick_25 : decode cX5_wasSick 25 = .ok (.iload_n 3, 1) := by decide +kernel
theorem dX5_wasSick_26 : decode cX5_wasSick 26 = .ok (.iaload, 1) := by decide +kernel
theorem dX5_wasSick_27 : decode cX5_wasSick 27 = .ok (.aload_n 0, 1) := by decide +kernel
theorem dX5_wasSick_28 : decode cX5_wasSick 28 = .ok (.getfield 27, 3) := by decide +kernel
theorem dX5_wasSick_31 : decode cX5_wasSick 31 = .ok (.iload_n 3, 1) := by decide +kernel
theorem dX5_wasSick_32 : decode cX5_wasSick 32 = .ok (.iaload, 1) := by decide +kernel
theorem dX5_wasSick_33 : decode cX5_wasSick 33 = .ok (.invokestatic 91, 3) := by decide +kernel
theorem dX5_wasSick_36 : decode cX5_wasSick 36 = .ok (.ifCond .eq 5, 3) := by decide +kernel
theorem dX5_wasSick_39 : decode cX5_wasSick 39 = .ok (.iconst 1, 1) := by decide +kernel
theorem dX5_wasSick_40 : decode cX5_wasSick 40 = .ok (.ireturn, 1) := by decide +kernel
theorem dX5_wasSick_41 : decode cX5_wasSick 41 = .ok (.iinc 3 1, 3) := by decide +kernel
theorem dX5_wasSick_44 : decode cX5_wasSick 44 = .ok (.goto (-42), 3) := by decide +kernel
theorem dX5_wasSick_47 : decode cX5_wasSick 47 = .ok (.iconst 0, 1) := by decide +kernel
theorem dX5_wasSick_48 : decode cX5_wasSick 48 = .ok (.ireturn, 1) := by decide +kernel
theorem dX5_isSealOfOtherHand_0 : decode cX5_isSealOfOtherHand 0 = .ok (.iconst 0, 1) := by decide +kernel
theorem dX5_isSealOfOtherHand_1 : decode cX5_isSealOfOtherHand 1 = .ok (.istore_n 2, 1) := by decide +kernel
theorem dX5_isSealOfOtherHand_2 : decode cX5_isSealOfOtherHand 2 = .ok (.iload_n 2, 1) := by decide +kernel
theorem dX5_isSealOfOtherHand_3 : decode cX5_isSealOfOtherHand 3 = .ok (.iload_n 1, 1) := by decide +kernel
theorem dX5_isSealOfOtherHand_4 : decode cX5_isSealOfOtherHand 4 = .ok (.if_icmp .ge 41, 3) := by decide +kernel
theorem dX5_isSealOfOtherHand_7 : decode cX5_isSealOfOtherHand 7 = .ok (.aload_n 0, 1) := by decide +kernel
theorem dX5_isSealOfOtherHand_8 : decode cX5_isSealOfOtherHand 8 = .ok (.iload_n 2, 1) := by decide +kernel
theorem dX5_isSealOfOtherHand_9 : decode cX5_isSealOfOtherHand 9 = .ok (.iconst 2, 1) := by decide +kernel
theorem dX5_isSealOfOtherHand_10 : decode cX5_isSealOfOtherHand 10 = .ok (.invokevirtual 51, 3) := by decide +kernel
theorem dX5_isSealOfOtherHand_13 : decode cX5_isSealOfOtherHand 13 = .ok (.aload_n 0, 1) := by decide +kernel
theorem dX5_isSealOfOtherHand_14 : decode cX5_isSealOfOtherHand 14 = .ok (.iload_n 1, 1) := by decide +kernel
theorem dX5_isSealOfOtherHand_15 : decode cX5_isSealOfOtherHand 15 = .ok (.iconst 2, 1) := by decide +kernel
theorem dX5_isSealOfOtherHand_16 : decode cX5_isSealOfOtherHand 16 = .ok (.invokevirtual 51, 3) := by decide +kernel
theorem dX5_isSealOfOtherHand_19 : decode cX5_isSealOfOtherHand 19 = .ok (.if_icmp .ne 20, 3) := by decide +kernel
theorem dX5_isSealOfOtherHand_22 : decode cX5_isSealOfOtherHand 22 = .ok (.aload_n 0, 1) := by decide +kernel
theorem dX5_isSealOfOtherHand_23 : decode cX5_isSealOfOtherHand 23 = .ok (.iload_n 2, 1) := by decide +kernel
theorem dX5_isSealOfOtherHand_24 : decode cX5_isSealOfOtherHand 24 = .ok (.iconst 3, 1) := by decide +kernel
theorem dX5_isSealOfOtherHand_25 : decode cX5_isSealOfOtherHand 25 = .ok (.invokevirtual 51, 3) := by decide +kernel
theorem dX5_isSealOfOtherHand_28 : decode cX5_isSealOfOtherHand 28 = .ok (.aload_n 0, 1) := by decide +kernel
theorem dX5_isSealOfOtherHand_29 : decode cX5_isSealOfOtherHand 29 = .ok (.iload_n 1, 1) := by decide +kernel
theorem dX5_isSealOfOtherHand_30 : decode cX5_isSealOfOtherHand 30 = .ok (.iconst 3, 1) := by decide +kernel
theorem dX5_isSealOfOtherHand_31 : decode cX5_isSealOfOtherHand 31 = .ok (.invokevirtual 51, 3) := by decide +kernel
theorem dX5_isSealOfOtherHand_34 : decode cX5_isSealOfOtherHand 34 = .ok (.if_icmp .eq 5, 3) := by decide +kernel
theorem dX5_isSealOfOtherHand_37 : decode cX5_isSealOfOtherHand 37 = .ok (.iconst 1, 1) := by decide +kernel
theorem dX5_isSealOfOtherHand_38 : decode cX5_isSealOfOtherHand 38 = .ok (.ireturn, 1) := by decide +kernel
theorem dX5_isSealOfOtherHand_39 : decode cX5_isSealOfOtherHand 39 = .ok (.iinc 2 1, 3) := by decide +kernel
theorem dX5_isSealOfOtherHand_42 : decode cX5_isSealOfOtherHand 42 = .ok (.goto (-40), 3) := by decide +kernel
theorem dX5_isSealOfOtherHand_45 : decode cX5_isSealOfOtherHand 45 = .ok (.iconst 0, 1) := by decide +kernel
theorem dX5_isSealOfOtherHand_46 : decode cX5_isSealOfOtherHand 46 = .ok (.ireturn, 1) := by decide +kernel
set_option maxRecDepth 100000 in
set_option maxHeartbeats 4000000 in
theorem B_X0_sizeOf_0 {g : gp} {u : sg} {Q : Option Value → sg → Prop} (x1 : Int32) (x2 : Int32) (h : ((x2 = 1 → Go g iX0_tollSize 0 [some (.ref (gd g 1)), some (.int x1)] [] u (QI (fun r1 u1 => Q (some (.int r1)) u1))) ∧ (x2 = 2 → Go g iX0_healthSize 0 [some (.ref (gd g 1)), some (.int x1), some (.int 0), none] [] u (QI (fun r2 u2 => Q (some (.int r2)) u2))) ∧ (x2 = 3 → Go g iX0_forgedSize 0 [some (.ref (gd g 1)), some (.int x1)] [] u (QI (fun r3 u3 => Q (some (.int r3)) u3))) ∧ (x2 = 4 → Go g iX0_nightSize 0 [some (.ref (gd g 1)), some (.int x1)] [] u (QI (fun r4 u4 => Q (some (.int r4)) u4))) ∧ (¬ x2 = 1 → ¬ x2 = 2 → ¬ x2 = 3 → ¬ x2 = 4 → Go g iX0_lentSize 0 [some (.ref (gd g 1)), some (.int x1)] [] u (QI (fun r5 u5 => Q (some (.int r5)) u5))))) : Go g iX0_sizeOf 0 [some (.ref (gd g 1)), some (.int x1), some (.int x2)] [] u Q := by
  refine go_iload_n dX0_sizeOf_0 rfl rfl ?_
  by_cases hc0 : x2 = 1
  · replace h := h.1 hc0
    refine go_tabIn (off := 31) (tgt := 32) dX0_sizeOf_1 (by rw [hc0]; decide) (by rw [hc0]; decide) (by rw [hc0]; decide) (by decide) ?_
    refine go_aload_n dX0_sizeOf_32 rfl rfl ?_
    refine go_iload_n dX0_sizeOf_33 rfl rfl ?_
    refine go_cVi (o := 1) (As := [.int x1]) (st := []) (lc := [some (.ref (gd g 1)), some (.int x1)]) dX0_sizeOf_34 me_X0_tollSize rfl ob_1 qm_X0_17 rfl (Nat.le_of_ble_eq_true rfl) rfl ⟨Nat.le_of_ble_eq_true rfl, Nat.le_of_ble_eq_true rfl⟩ rfl (Nat.le_of_ble_eq_true rfl) h (fun r1 u1 h => ?_)
    exact go_iret dX0_sizeOf_37 rfl h
  replace h := h.2
  by_cases hc1 : x2 = 2
  · replace h := h.1 hc1
    refine go_tabIn (off := 37) (tgt := 38) dX0_sizeOf_1 (by rw [hc1]; decide) (by rw [hc1]; decide) (by rw [hc1]; decide) (by decide) ?_
    refine go_aload_n dX0_sizeOf_38 rfl rfl ?_
    refine go_iload_n dX0_sizeOf_39 rfl rfl ?_
    refine go_iconst (v := 0) dX0_sizeOf_40 (by decide) ?_
    refine go_cVi (o := 1) (As := [.int x1, .int 0]) (st := []) (lc := [some (.ref (gd g 1)), some (.int x1), some (.int 0), none]) dX0_sizeOf_41 me_X0_healthSize rfl ob_1 qm_X0_21 rfl (Nat.le_of_ble_eq_true rfl) rfl ⟨Nat.le_of_ble_eq_true rfl, Nat.le_of_ble_eq_true rfl⟩ rfl (Nat.le_of_ble_eq_true rfl) h (fun r2 u2 h => ?_)
    exact go_iret dX0_sizeOf_44 rfl h
  replace h := h.2
  by_cases hc2 : x2 = 3
  · replace h := h.1 hc2
    refine go_tabIn (off := 44) (tgt := 45) dX0_sizeOf_1 (by rw [hc2]; decide) (by rw [hc2]; decide) (by rw [hc2]; decide) (by decide) ?_
    refine go_aload_n dX0_sizeOf_45 rfl rfl ?_
    refine go_iload_n dX0_sizeOf_46 rfl rfl ?_
    refine go_cVi (o := 1) (As := [.int x1]) (st := []) (lc := [some (.ref (gd g 1)), some (.int x1)]) dX0_sizeOf_47 me_X0_forgedSize rfl ob_1 qm_X0_25 rfl (Nat.le_of_ble_eq_true rfl) rfl ⟨Nat.le_of_ble_eq_true rfl, Nat.le_of_ble_eq_true rfl⟩ rfl (Nat.le_of_ble_eq_true rfl) h (fun r3 u3 h => ?_)
    exact go_iret dX0_sizeOf_50 rfl h
  replace h := h.2
  by_cases hc3 : x2 = 4
  · replace h := h.1 hc3
    refine go_tabIn (off := 50) (tgt := 51) dX0_sizeOf_1 (by rw [hc3]; decide) (by rw [hc3]; decide) (by rw [hc3]; decide) (by decide) ?_
    refine go_aload_n dX0_sizeOf_51 rfl rfl ?_
    refine go_iload_n dX0_sizeOf_52 rfl rfl ?_
    refine go_cVi (o := 1) (As := [.int x1]) (st := []) (lc := [some (.ref (gd g 1)), some (.int x1)]) dX0_sizeOf_53 me_X0_nightSize rfl ob_1 qm_X0_28 rfl (Nat.le_of_ble_eq_true rfl) rfl ⟨Nat.le_of_ble_eq_true rfl, Nat.le_of_ble_eq_true rfl⟩ rfl (Nat.le_of_ble_eq_true rfl) h (fun r4 u4 h => ?_)
    exact go_iret dX0_sizeOf_56 rfl h
  replace h := h.2
  replace h := h hc0 hc1 hc2 hc3
  refine go_tabOut (tgt := 57) dX0_sizeOf_1 (by have e0 : x2.toInt ≠ 1 := tab_ne hc0; have e1 : x2.toInt ≠ 2 := tab_ne hc1; have e2 : x2.toInt ≠ 3 := tab_ne hc2; have e3 : x2.toInt ≠ 4 := tab_ne hc3; omega) (by decide) ?_
  refine go_aload_n dX0_sizeOf_57 rfl rfl ?_
  refine go_iload_n dX0_sizeOf_58 rfl rfl ?_
  refine go_cVi (o := 1) (As := [.int x1]) (st := []) (lc := [some (.ref (gd g 1)), some (.int x1)]) dX0_sizeOf_59 me_X0_lentSize rfl ob_1 qm_X0_31 rfl (Nat.le_of_ble_eq_true rfl) rfl ⟨Nat.le_of_ble_eq_true rfl, Nat.le_of_ble_eq_true rfl⟩ rfl (Nat.le_of_ble_eq_true rfl) h (fun r5 u5 h => ?_)
  exact go_iret dX0_sizeOf_62 rfl h
set_option maxRecDepth 100000 in
set_option maxHeartbeats 4000000 in
theorem B_X0_markOf_0 {g : gp} {u : sg} {Q : Option Value → sg → Prop} (x1 : Int32) (x2 : Int32) (h : ((x2 = 2 → Go g iX0_healthMark 0 [some (.ref (gd g 1)), some (.int x1)] [] u (QI (fun r1 u1 => Q (some (.int r1)) u1))) ∧ (x2 = 3 → Go g iX0_forgedMark 0 [some (.ref (gd g 1)), some (.int x1)] [] u (QI (fun r2 u2 => Q (some (.int r2)) u2))) ∧ (x2 = 4 → Go g iX0_nightMark 0 [some (.ref (gd g 1)), some (.int x1), none] [] u (QI (fun r3 u3 => Q (some (.int r3)) u3))) ∧ (¬ x2 = 2 → ¬ x2 = 3 → ¬ x2 = 4 → Go g iX0_lentMark 0 [some (.ref (gd g 1)), some (.int x1)] [] u (QI (fun r4 u4 => Q (some (.int r4)) u4))))) : Go g iX0_markOf 0 [some (.ref (gd g 1)), some (.int x1), some (.int x2)] [] u Q := by
  refine go_iload_n dX0_markOf_0 rfl rfl ?_
  by_cases hc0 : x2 = 2
  · replace h := h.1 hc0
    refine go_tabIn (off := 27) (tgt := 28) dX0_markOf_1 (by rw [hc0]; decide) (by rw [hc0]; decide) (by rw [hc0]; decide) (by decide) ?_
    refine go_aload_n dX0_markOf_28 rfl rfl ?_
    refine go_iload_n dX0_markOf_29 rfl rfl ?_
    refine go_cVi (o := 1) (As := [.int x1]) (st := []) (lc := [some (.ref (gd g 1)), some (.int x1)]) dX0_markOf_30 me_X0_healthMark rfl ob_1 qm_X0_34 rfl (Nat.le_of_ble_eq_true rfl) rfl ⟨Nat.le_of_ble_eq_true rfl, Nat.le_of_ble_eq_true rfl⟩ rfl (Nat.le_of_ble_eq_true rfl) h (fun r1 u1 h => ?_)
    exact go_iret dX0_markOf_33 rfl h
  replace h := h.2
  by_cases hc1 : x2 = 3
  · replace h := h.1 hc1
    refine go_tabIn (off := 33) (tgt := 34) dX0_markOf_1 (by rw [hc1]; decide) (by rw [hc1]; decide) (by rw [hc1]; decide) (by decide) ?_
    refine go_aload_n dX0_markOf_34 rfl rfl ?_
    refine go_iload_n dX0_markOf_35 rfl rfl ?_
    refine go_cVi (o := 1) (As := [.int x1]) (st := []) (lc := [some (.ref (gd g 1)), some (.int x1)]) dX0_markOf_36 me_X0_forgedMark rfl ob_1 qm_X0_37 rfl (Nat.le_of_ble_eq_true rfl) rfl ⟨Nat.le_of_ble_eq_true rfl, Nat.le_of_ble_eq_true rfl⟩ rfl (Nat.le_of_ble_eq_true rfl) h (fun r2 u2 h => ?_)
    exact go_iret dX0_markOf_39 rfl h
  replace h := h.2
  by_cases hc2 : x2 = 4
  · replace h := h.1 hc2
    refine go_tabIn (off := 39) (tgt := 40) dX0_markOf_1 (by rw [hc2]; decide) (by rw [hc2]; decide) (by rw [hc2]; decide) (by decide) ?_
    refine go_aload_n dX0_markOf_40 rfl rfl ?_
    refine go_iload_n dX0_markOf_41 rfl rfl ?_
    refine go_cVi (o := 1) (As := [.int x1]) (st := []) (lc := [some (.ref (gd g 1)), some (.int x1), none]) dX0_markOf_42 me_X0_nightMark rfl ob_1 qm_X0_40 rfl (Nat.le_of_ble_eq_true rfl) rfl ⟨Nat.le_of_ble_eq_true rfl, Nat.le_of_ble_eq_true rfl⟩ rfl (Nat.le_of_ble_eq_true rfl) h (fun r3 u3 h => ?_)
    exact go_iret dX0_markOf_45 rfl h
  replace h := h.2
  replace h := h hc0 hc1 hc2
  refine go_tabOut (tgt := 46) dX0_markOf_1 (by have e0 : x2.toInt ≠ 2 := tab_ne hc0; have e1 : x2.toInt ≠ 3 := tab_ne hc1; have e2 : x2.toInt ≠ 4 := tab_ne hc2; omega) (by decide) ?_
  refine go_aload_n dX0_markOf_46 rfl rfl ?_
  refine go_iload_n dX0_markOf_47 rfl rfl ?_
  refine go_cVi (o := 1) (As := [.int x1]) (st := []) (lc := [some (.ref (gd g 1)), some (.int x1)]) dX0_markOf_48 me_X0_lentMark rfl ob_1 qm_X0_43 rfl (Nat.le_of_ble_eq_true rfl) rfl ⟨Nat.le_of_ble_eq_true rfl, Nat.le_of_ble_eq_true rfl⟩ rfl (Nat.le_of_ble_eq_true rfl) h (fun r4 u4 h => ?_)
  exact go_iret dX0_markOf_51 rfl h
set_option maxRecDepth 100000 in
set_option maxHeartbeats 4000000 in
theorem B_X0_lentSize_0 {g : gp} {u : sg} {Q : Option Value → sg → Prop} (x1 : Int32) (h : Go g iX0_leave 0 [some (.ref (gd g 1)), some (.int 10)] [] u (QV (fun u1 => Go g iX5_itemOf 0 [some (.ref (gd g 6)), some (.int x1), some (.int 6)] [] u1 (QI (fun r2 u2 => Go g iX5_itemOf 0 [some (.ref (gd g 6)), some (.int x1), some (.int 5)] [] u2 (QI (fun r3 u3 => Q (some (.int (r2 - r3))) u3))))))) : Go g iX0_lentSize 0 [some (.ref (gd g 1)), some (.int x1)] [] u Q := by
  refine go_aload_n dX0_lentSize_0 rfl rfl ?_
  refine go_bipush (v := 10) dX0_lentSize_1 (by decide) ?_
  refine go_cVv (o := 1) (As := [.int 10]) (st := []) (lc := [some (.ref (gd g 1)), some (.int 10)]) dX0_lentSize_3 me_X0_leave rfl ob_1 qm_X0_46 rfl (Nat.le_of_ble_eq_true rfl) rfl ⟨Nat.le_of_ble_eq_true rfl, Nat.le_of_ble_eq_true rfl⟩ rfl (Nat.le_of_ble_eq_true rfl) h (fun u1 h => ?_)
  refine go_aload_n dX0_lentSize_6 rfl rfl ?_
  refine go_get (k := 0) (v := .ref (gd g 6)) dX0_lentSize_7 ob_1 (by decide) qf_X0_13 rfl ?_
  refine go_iload_n dX0_lentSize_10 rfl rfl ?_
  refine go_bipush (v := 6) dX0_lentSize_11 (by decide) ?_
  refine go_cVi (o := 6) (As := [.int x1, .int 6]) (st := []) (lc := [some (.ref (gd g 6)), some (.int x1), some (.int 6)]) dX0_lentSize_13 me_X5_itemOf rfl ob_6 qm_X0_52 rfl (Nat.le_of_ble_eq_true rfl) rfl ⟨Nat.le_of_ble_eq_true rfl, Nat.le_of_ble_eq_true rfl⟩ rfl (Nat.le_of_ble_eq_true rfl) h (fun r2 u2 h => ?_)
  refine go_aload_n dX0_lentSize_16 rfl rfl ?_
  refine go_get (k := 0) (v := .ref (gd g 6)) dX0_lentSize_17 ob_1 (by decide) qf_X0_13 rfl ?_
  refine go_iload_n dX0_lentSize_20 rfl rfl ?_
  refine go_iconst (v := 5) dX0_lentSize_21 (by decide) ?_
  refine go_cVi (o := 6) (As := [.int x1, .int 5]) (st := [.int r2]) (lc := [some (.ref (gd g 6)), some (.int x1), some (.int 5)]) dX0_lentSize_22 me_X5_itemOf rfl ob_6 qm_X0_52 rfl (Nat.le_of_ble_eq_true rfl) rfl ⟨Nat.le_of_ble_eq_true rfl, Nat.le_of_ble_eq_true rfl⟩ rfl (Nat.le_of_ble_eq_true rfl) h (fun r3 u3 h => ?_)
  refine go_isub dX0_lentSize_25 ?_
  exact go_iret dX0_lentSize_26 rfl h
set_option maxRecDepth 100000 in
set_option maxHeartbeats 4000000 in
theorem B_X0_tollSize_0 {g : gp} {u : sg} {Q : Option Value → sg → Prop} (x1 : Int32) (h : Go g iX0_leave 0 [some (.ref (gd g 1)), some (.int 11)] [] u (QV (fun u1 => Go g iX0_lentSize 0 [some (.ref (gd g 1)), some (.int x1)] [] u1 (QI (fun r2 u2 => Q (some (.int (2 * r2))) u2))))) : Go g iX0_tollSize 0 [some (.ref (gd g 1)), some (.int x1)] [] u Q := by
  refine go_aload_n dX0_tollSize_0 rfl rfl ?_
  refine go_bipush (v := 11) dX0_tollSize_1 (by decide) ?_
  refine go_cVv (o := 1) (As := [.int 11]) (st := []) (lc := [some (.ref (gd g 1)), some (.int 11)]) dX0_tollSize_3 me_X0_leave rfl ob_1 qm_X0_46 rfl (Nat.le_of_ble_eq_true rfl) rfl ⟨Nat.le_of_ble_eq_true rfl, Nat.le_of_ble_eq_true rfl⟩ rfl (Nat.le_of_ble_eq_true rfl) h (fun u1 h => ?_)
  refine go_iconst (v := 2) dX0_tollSize_6 (by decide) ?_
  refine go_aload_n dX0_tollSize_7 rfl rfl ?_
  refine go_iload_n dX0_tollSize_8 rfl rfl ?_
  refine go_cVi (o := 1) (As := [.int x1]) (st := [.int 2]) (lc := [some (.ref (gd g 1)), some (.int x1)]) dX0_tollSize_9 me_X0_lentSize rfl ob_1 qm_X0_31 rfl (Nat.le_of_ble_eq_true rfl) rfl ⟨Nat.le_of_ble_eq_true rfl, Nat.le_of_ble_eq_true rfl⟩ rfl (Nat.le_of_ble_eq_true rfl) h (fun r2 u2 h => ?_)
  refine go_imul dX0_tollSize_12 ?_
  exact go_iret dX0_tollSize_13 rfl h
set_option maxRecDepth 100000 in
set_option maxHeartbeats 4000000 in
theorem B_X0_healthSize_0 {g : gp} {u : sg} {Q : Option Value → sg → Prop} (x1 : Int32) (x2 : Int32) (h : Go g iX0_leave 0 [some (.ref (gd g 1)), some (.int 12)] [] u (QV (fun u1 => Go g iX0_lentSize 0 [some (.ref (gd g 1)), some (.int x1)] [] u1 (QI (fun r2 u2 => ((x2 = (0 : Int32) → Go g iX0_healthMark 0 [some (.ref (gd g 1)), some (.int x1)] [] u2 (QI (fun r3 u3 => Q (some (.int (r2 + r3))) u3))) ∧ (¬ x2 = (0 : Int32) → Go g iX0_forgedMark 0 [some (.ref (gd g 1)), some (.int x1)] [] u2 (QI (fun r4 u4 => Q (some (.int (r2 + r4))) u4))))))))) : Go g iX0_healthSize 0 [some (.ref (gd g 1)), some (.int x1), some (.int x2), none] [] u Q := by
  refine go_aload_n dX0_healthSize_0 rfl rfl ?_
  refine go_bipush (v := 12) dX0_healthSize_1 (by decide) ?_
  refine go_cVv (o := 1) (As := [.int 12]) (st := []) (lc := [some (.ref (gd g 1)), some (.int 12)]) dX0_healthSize_3 me_X0_leave rfl ob_1 qm_X0_46 rfl (Nat.le_of_ble_eq_true rfl) rfl ⟨Nat.le_of_ble_eq_true rfl, Nat.le_of_ble_eq_true rfl⟩ rfl (Nat.le_of_ble_eq_true rfl) h (fun u1 h => ?_)
  refine go_aload_n dX0_healthSize_6 rfl rfl ?_
  refine go_iload_n dX0_healthSize_7 rfl rfl ?_
  refine go_cVi (o := 1) (As := [.int x1]) (st := []) (lc := [some (.ref (gd g 1)), some (.int x1)]) dX0_healthSize_8 me_X0_lentSize rfl ob_1 qm_X0_31 rfl (Nat.le_of_ble_eq_true rfl) rfl ⟨Nat.le_of_ble_eq_true rfl, Nat.le_of_ble_eq_true rfl⟩ rfl (Nat.le_of_ble_eq_true rfl) h (fun r2 u2 h => ?_)
  refine go_istore_n (lm := [some (.ref (gd g 1)), some (.int x1), some (.int x2), some (.int r2)]) dX0_healthSize_11 rfl (by decide) rfl rfl ?_
  refine go_iload_n dX0_healthSize_12 rfl rfl ?_
  refine go_iload_n dX0_healthSize_13 rfl rfl ?_
  refine go_if_eq (tgt := 25) dX0_healthSize_14 (by decide) (fun hc => ?_) (fun hc => ?_)
  · replace h := h.1 hc
    refine go_aload_n dX0_healthSize_25 rfl rfl ?_
    refine go_iload_n dX0_healthSize_26 rfl rfl ?_
    refine go_cVi (o := 1) (As := [.int x1]) (st := [.int r2]) (lc := [some (.ref (gd g 1)), some (.int x1)]) dX0_healthSize_27 me_X0_healthMark rfl ob_1 qm_X0_34 rfl (Nat.le_of_ble_eq_true rfl) rfl ⟨Nat.le_of_ble_eq_true rfl, Nat.le_of_ble_eq_true rfl⟩ rfl (Nat.le_of_ble_eq_true rfl) h (fun r3 u3 h => ?_)
    refine go_iadd dX0_healthSize_30 ?_
    exact go_iret dX0_healthSize_31 rfl h
  · replace h := h.2 hc
    refine go_aload_n dX0_healthSize_17 rfl rfl ?_
    refine go_iload_n dX0_healthSize_18 rfl rfl ?_
    refine go_cVi (o := 1) (As := [.int x1]) (st := [.int r2]) (lc := [some (.ref (gd g 1)), some (.int x1)]) dX0_healthSize_19 me_X0_forgedMark rfl ob_1 qm_X0_37 rfl (Nat.le_of_ble_eq_true rfl) rfl ⟨Nat.le_of_ble_eq_true rfl, Nat.le_of_ble_eq_true rfl⟩ rfl (Nat.le_of_ble_eq_true rfl) h (fun r4 u4 h => ?_)
    refine go_goto (tgt := 30) dX0_healthSize_22 (by decide) ?_
    refine go_iadd dX0_healthSize_30 ?_
    exact go_iret dX0_healthSize_31 rfl h
set_option maxRecDepth 100000 in
set_option maxHeartbeats 4000000 in
theorem B_X0_forgedSize_0 {g : gp} {u : sg} {Q : Option Value → sg → Prop} (x1 : Int32) (h : Go g iX0_leave 0 [some (.ref (gd g 1)), some (.int 13)] [] u (QV (fun u1 => Go g iX0_healthSize 0 [some (.ref (gd g 1)), some (.int x1), some (.int 1), none] [] u1 (QI (fun r2 u2 => Q (some (.int (-r2))) u2))))) : Go g iX0_forgedSize 0 [some (.ref (gd g 1)), some (.int x1)] [] u Q := by
  refine go_aload_n dX0_forgedSize_0 rfl rfl ?_
  refine go_bipush (v := 13) dX0_forgedSize_1 (by decide) ?_
  refine go_cVv (o := 1) (As := [.int 13]) (st := []) (lc := [some (.ref (gd g 1)), some (.int 13)]) dX0_forgedSize_3 me_X0_leave rfl ob_1 qm_X0_46 rfl (Nat.le_of_ble_eq_true rfl) rfl ⟨Nat.le_of_ble_eq_true rfl, Nat.le_of_ble_eq_true rfl⟩ rfl (Nat.le_of_ble_eq_true rfl) h (fun u1 h => ?_)
  refine go_aload_n dX0_forgedSize_6 rfl rfl ?_
  refine go_iload_n dX0_forgedSize_7 rfl rfl ?_
  refine go_iconst (v := 1) dX0_forgedSize_8 (by decide) ?_
  refine go_cVi (o := 1) (As := [.int x1, .int 1]) (st := []) (lc := [some (.ref (gd g 1)), some (.int x1), some (.int 1), none]) dX0_forgedSize_9 me_X0_healthSize rfl ob_1 qm_X0_21 rfl (Nat.le_of_ble_eq_true rfl) rfl ⟨Nat.le_of_ble_eq_true rfl, Nat.le_of_ble_eq_true rfl⟩ rfl (Nat.le_of_ble_eq_true rfl) h (fun r2 u2 h => ?_)
  refine go_ineg dX0_forgedSize_12 ?_
  exact go_iret dX0_forgedSize_13 rfl h
set_option maxRecDepth 100000 in
set_option maxHeartbeats 4000000 in
theorem B_X0_nightSize_0 {g : gp} {u : sg} {Q : Option Value → sg → Prop} (x1 : Int32) (h : Go g iX0_leave 0 [some (.ref (gd g 1)), some (.int 14)] [] u (QV (fun u1 => Go g iX0_lentSize 0 [some (.ref (gd g 1)), some (.int x1)] [] u1 (QI (fun r2 u2 => Go g iX5_itemOf 0 [some (.ref (gd g 6)), some (.int x1), some (.int 1)] [] u2 (QI (fun r3 u3 => Q (some (.int (r2 + r3))) u3))))))) : Go g iX0_nightSize 0 [some (.ref (gd g 1)), some (.int x1)] [] u Q := by
  refine go_aload_n dX0_nightSize_0 rfl rfl ?_
  refine go_bipush (v := 14) dX0_nightSize_1 (by decide) ?_
  refine go_cVv (o := 1) (As := [.int 14]) (st := []) (lc := [some (.ref (gd g 1)), some (.int 14)]) dX0_nightSize_3 me_X0_leave rfl ob_1 qm_X0_46 rfl (Nat.le_of_ble_eq_true rfl) rfl ⟨Nat.le_of_ble_eq_true rfl, Nat.le_of_ble_eq_true rfl⟩ rfl (Nat.le_of_ble_eq_true rfl) h (fun u1 h => ?_)
  refine go_aload_n dX0_nightSize_6 rfl rfl ?_
  refine go_iload_n dX0_nightSize_7 rfl rfl ?_
  refine go_cVi (o := 1) (As := [.int x1]) (st := []) (lc := [some (.ref (gd g 1)), some (.int x1)]) dX0_nightSize_8 me_X0_lentSize rfl ob_1 qm_X0_31 rfl (Nat.le_of_ble_eq_true rfl) rfl ⟨Nat.le_of_ble_eq_true rfl, Nat.le_of_ble_eq_true rfl⟩ rfl (Nat.le_of_ble_eq_true rfl) h (fun r2 u2 h => ?_)
  refine go_aload_n dX0_nightSize_11 rfl rfl ?_
  refine go_get (k := 0) (v := .ref (gd g 6)) dX0_nightSize_12 ob_1 (by decide) qf_X0_13 rfl ?_
  refine go_iload_n dX0_nightSize_15 rfl rfl ?_
  refine go_iconst (v := 1) dX0_nightSize_16 (by decide) ?_
  refine go_cVi (o := 6) (As := [.int x1, .int 1]) (st := [.int r2]) (lc := [some (.ref (gd g 6)), some (.int x1), some (.int 1)]) dX0_nightSize_17 me_X5_itemOf rfl ob_6 qm_X0_52 rfl (Nat.le_of_ble_eq_true rfl) rfl ⟨Nat.le_of_ble_eq_true rfl, Nat.le_of_ble_eq_true rfl⟩ rfl (Nat.le_of_ble_eq_true rfl) h (fun r3 u3 h => ?_)
  refine go_iadd dX0_nightSize_20 ?_
  exact go_iret dX0_nightSize_21 rfl h
set_option maxRecDepth 100000 in
set_option maxHeartbeats 4000000 in
theorem B_X0_lentMark_0 {g : gp} {u : sg} {Q : Option Value → sg → Prop} (x1 : Int32) (h : Go g iX0_leave 0 [some (.ref (gd g 1)), some (.int 20)] [] u (QV (fun u1 => Go g iX5_itemOf 0 [some (.ref (gd g 6)), some (.int x1), some (.int 2)] [] u1 (QI (fun r2 u2 => Q (some (.int r2)) u2))))) : Go g iX0_lentMark 0 [some (.ref (gd g 1)), some (.int x1)] [] u Q := by
  refine go_aload_n dX0_lentMark_0 rfl rfl ?_
  refine go_bipush (v := 20) dX0_lentMark_1 (by decide) ?_
  refine go_cVv (o := 1) (As := [.int 20]) (st := []) (lc := [some (.ref (gd g 1)), some (.int 20)]) dX0_lentMark_3 me_X0_leave rfl ob_1 qm_X0_46 rfl (Nat.le_of_ble_eq_true rfl) rfl ⟨Nat.le_of_ble_eq_true rfl, Nat.le_of_ble_eq_true rfl⟩ rfl (Nat.le_of_ble_eq_true rfl) h (fun u1 h => ?_)
  refine go_aload_n dX0_lentMark_6 rfl rfl ?_
  refine go_get (k := 0) (v := .ref (gd g 6)) dX0_lentMark_7 ob_1 (by decide) qf_X0_13 rfl ?_
  refine go_iload_n dX0_lentMark_10 rfl rfl ?_
  refine go_iconst (v := 2) dX0_lentMark_11 (by decide) ?_
  refine go_cVi (o := 6) (As := [.int x1, .int 2]) (st := []) (lc := [some (.ref (gd g 6)), some (.int x1), some (.int 2)]) dX0_lentMark_12 me_X5_itemOf rfl ob_6 qm_X0_52 rfl (Nat.le_of_ble_eq_true rfl) rfl ⟨Nat.le_of_ble_eq_true rfl, Nat.le_of_ble_eq_true rfl⟩ rfl (Nat.le_of_ble_eq_true rfl) h (fun r2 u2 h => ?_)
  exact go_iret dX0_lentMark_15 rfl h
set_option maxRecDepth 100000 in
set_option maxHeartbeats 4000000 in
theorem B_X0_healthMark_0 {g : gp} {u : sg} {Q : Option Value → sg → Prop} (x1 : Int32) (h : Go g iX0_leave 0 [some (.ref (gd g 1)), some (.int 21)] [] u (QV (fun u1 => Go g iX0_lentMark 0 [some (.ref (gd g 1)), some (.int x1)] [] u1 (QI (fun r2 u2 => Go g iX5_itemOf 0 [some (.ref (gd g 6)), some (.int x1), some (.int 4)] [] u2 (QI (fun r3 u3 => Q (some (.int (r2 + (100 * r3)))) u3))))))) : Go g iX0_healthMark 0 [some (.ref (gd g 1)), some (.int x1)] [] u Q := by
  refine go_aload_n dX0_healthMark_0 rfl rfl ?_
  refine go_bipush (v := 21) dX0_healthMark_1 (by decide) ?_
  refine go_cVv (o := 1) (As := [.int 21]) (st := []) (lc := [some (.ref (gd g 1)), some (.int 21)]) dX0_healthMark_3 me_X0_leave rfl ob_1 qm_X0_46 rfl (Nat.le_of_ble_eq_true rfl) rfl ⟨Nat.le_of_ble_eq_true rfl, Nat.le_of_ble_eq_true rfl⟩ rfl (Nat.le_of_ble_eq_true rfl) h (fun u1 h => ?_)
  refine go_aload_n dX0_healthMark_6 rfl rfl ?_
  refine go_iload_n dX0_healthMark_7 rfl rfl ?_
  refine go_cVi (o := 1) (As := [.int x1]) (st := []) (lc := [some (.ref (gd g 1)), some (.int x1)]) dX0_healthMark_8 me_X0_lentMark rfl ob_1 qm_X0_43 rfl (Nat.le_of_ble_eq_true rfl) rfl ⟨Nat.le_of_ble_eq_true rfl, Nat.le_of_ble_eq_true rfl⟩ rfl (Nat.le_of_ble_eq_true rfl) h (fun r2 u2 h => ?_)
  refine go_bipush (v := 100) dX0_healthMark_11 (by decide) ?_
  refine go_aload_n dX0_healthMark_13 rfl rfl ?_
  refine go_get (k := 0) (v := .ref (gd g 6)) dX0_healthMark_14 ob_1 (by decide) qf_X0_13 rfl ?_
  refine go_iload_n dX0_healthMark_17 rfl rfl ?_
  refine go_iconst (v := 4) dX0_healthMark_18 (by decide) ?_
  refine go_cVi (o := 6) (As := [.int x1, .int 4]) (st := [.int 100, .int r2]) (lc := [some (.ref (gd g 6)), some (.int x1), some (.int 4)]) dX0_healthMark_19 me_X5_itemOf rfl ob_6 qm_X0_52 rfl (Nat.le_of_ble_eq_true rfl) rfl ⟨Nat.le_of_ble_eq_true rfl, Nat.le_of_ble_eq_true rfl⟩ rfl (Nat.le_of_ble_eq_true rfl) h (fun r3 u3 h => ?_)
  refine go_imul dX0_healthMark_22 ?_
  refine go_iadd dX0_healthMark_23 ?_
  exact go_iret dX0_healthMark_24 rfl h
set_option maxRecDepth 100000 in
set_option maxHeartbeats 4000000 in
theorem B_X0_forgedMark_0 {g : gp} {u : sg} {Q : Option Value → sg → Prop} (x1 : Int32) (h : Go g iX0_leave 0 [some (.ref (gd g 1)), some (.int 22)] [] u (QV (fun u1 => Go g iX0_healthMark 0 [some (.ref (gd g 1)), some (.int x1)] [] u1 (QI (fun r2 u2 => Go g iX5_itemOf 0 [some (.ref (gd g 6)), some (.int x1), some (.int 3)] [] u2 (QI (fun r3 u3 => Q (some (.int (r2 + r3))) u3))))))) : Go g iX0_forgedMark 0 [some (.ref (gd g 1)), some (.int x1)] [] u Q := by
  refine go_aload_n dX0_forgedMark_0 rfl rfl ?_
  refine go_bipush (v := 22) dX0_forgedMark_1 (by decide) ?_
  refine go_cVv (o := 1) (As := [.int 22]) (st := []) (lc := [some (.ref (gd g 1)), some (.int 22)]) dX0_forgedMark_3 me_X0_leave rfl ob_1 qm_X0_46 rfl (Nat.le_of_ble_eq_true rfl) rfl ⟨Nat.le_of_ble_eq_true rfl, Nat.le_of_ble_eq_true rfl⟩ rfl (Nat.le_of_ble_eq_true rfl) h (fun u1 h => ?_)
  refine go_aload_n dX0_forgedMark_6 rfl rfl ?_
  refine go_iload_n dX0_forgedMark_7 rfl rfl ?_
  refine go_cVi (o := 1) (As := [.int x1]) (st := []) (lc := [some (.ref (gd g 1)), some (.int x1)]) dX0_forgedMark_8 me_X0_healthMark rfl ob_1 qm_X0_34 rfl (Nat.le_of_ble_eq_true rfl) rfl ⟨Nat.le_of_ble_eq_true rfl, Nat.le_of_ble_eq_true rfl⟩ rfl (Nat.le_of_ble_eq_true rfl) h (fun r2 u2 h => ?_)
  refine go_aload_n dX0_forgedMark_11 rfl rfl ?_
  refine go_get (k := 0) (v := .ref (gd g 6)) dX0_forgedMark_12 ob_1 (by decide) qf_X0_13 rfl ?_
  refine go_iload_n dX0_forgedMark_15 rfl rfl ?_
  refine go_iconst (v := 3) dX0_forgedMark_16 (by decide) ?_
  refine go_cVi (o := 6) (As := [.int x1, .int 3]) (st := [.int r2]) (lc := [some (.ref (gd g 6)), some (.int x1), some (.int 3)]) dX0_forgedMark_17 me_X5_itemOf rfl ob_6 qm_X0_52 rfl (Nat.le_of_ble_eq_true rfl) rfl ⟨Nat.le_of_ble_eq_true rfl, Nat.le_of_ble_eq_true rfl⟩ rfl (Nat.le_of_ble_eq_true rfl) h (fun r3 u3 h => ?_)
  refine go_iadd dX0_forgedMark_20 ?_
  exact go_iret dX0_forgedMark_21 rfl h
set_option maxRecDepth 100000 in
set_option maxHeartbeats 4000000 in
theorem B_X0_nightMark_0 {g : gp} {u : sg} {Q : Option Value → sg → Prop} (x1 : Int32) (h : Go g iX0_leave 0 [some (.ref (gd g 1)), some (.int 23)] [] u (QV (fun u1 => Go g iX0_lentMark 0 [some (.ref (gd g 1)), some (.int x1)] [] u1 (QI (fun r2 u2 => Go g iX0_nightSize 0 [some (.ref (gd g 1)), some (.int x1)] [] u2 (QI (fun r3 u3 => Q (some (.int (r2 + r3))) u3))))))) : Go g iX0_nightMark 0 [some (.ref (gd g 1)), some (.int x1), none] [] u Q := by
  refine go_aload_n dX0_nightMark_0 rfl rfl ?_
  refine go_bipush (v := 23) dX0_nightMark_1 (by decide) ?_
  refine go_cVv (o := 1) (As := [.int 23]) (st := []) (lc := [some (.ref (gd g 1)), some (.int 23)]) dX0_nightMark_3 me_X0_leave rfl ob_1 qm_X0_46 rfl (Nat.le_of_ble_eq_true rfl) rfl ⟨Nat.le_of_ble_eq_true rfl, Nat.le_of_ble_eq_true rfl⟩ rfl (Nat.le_of_ble_eq_true rfl) h (fun u1 h => ?_)
  refine go_aload_n dX0_nightMark_6 rfl rfl ?_
  refine go_iload_n dX0_nightMark_7 rfl rfl ?_
  refine go_cVi (o := 1) (As := [.int x1]) (st := []) (lc := [some (.ref (gd g 1)), some (.int x1)]) dX0_nightMark_8 me_X0_lentMark rfl ob_1 qm_X0_43 rfl (Nat.le_of_ble_eq_true rfl) rfl ⟨Nat.le_of_ble_eq_true rfl, Nat.le_of_ble_eq_true rfl⟩ rfl (Nat.le_of_ble_eq_true rfl) h (fun r2 u2 h => ?_)
  refine go_istore_n (lm := [some (.ref (gd g 1)), some (.int x1), some (.int r2)]) dX0_nightMark_11 rfl (by decide) rfl rfl ?_
  refine go_iload_n dX0_nightMark_12 rfl rfl ?_
  refine go_aload_n dX0_nightMark_13 rfl rfl ?_
  refine go_iload_n dX0_nightMark_14 rfl rfl ?_
  refine go_cVi (o := 1) (As := [.int x1]) (st := [.int r2]) (lc := [some (.ref (gd g 1)), some (.int x1)]) dX0_nightMark_15 me_X0_nightSize rfl ob_1 qm_X0_28 rfl (Nat.le_of_ble_eq_true rfl) rfl ⟨Nat.le_of_ble_eq_true rfl, Nat.le_of_ble_eq_true rfl⟩ rfl (Nat.le_of_ble_eq_true rfl) h (fun r3 u3 h => ?_)
  refine go_iadd dX0_nightMark_18 ?_
  exact go_iret dX0_nightMark_19 rfl h
set_option maxRecDepth 100000 in
set_option maxHeartbeats 4000000 in
theorem B_X0_leave_0 {g : gp} {u : sg} {Q : Option Value → sg → Prop} (x1 : Int32) (h : (((16 : Int32) ≤ (u.1 1 2) → Q none u) ∧ (¬ (16 : Int32) ≤ (u.1 1 2) → (vp_in (u.1 1 2) 16 ∧ Q none (sI (sA u 13 (u.1 1 2).toNatClampNeg x1) 1 2 ((u.1 1 2) + 1)))))) : Go g iX0_leave 0 [some (.ref (gd g 1)), some (.int x1)] [] u Q := by
  refine go_aload_n dX0_leave_0 rfl rfl ?_
  refine go_get (k := 2) (v := .int (u.1 1 2)) dX0_leave_1 ob_1 (by decide) qf_X0_56 rfl ?_
  refine go_bipush (v := 16) dX0_leave_4 (by decide) ?_
  refine go_icmp_ge (tgt := 29) dX0_leave_6 (by decide) (fun hc => ?_) (fun hc => ?_)
  · replace h := h.1 hc
    exact go_vret dX0_leave_29 rfl h
  · replace h := h.2 hc
    refine go_aload_n dX0_leave_9 rfl rfl ?_
    refine go_get (k := 1) (v := .ref (gd g 13)) dX0_leave_10 ob_1 (by decide) qf_X0_9 rfl ?_
    refine go_aload_n dX0_leave_13 rfl rfl ?_
    refine go_get (k := 2) (v := .int (u.1 1 2)) dX0_leave_14 ob_1 (by decide) qf_X0_56 rfl ?_
    refine go_iload_n dX0_leave_17 rfl rfl ?_
    obtain ⟨hi, h⟩ := h
    refine go_ist (a := 13) (n := 16) dX0_leave_18 (by decide) (by decide) rfl hi ?_
    refine go_aload_n dX0_leave_19 rfl rfl ?_
    refine go_dup dX0_leave_20 rfl ?_
    refine go_get (k := 2) (v := .int (u.1 1 2)) dX0_leave_21 ob_1 (by decide) qf_X0_56 rfl ?_
    refine go_iconst (v := 1) dX0_leave_24 (by decide) ?_
    refine go_iadd dX0_leave_25 ?_
    refine go_put (k := 2) dX0_leave_26 ob_1 (by decide) qf_X0_56 rfl rfl pf_I ?_
    exact go_vret dX0_leave_29 rfl h
set_option maxRecDepth 100000 in
set_option maxHeartbeats 4000000 in
theorem B_X5_layRoad_0 {g : gp} {u : sg} {Q : Option Value → sg → Prop} (x1 : Int32) (x2 : Int32) (x3 : Int32) (h : (vp_in ((x1 * 8) + x2) 64 ∧ (vp_in ((x1 * 8) + x2) 64 ∧ (vp_in ((x2 * 8) + x1) 64 ∧ Q (some (.int (u.2 30 ((x1 * 8) + x2).toNatClampNeg))) (sA (sA u 30 ((x1 * 8) + x2).toNatClampNeg x3) 30 ((x2 * 8) + x1).toNatClampNeg x3))))) : Go g iX5_layRoad 0 [some (.ref (gd g 6)), some (.int x1), some (.int x2), some (.int x3), none] [] u Q := by
  refine go_aload_n dX5_layRoad_0 rfl rfl ?_
  refine go_get (k := 4) (v := .ref (gd g 30)) dX5_layRoad_1 ob_6 (by decide) qf_X5_15 rfl ?_
  refine go_iload_n dX5_layRoad_4 rfl rfl ?_
  refine go_bipush (v := 8) dX5_layRoad_5 (by decide) ?_
  refine go_imul dX5_layRoad_7 ?_
  refine go_iload_n dX5_layRoad_8 rfl rfl ?_
  refine go_iadd dX5_layRoad_9 ?_
  obtain ⟨hi, h⟩ := h
  refine go_ild (a := 30) (n := 64) dX5_layRoad_10 (by decide) (by decide) rfl hi ?_
  refine go_istore (lm := [some (.ref (gd g 6)), some (.int x1), some (.int x2), some (.int x3), some (.int (u.2 30 ((x1 * 8) + x2).toNatClampNeg))]) dX5_layRoad_11 (by decide) rfl rfl ?_
  refine go_aload_n dX5_layRoad_13 rfl rfl ?_
  refine go_get (k := 4) (v := .ref (gd g 30)) dX5_layRoad_14 ob_6 (by decide) qf_X5_15 rfl ?_
  refine go_iload_n dX5_layRoad_17 rfl rfl ?_
  refine go_bipush (v := 8) dX5_layRoad_18 (by decide) ?_
  refine go_imul dX5_layRoad_20 ?_
  refine go_iload_n dX5_layRoad_21 rfl rfl ?_
  refine go_iadd dX5_layRoad_22 ?_
  refine go_iload_n dX5_layRoad_23 rfl rfl ?_
  obtain ⟨hi, h⟩ := h
  refine go_ist (a := 30) (n := 64) dX5_layRoad_24 (by decide) (by decide) rfl hi ?_
  refine go_aload_n dX5_layRoad_25 rfl rfl ?_
  refine go_get (k := 4) (v := .ref (gd g 30)) dX5_layRoad_26 ob_6 (by decide) qf_X5_15 rfl ?_
  refine go_iload_n dX5_layRoad_29 rfl rfl ?_
  refine go_bipush (v := 8) dX5_layRoad_30 (by decide) ?_
  refine go_imul dX5_layRoad_32 ?_
  refine go_iload_n dX5_layRoad_33 rfl rfl ?_
  refine go_iadd dX5_layRoad_34 ?_
  refine go_iload_n dX5_layRoad_35 rfl rfl ?_
  obtain ⟨hi, h⟩ := h
  refine go_ist (a := 30) (n := 64) dX5_layRoad_36 (by decide) (by decide) rfl hi ?_
  refine go_iload dX5_layRoad_37 rfl ?_
  exact go_iret dX5_layRoad_39 rfl h
set_option maxRecDepth 100000 in
set_option maxHeartbeats 4000000 in
theorem B_X5_layRoadToGates_0 {g : gp} {u : sg} {Q : Option Value → sg → Prop} (x1 : Int32) (x2 : Int32) (h : (vp_in x1 8 ∧ (vp_in x1 8 ∧ Q (some (.int (u.2 31 x1.toNatClampNeg))) (sA u 31 x1.toNatClampNeg x2)))) : Go g iX5_layRoadToGates 0 [some (.ref (gd g 6)), some (.int x1), some (.int x2), none] [] u Q := by
  refine go_aload_n dX5_layRoadToGates_0 rfl rfl ?_
  refine go_get (k := 5) (v := .ref (gd g 31)) dX5_layRoadToGates_1 ob_6 (by decide) qf_X5_18 rfl ?_
  refine go_iload_n dX5_layRoadToGates_4 rfl rfl ?_
  obtain ⟨hi, h⟩ := h
  refine go_ild (a := 31) (n := 8) dX5_layRoadToGates_5 (by decide) (by decide) rfl hi ?_
  refine go_istore_n (lm := [some (.ref (gd g 6)), some (.int x1), some (.int x2), some (.int (u.2 31 x1.toNatClampNeg))]) dX5_layRoadToGates_6 rfl (by decide) rfl rfl ?_
  refine go_aload_n dX5_layRoadToGates_7 rfl rfl ?_
  refine go_get (k := 5) (v := .ref (gd g 31)) dX5_layRoadToGates_8 ob_6 (by decide) qf_X5_18 rfl ?_
  refine go_iload_n dX5_layRoadToGates_11 rfl rfl ?_
  refine go_iload_n dX5_layRoadToGates_12 rfl rfl ?_
  obtain ⟨hi, h⟩ := h
  refine go_ist (a := 31) (n := 8) dX5_layRoadToGates_13 (by decide) (by decide) rfl hi ?_
  refine go_iload_n dX5_layRoadToGates_14 rfl rfl ?_
  exact go_iret dX5_layRoadToGates_15 rfl h
set_option maxRecDepth 100000 in
set_option maxHeartbeats 4000000 in
theorem B_X5_addSick_0 {g : gp} {u : sg} {Q : Option Value → sg → Prop} (x1 : Int32) (x2 : Int32) (x3 : Int32) (h : (vp_in (u.1 6 9) 20 ∧ (vp_in (u.1 6 9) 20 ∧ (vp_in (u.1 6 9) 20 ∧ Q (some (.int ((u.1 6 9) + 1))) (sI (sA (sA (sA u 32 (u.1 6 9).toNatClampNeg x1) 33 (u.1 6 9).toNatClampNeg x2) 34 (u.1 6 9).toNatClampNeg x3) 6 9 ((u.1 6 9) + 1)))))) : Go g iX5_addSick 0 [some (.ref (gd g 6)), some (.int x1), some (.int x2), some (.int x3)] [] u Q := by
  refine go_aload_n dX5_addSick_0 rfl rfl ?_
  refine go_get (k := 6) (v := .ref (gd g 32)) dX5_addSick_1 ob_6 (by decide) qf_X5_21 rfl ?_
  refine go_aload_n dX5_addSick_4 rfl rfl ?_
  refine go_get (k := 9) (v := .int (u.1 6 9)) dX5_addSick_5 ob_6 (by decide) qf_X5_38 rfl ?_
  refine go_iload_n dX5_addSick_8 rfl rfl ?_
  obtain ⟨hi, h⟩ := h
  refine go_ist (a := 32) (n := 20) dX5_addSick_9 (by decide) (by decide) rfl hi ?_
  refine go_aload_n dX5_addSick_10 rfl rfl ?_
  refine go_get (k := 7) (v := .ref (gd g 33)) dX5_addSick_11 ob_6 (by decide) qf_X5_24 rfl ?_
  refine go_aload_n dX5_addSick_14 rfl rfl ?_
  refine go_get (k := 9) (v := .int (u.1 6 9)) dX5_addSick_15 ob_6 (by decide) qf_X5_38 rfl ?_
  refine go_iload_n dX5_addSick_18 rfl rfl ?_
  obtain ⟨hi, h⟩ := h
  refine go_ist (a := 33) (n := 20) dX5_addSick_19 (by decide) (by decide) rfl hi ?_
  refine go_aload_n dX5_addSick_20 rfl rfl ?_
  refine go_get (k := 8) (v := .ref (gd g 34)) dX5_addSick_21 ob_6 (by decide) qf_X5_27 rfl ?_
  refine go_aload_n dX5_addSick_24 rfl rfl ?_
  refine go_get (k := 9) (v := .int (u.1 6 9)) dX5_addSick_25 ob_6 (by decide) qf_X5_38 rfl ?_
  refine go_iload_n dX5_addSick_28 rfl rfl ?_
  obtain ⟨hi, h⟩ := h
  refine go_ist (a := 34) (n := 20) dX5_addSick_29 (by decide) (by decide) rfl hi ?_
  refine go_aload_n dX5_addSick_30 rfl rfl ?_
  refine go_dup dX5_addSick_31 rfl ?_
  refine go_get (k := 9) (v := .int (u.1 6 9)) dX5_addSick_32 ob_6 (by decide) qf_X5_38 rfl ?_
  refine go_iconst (v := 1) dX5_addSick_35 (by decide) ?_
  refine go_iadd dX5_addSick_36 ?_
  refine go_put (k := 9) dX5_addSick_37 ob_6 (by decide) qf_X5_38 rfl rfl pf_I ?_
  refine go_aload_n dX5_addSick_40 rfl rfl ?_
  refine go_get (k := 9) (v := .int ((u.1 6 9) + 1)) dX5_addSick_41 ob_6 (by decide) qf_X5_38 rfl ?_
  exact go_iret dX5_addSick_44 rfl h
set_option maxRecDepth 100000 in
set_option maxHeartbeats 4000000 in
theorem B_X5_addPass_0 {g : gp} {u : sg} {Q : Option Value → sg → Prop} (x2 : Int32) (x3 : Int32) (h : Go g iX5_addPass 3 [some (.ref (gd g 6)), some (.ref (gd g 9)), some (.int x2), some (.int x3), some (.int 0)] [] u Q) : Go g iX5_addPass 0 [some (.ref (gd g 6)), some (.ref (gd g 9)), some (.int x2), some (.int x3), none] [] u Q := by
  refine go_iconst (v := 0) dX5_addPass_0 (by decide) ?_
  refine go_istore (lm := [some (.ref (gd g 6)), some (.ref (gd g 9)), some (.int x2), some (.int x3), some (.int 0)]) dX5_addPass_1 (by decide) rfl rfl ?_
  exact h
set_option maxRecDepth 100000 in
set_option maxHeartbeats 4000000 in
theorem B_X5_addPass_3 {g : gp} {u : sg} {Q : Option Value → sg → Prop} (x2 : Int32) (x3 : Int32) (x4 : Int32) (h : (((7 : Int32) ≤ x4 → Q (some (.int (((u.1 6 3) + 1) - 1))) (sI u 6 3 ((u.1 6 3) + 1))) ∧ (¬ (7 : Int32) ≤ x4 → Go g iX8_itemAt 0 [some (.ref (gd g 9)), some (.int x2), some (.int (x3 + x4))] [] u (QI (fun r1 u1 => (vp_in (((u.1 6 3) * 7) + x4) 112 ∧ Go g iX5_addPass 3 [some (.ref (gd g 6)), some (.ref (gd g 9)), some (.int x2), some (.int x3), some (.int (x4 + 1))] [] (sA u1 29 (((u.1 6 3) * 7) + x4).toNatClampNeg r1) Q)))))) : Go g iX5_addPass 3 [some (.ref (gd g 6)), some (.ref (gd g 9)), some (.int x2), some (.int x3), some (.int x4)] [] u Q := by
  refine go_iload dX5_addPass_3 rfl ?_
  refine go_bipush (v := 7) dX5_addPass_5 (by decide) ?_
  refine go_icmp_ge (tgt := 40) dX5_addPass_7 (by decide) (fun hc => ?_) (fun hc => ?_)
  · replace h := h.1 hc
    refine go_aload_n dX5_addPass_40 rfl rfl ?_
    refine go_dup dX5_addPass_41 rfl ?_
    refine go_get (k := 3) (v := .int (u.1 6 3)) dX5_addPass_42 ob_6 (by decide) qf_X5_42 rfl ?_
    refine go_iconst (v := 1) dX5_addPass_45 (by decide) ?_
    refine go_iadd dX5_addPass_46 ?_
    refine go_put (k := 3) dX5_addPass_47 ob_6 (by decide) qf_X5_42 rfl rfl pf_I ?_
    refine go_aload_n dX5_addPass_50 rfl rfl ?_
    refine go_get (k := 3) (v := .int ((u.1 6 3) + 1)) dX5_addPass_51 ob_6 (by decide) qf_X5_42 rfl ?_
    refine go_iconst (v := 1) dX5_addPass_54 (by decide) ?_
    refine go_isub dX5_addPass_55 ?_
    exact go_iret dX5_addPass_56 rfl h
  · replace h := h.2 hc
    refine go_aload_n dX5_addPass_10 rfl rfl ?_
    refine go_get (k := 2) (v := .ref (gd g 29)) dX5_addPass_11 ob_6 (by decide) qf_X5_11 rfl ?_
    refine go_aload_n dX5_addPass_14 rfl rfl ?_
    refine go_get (k := 3) (v := .int (u.1 6 3)) dX5_addPass_15 ob_6 (by decide) qf_X5_42 rfl ?_
    refine go_bipush (v := 7) dX5_addPass_18 (by decide) ?_
    refine go_imul dX5_addPass_20 ?_
    refine go_iload dX5_addPass_21 rfl ?_
    refine go_iadd dX5_addPass_23 ?_
    refine go_aload_n dX5_addPass_24 rfl rfl ?_
    refine go_iload_n dX5_addPass_25 rfl rfl ?_
    refine go_iload_n dX5_addPass_26 rfl rfl ?_
    refine go_iload dX5_addPass_27 rfl ?_
    refine go_iadd dX5_addPass_29 ?_
    refine go_cVi (o := 9) (As := [.int x2, .int (x3 + x4)]) (st := [.int (((u.1 6 3) * 7) + x4), .ref (gd g 29)]) (lc := [some (.ref (gd g 9)), some (.int x2), some (.int (x3 + x4))]) dX5_addPass_30 me_X8_itemAt rfl ob_9 qm_X5_45 rfl (Nat.le_of_ble_eq_true rfl) rfl ⟨Nat.le_of_ble_eq_true rfl, Nat.le_of_ble_eq_true rfl⟩ rfl (Nat.le_of_ble_eq_true rfl) h (fun r1 u1 h => ?_)
    obtain ⟨hi, h⟩ := h
    refine go_ist (a := 29) (n := 112) dX5_addPass_33 (by decide) (by decide) rfl hi ?_
    refine go_iinc (v := x4 + 1) (lm := [some (.ref (gd g 6)), some (.ref (gd g 9)), some (.int x2), some (.int x3), some (.int (x4 + 1))]) dX5_addPass_34 rfl rfl (by decide) rfl rfl ?_
    refine go_goto (tgt := 3) dX5_addPass_37 (by decide) ?_
    exact h
set_option maxRecDepth 100000 in
set_option maxHeartbeats 4000000 in
theorem B_X5_itemOf_0 {g : gp} {u : sg} {Q : Option Value → sg → Prop} (x1 : Int32) (x2 : Int32) (h : (vp_in ((x1 * 7) + x2) 112 ∧ Q (some (.int (u.2 29 ((x1 * 7) + x2).toNatClampNeg))) u)) : Go g iX5_itemOf 0 [some (.ref (gd g 6)), some (.int x1), some (.int x2)] [] u Q := by
  refine go_aload_n dX5_itemOf_0 rfl rfl ?_
  refine go_get (k := 2) (v := .ref (gd g 29)) dX5_itemOf_1 ob_6 (by decide) qf_X5_11 rfl ?_
  refine go_iload_n dX5_itemOf_4 rfl rfl ?_
  refine go_bipush (v := 7) dX5_itemOf_5 (by decide) ?_
  refine go_imul dX5_itemOf_7 ?_
  refine go_iload_n dX5_itemOf_8 rfl rfl ?_
  refine go_iadd dX5_itemOf_9 ?_
  obtain ⟨hi, h⟩ := h
  refine go_ild (a := 29) (n := 112) dX5_itemOf_10 (by decide) (by decide) rfl hi ?_
  exact go_iret dX5_itemOf_11 rfl h
set_option maxRecDepth 100000 in
set_option maxHeartbeats 4000000 in
theorem B_X5_canBeTrue_0 {g : gp} {u : sg} {Q : Option Value → sg → Prop} (x1 : Int32) (h : Go g iX5_canBeTrue 2 [some (.ref (gd g 6)), some (.int x1), some (.int 0), none, none] [] u Q) : Go g iX5_canBeTrue 0 [some (.ref (gd g 6)), some (.int x1), none, none, none] [] u Q := by
  refine go_iconst (v := 0) dX5_canBeTrue_0 (by decide) ?_
  refine go_istore_n (lm := [some (.ref (gd g 6)), some (.int x1), some (.int 0), none, none]) dX5_canBeTrue_1 rfl (by decide) rfl rfl ?_
  exact h
set_option maxRecDepth 100000 in
set_option maxHeartbeats 4000000 in
theorem B_X5_canBeTrue_2 {g : gp} {u : sg} {Q : Option Value → sg → Prop} (x1 : Int32) (x2 : Int32) (h : (((u.1 6 3) ≤ x2 → Q (some (.int (1 : Int32))) u) ∧ (¬ (u.1 6 3) ≤ x2 → Go g iX5_canBeTrue 12 [some (.ref (gd g 6)), some (.int x1), some (.int x2), some (.int 0), none] [] u Q))) : Go g iX5_canBeTrue 2 [some (.ref (gd g 6)), some (.int x1), some (.int x2), none, none] [] u Q := by
  refine go_iload_n dX5_canBeTrue_2 rfl rfl ?_
  refine go_aload_n dX5_canBeTrue_3 rfl rfl ?_
  refine go_get (k := 3) (v := .int (u.1 6 3)) dX5_canBeTrue_4 ob_6 (by decide) qf_X5_42 rfl ?_
  refine go_icmp_ge (tgt := 72) dX5_canBeTrue_7 (by decide) (fun hc => ?_) (fun hc => ?_)
  · replace h := h.1 hc
    refine go_iconst (v := 1) dX5_canBeTrue_72 (by decide) ?_
    exact go_zret dX5_canBeTrue_73 rfl (by decide) h
  · replace h := h.2 hc
    refine go_iconst (v := 0) dX5_canBeTrue_10 (by decide) ?_
    refine go_istore_n (lm := [some (.ref (gd g 6)), some (.int x1), some (.int x2), some (.int 0), none]) dX5_canBeTrue_11 rfl (by decide) rfl rfl ?_
    exact h
set_option maxRecDepth 100000 in
set_option maxHeartbeats 4000000 in
theorem B_X5_canBeTrue_12 {g : gp} {u : sg} {Q : Option Value → sg → Prop} (x1 : Int32) (x2 : Int32) (x3 : Int32) (h : ((x2 ≤ x3 → Go g iX5_canBeTrue 2 [some (.ref (gd g 6)), some (.int x1), some (.int (x2 + 1)), none, none] [] u Q) ∧ (¬ x2 ≤ x3 → Go g iX5_itemOf 0 [some (.ref (gd g 6)), some (.int x2), some (.int 1)] [] u (QI (fun r1 u1 => ((¬ r1 = x1 → Go g iX5_canBeTrue 42 [some (.ref (gd g 6)), some (.int x1), some (.int x2), some (.int x3), none] [.int 0] u1 Q) ∧ (r1 = x1 → Go g iX5_itemOf 0 [some (.ref (gd g 6)), some (.int x3), some (.int 1)] [] u1 (QI (fun r2 u2 => ((¬ r2 = x1 → Go g iX5_canBeTrue 42 [some (.ref (gd g 6)), some (.int x1), some (.int x2), some (.int x3), none] [.int 0] u2 Q) ∧ (r2 = x1 → Go g iX5_canBeTrue 42 [some (.ref (gd g 6)), some (.int x1), some (.int x2), some (.int x3), none] [.int 1] u2 Q))))))))))) : Go g iX5_canBeTrue 12 [some (.ref (gd g 6)), some (.int x1), some (.int x2), some (.int x3), none] [] u Q := by
  refine go_iload_n dX5_canBeTrue_12 rfl rfl ?_
  refine go_iload_n dX5_canBeTrue_13 rfl rfl ?_
  refine go_icmp_ge (tgt := 66) dX5_canBeTrue_14 (by decide) (fun hc => ?_) (fun hc => ?_)
  · replace h := h.1 hc
    refine go_iinc (v := x2 + 1) (lm := [some (.ref (gd g 6)), some (.int x1), some (.int (x2 + 1)), some (.int x3), none]) dX5_canBeTrue_66 rfl rfl (by decide) rfl rfl ?_
    refine go_goto (tgt := 2) dX5_canBeTrue_69 (by decide) ?_
    refine go_mask [true, true, true, false, true] rfl ?_
    exact h
  · replace h := h.2 hc
    refine go_aload_n dX5_canBeTrue_17 rfl rfl ?_
    refine go_iload_n dX5_canBeTrue_18 rfl rfl ?_
    refine go_iconst (v := 1) dX5_canBeTrue_19 (by decide) ?_
    refine go_cVi (o := 6) (As := [.int x2, .int 1]) (st := []) (lc := [some (.ref (gd g 6)), some (.int x2), some (.int 1)]) dX5_canBeTrue_20 me_X5_itemOf rfl ob_6 qm_X5_51 rfl (Nat.le_of_ble_eq_true rfl) rfl ⟨Nat.le_of_ble_eq_true rfl, Nat.le_of_ble_eq_true rfl⟩ rfl (Nat.le_of_ble_eq_true rfl) h (fun r1 u1 h => ?_)
    refine go_iload_n dX5_canBeTrue_23 rfl rfl ?_
    refine go_icmp_ne (tgt := 41) dX5_canBeTrue_24 (by decide) (fun hc => ?_) (fun hc => ?_)
    · replace h := h.1 hc
      refine go_iconst (v := 0) dX5_canBeTrue_41 (by decide) ?_
      exact h
    · replace h := h.2 hc
      refine go_aload_n dX5_canBeTrue_27 rfl rfl ?_
      refine go_iload_n dX5_canBeTrue_28 rfl rfl ?_
      refine go_iconst (v := 1) dX5_canBeTrue_29 (by decide) ?_
      refine go_cVi (o := 6) (As := [.int x3, .int 1]) (st := []) (lc := [some (.ref (gd g 6)), some (.int x3), some (.int 1)]) dX5_canBeTrue_30 me_X5_itemOf rfl ob_6 qm_X5_51 rfl (Nat.le_of_ble_eq_true rfl) rfl ⟨Nat.le_of_ble_eq_true rfl, Nat.le_of_ble_eq_true rfl⟩ rfl (Nat.le_of_ble_eq_true rfl) h (fun r2 u2 h => ?_)
      refine go_iload_n dX5_canBeTrue_33 rfl rfl ?_
      refine go_icmp_ne (tgt := 41) dX5_canBeTrue_34 (by decide) (fun hc => ?_) (fun hc => ?_)
      · replace h := h.1 hc
        refine go_iconst (v := 0) dX5_canBeTrue_41 (by decide) ?_
        exact h
      · replace h := h.2 hc
        refine go_iconst (v := 1) dX5_canBeTrue_37 (by decide) ?_
        refine go_goto (tgt := 42) dX5_canBeTrue_38 (by decide) ?_
        exact h
set_option maxRecDepth 100000 in
set_option maxHeartbeats 4000000 in
theorem B_X5_canBeTrue_42 {g : gp} {u : sg} {Q : Option Value → sg → Prop} (x1 : Int32) (x2 : Int32) (x3 : Int32) (t0 : Int32) (h : ((t0 = (0 : Int32) → Go g iX5_canBeTrue 12 [some (.ref (gd g 6)), some (.int x1), some (.int x2), some (.int (x3 + 1)), none] [] u Q) ∧ (¬ t0 = (0 : Int32) → Go g iX5_areFarEnough 0 [some (.ref (gd g 6)), some (.int x2), some (.int x3), none] [] u (QI (fun r1 u1 => ((¬ r1 = (0 : Int32) → Go g iX5_canBeTrue 12 [some (.ref (gd g 6)), some (.int x1), some (.int x2), some (.int (x3 + 1)), none] [] u1 Q) ∧ (r1 = (0 : Int32) → Q (some (.int (0 : Int32))) u1))))))) : Go g iX5_canBeTrue 42 [some (.ref (gd g 6)), some (.int x1), some (.int x2), some (.int x3), none] [.int t0] u Q := by
  refine go_istore (lm := [some (.ref (gd g 6)), some (.int x1), some (.int x2), some (.int x3), some (.int t0)]) dX5_canBeTrue_42 (by decide) rfl rfl ?_
  refine go_iload dX5_canBeTrue_44 rfl ?_
  refine go_if_eq (tgt := 60) dX5_canBeTrue_46 (by decide) (fun hc => ?_) (fun hc => ?_)
  · replace h := h.1 hc
    refine go_iinc (v := x3 + 1) (lm := [some (.ref (gd g 6)), some (.int x1), some (.int x2), some (.int (x3 + 1)), some (.int t0)]) dX5_canBeTrue_60 rfl rfl (by decide) rfl rfl ?_
    refine go_goto (tgt := 12) dX5_canBeTrue_63 (by decide) ?_
    refine go_mask [true, true, true, true, false] rfl ?_
    exact h
  · replace h := h.2 hc
    refine go_aload_n dX5_canBeTrue_49 rfl rfl ?_
    refine go_iload_n dX5_canBeTrue_50 rfl rfl ?_
    refine go_iload_n dX5_canBeTrue_51 rfl rfl ?_
    refine go_cVi (o := 6) (As := [.int x2, .int x3]) (st := []) (lc := [some (.ref (gd g 6)), some (.int x2), some (.int x3), none]) dX5_canBeTrue_52 me_X5_areFarEnough rfl ob_6 qm_X5_54 rfl (Nat.le_of_ble_eq_true rfl) rfl ⟨Nat.le_of_ble_eq_true rfl, Nat.le_of_ble_eq_true rfl⟩ rfl (Nat.le_of_ble_eq_true rfl) h (fun r1 u1 h => ?_)
    refine go_if_ne (tgt := 60) dX5_canBeTrue_55 (by decide) (fun hc => ?_) (fun hc => ?_)
    · replace h := h.1 hc
      refine go_iinc (v := x3 + 1) (lm := [some (.ref (gd g 6)), some (.int x1), some (.int x2), some (.int (x3 + 1)), some (.int t0)]) dX5_canBeTrue_60 rfl rfl (by decide) rfl rfl ?_
      refine go_goto (tgt := 12) dX5_canBeTrue_63 (by decide) ?_
      refine go_mask [true, true, true, true, false] rfl ?_
      exact h
    · replace h := h.2 hc
      refine go_iconst (v := 0) dX5_canBeTrue_58 (by decide) ?_
      exact go_zret dX5_canBeTrue_59 rfl (by decide) h
set_option maxRecDepth 100000 in
set_option maxHeartbeats 4000000 in
theorem B_X5_areFarEnough_0 {g : gp} {u : sg} {Q : Option Value → sg → Prop} (x1 : Int32) (x2 : Int32) (h : Go g iX5_itemOf 0 [some (.ref (gd g 6)), some (.int x1), some (.int 5)] [] u (QI (fun r1 u1 => Go g iX5_itemOf 0 [some (.ref (gd g 6)), some (.int x2), some (.int 5)] [] u1 (QI (fun r2 u2 => Go g iX5_itemOf 0 [some (.ref (gd g 6)), some (.int x1), some (.int 4)] [] u2 (QI (fun r3 u3 => Go g iX5_itemOf 0 [some (.ref (gd g 6)), some (.int x2), some (.int 4)] [] u3 (QI (fun r4 u4 => (vp_in ((r3 * 8) + r4) 64 ∧ (((if 0 ≤ (r1 - r2) then (r1 - r2) else 0 - (r1 - r2)) < (u4.2 30 ((r3 * 8) + r4).toNatClampNeg) → Q (some (.int (0 : Int32))) u4) ∧ (¬ (if 0 ≤ (r1 - r2) then (r1 - r2) else 0 - (r1 - r2)) < (u4.2 30 ((r3 * 8) + r4).toNatClampNeg) → Q (some (.int (1 : Int32))) u4)))))))))))) : Go g iX5_areFarEnough 0 [some (.ref (gd g 6)), some (.int x1), some (.int x2), none] [] u Q := by
  refine go_aload_n dX5_areFarEnough_0 rfl rfl ?_
  refine go_iload_n dX5_areFarEnough_1 rfl rfl ?_
  refine go_iconst (v := 5) dX5_areFarEnough_2 (by decide) ?_
  refine go_cVi (o := 6) (As := [.int x1, .int 5]) (st := []) (lc := [some (.ref (gd g 6)), some (.int x1), some (.int 5)]) dX5_areFarEnough_3 me_X5_itemOf rfl ob_6 qm_X5_51 rfl (Nat.le_of_ble_eq_true rfl) rfl ⟨Nat.le_of_ble_eq_true rfl, Nat.le_of_ble_eq_true rfl⟩ rfl (Nat.le_of_ble_eq_true rfl) h (fun r1 u1 h => ?_)
  refine go_aload_n dX5_areFarEnough_6 rfl rfl ?_
  refine go_iload_n dX5_areFarEnough_7 rfl rfl ?_
  refine go_iconst (v := 5) dX5_areFarEnough_8 (by decide) ?_
  refine go_cVi (o := 6) (As := [.int x2, .int 5]) (st := [.int r1]) (lc := [some (.ref (gd g 6)), some (.int x2), some (.int 5)]) dX5_areFarEnough_9 me_X5_itemOf rfl ob_6 qm_X5_51 rfl (Nat.le_of_ble_eq_true rfl) rfl ⟨Nat.le_of_ble_eq_true rfl, Nat.le_of_ble_eq_true rfl⟩ rfl (Nat.le_of_ble_eq_true rfl) h (fun r2 u2 h => ?_)
  refine go_isub dX5_areFarEnough_12 ?_
  refine go_mabs dX5_areFarEnough_13 qm_X5_58 ⟨Nat.le_of_ble_eq_true rfl, Nat.le_of_ble_eq_true rfl⟩ ?_
  refine go_istore_n (lm := [some (.ref (gd g 6)), some (.int x1), some (.int x2), some (.int (if 0 ≤ (r1 - r2) then (r1 - r2) else 0 - (r1 - r2)))]) dX5_areFarEnough_16 rfl (by decide) rfl rfl ?_
  refine go_iload_n dX5_areFarEnough_17 rfl rfl ?_
  refine go_aload_n dX5_areFarEnough_18 rfl rfl ?_
  refine go_get (k := 4) (v := .ref (gd g 30)) dX5_areFarEnough_19 ob_6 (by decide) qf_X5_15 rfl ?_
  refine go_aload_n dX5_areFarEnough_22 rfl rfl ?_
  refine go_iload_n dX5_areFarEnough_23 rfl rfl ?_
  refine go_iconst (v := 4) dX5_areFarEnough_24 (by decide) ?_
  refine go_cVi (o := 6) (As := [.int x1, .int 4]) (st := [.ref (gd g 30), .int (if 0 ≤ (r1 - r2) then (r1 - r2) else 0 - (r1 - r2))]) (lc := [some (.ref (gd g 6)), some (.int x1), some (.int 4)]) dX5_areFarEnough_25 me_X5_itemOf rfl ob_6 qm_X5_51 rfl (Nat.le_of_ble_eq_true rfl) rfl ⟨Nat.le_of_ble_eq_true rfl, Nat.le_of_ble_eq_true rfl⟩ rfl (Nat.le_of_ble_eq_true rfl) h (fun r3 u3 h => ?_)
  refine go_bipush (v := 8) dX5_areFarEnough_28 (by decide) ?_
  refine go_imul dX5_areFarEnough_30 ?_
  refine go_aload_n dX5_areFarEnough_31 rfl rfl ?_
  refine go_iload_n dX5_areFarEnough_32 rfl rfl ?_
  refine go_iconst (v := 4) dX5_areFarEnough_33 (by decide) ?_
  refine go_cVi (o := 6) (As := [.int x2, .int 4]) (st := [.int (r3 * 8), .ref (gd g 30), .int (if 0 ≤ (r1 - r2) then (r1 - r2) else 0 - (r1 - r2))]) (lc := [some (.ref (gd g 6)), some (.int x2), some (.int 4)]) dX5_areFarEnough_34 me_X5_itemOf rfl ob_6 qm_X5_51 rfl (Nat.le_of_ble_eq_true rfl) rfl ⟨Nat.le_of_ble_eq_true rfl, Nat.le_of_ble_eq_true rfl⟩ rfl (Nat.le_of_ble_eq_true rfl) h (fun r4 u4 h => ?_)
  refine go_iadd dX5_areFarEnough_37 ?_
  obtain ⟨hi, h⟩ := h
  refine go_ild (a := 30) (n := 64) dX5_areFarEnough_38 (by decide) (by decide) rfl hi ?_
  refine go_icmp_lt (tgt := 46) dX5_areFarEnough_39 (by decide) (fun hc => ?_) (fun hc => ?_)
  · replace h := h.1 hc
    refine go_iconst (v := 0) dX5_areFarEnough_46 (by decide) ?_
    exact go_zret dX5_areFarEnough_47 rfl (by decide) h
  · replace h := h.2 hc
    refine go_iconst (v := 1) dX5_areFarEnough_42 (by decide) ?_
    refine go_goto (tgt := 47) dX5_areFarEnough_43 (by decide) ?_
    exact go_zret dX5_areFarEnough_47 rfl (by decide) h
set_option maxRecDepth 100000 in
set_option maxHeartbeats 4000000 in
theorem B_X5_letsIn_0 {g : gp} {u : sg} {Q : Option Value → sg → Prop} (x1 : Int32) (x2 : Int32) (x3 : Int32) (x4 : Int32) (h : Go g iX5_itemOf 0 [some (.ref (gd g 6)), some (.int x1), some (.int 1)] [] u (QI (fun r1 u1 => Go g iX1_inForce 0 [some (.ref (gd g 2)), some (.int x2), some (.int (40 + r1)), none, none, none] [] u1 (QI (fun r2 u2 => ((r2 = (1 : Int32) → Q (some (.int (0 : Int32))) u2) ∧ (¬ r2 = (1 : Int32) → Go g iX5_itemOf 0 [some (.ref (gd g 6)), some (.int x1), some (.int 6)] [] u2 (QI (fun r3 u3 => ((x2 ≤ r3 → Go g iX5_itemOf 0 [some (.ref (gd g 6)), some (.int x1), some (.int 5)] [] u3 (QI (fun r4 u4 => Go g iX5_itemOf 0 [some (.ref (gd g 6)), some (.int x1), some (.int 4)] [] u4 (QI (fun r5 u5 => (vp_in r5 8 ∧ (((x2 - r4) < (u5.2 31 r5.toNatClampNeg) → Q (some (.int (0 : Int32))) u5) ∧ (¬ (x2 - r4) < (u5.2 31 r5.toNatClampNeg) → Go g iX5_isForged 0 [some (.ref (gd g 6)), some (.int x1), some (.int x2), none] [] u5 (QI (fun r6 u6 => ((r6 = (0 : Int32) → Go g iX4_isOpen 0 [some (.ref (gd g 5)), some (.int x3), some (.int x4)] [] u6 (QI (fun r7 u7 => ((¬ r7 = (0 : Int32) → Q (some (.int (1 : Int32))) u7) ∧ (r7 = (0 : Int32) → Go g iX5_itemOf 0 [some (.ref (gd g 6)), some (.int x1), some (.int 0)] [] u7 (QI (fun r8 u8 => ((¬ r8 = (3 : Int32) → Q (some (.int (0 : Int32))) u8) ∧ (r8 = (3 : Int32) → Q (some (.int (1 : Int32))) u8))))))))) ∧ (¬ r6 = (0 : Int32) → Q (some (.int (0 : Int32))) u6)))))))))))) ∧ (¬ x2 ≤ r3 → Q (some (.int (0 : Int32))) u3))))))))))) : Go g iX5_letsIn 0 [some (.ref (gd g 6)), some (.int x1), some (.int x2), some (.int x3), some (.int x4)] [] u Q := by
  refine go_aload_n dX5_letsIn_0 rfl rfl ?_
  refine go_get (k := 1) (v := .ref (gd g 2)) dX5_letsIn_1 ob_6 (by decide) qf_X5_34 rfl ?_
  refine go_iload_n dX5_letsIn_4 rfl rfl ?_
  refine go_bipush (v := 40) dX5_letsIn_5 (by decide) ?_
  refine go_aload_n dX5_letsIn_7 rfl rfl ?_
  refine go_iload_n dX5_letsIn_8 rfl rfl ?_
  refine go_iconst (v := 1) dX5_letsIn_9 (by decide) ?_
  refine go_cVi (o := 6) (As := [.int x1, .int 1]) (st := [.int 40, .int x2, .ref (gd g 2)]) (lc := [some (.ref (gd g 6)), some (.int x1), some (.int 1)]) dX5_letsIn_10 me_X5_itemOf rfl ob_6 qm_X5_51 rfl (Nat.le_of_ble_eq_true rfl) rfl ⟨Nat.le_of_ble_eq_true rfl, Nat.le_of_ble_eq_true rfl⟩ rfl (Nat.le_of_ble_eq_true rfl) h (fun r1 u1 h => ?_)
  refine go_iadd dX5_letsIn_13 ?_
  refine go_cVi (o := 2) (As := [.int x2, .int (40 + r1)]) (st := []) (lc := [some (.ref (gd g 2)), some (.int x2), some (.int (40 + r1)), none, none, none]) dX5_letsIn_14 me_X1_inForce rfl ob_2 qm_X5_66 rfl (Nat.le_of_ble_eq_true rfl) rfl ⟨Nat.le_of_ble_eq_true rfl, Nat.le_of_ble_eq_true rfl⟩ rfl (Nat.le_of_ble_eq_true rfl) h (fun r2 u2 h => ?_)
  refine go_iconst (v := 1) dX5_letsIn_17 (by decide) ?_
  refine go_icmp_eq (tgt := 32) dX5_letsIn_18 (by decide) (fun hc => ?_) (fun hc => ?_)
  · replace h := h.1 hc
    refine go_iconst (v := 0) dX5_letsIn_32 (by decide) ?_
    exact go_zret dX5_letsIn_33 rfl (by decide) h
  · replace h := h.2 hc
    refine go_iload_n dX5_letsIn_21 rfl rfl ?_
    refine go_aload_n dX5_letsIn_22 rfl rfl ?_
    refine go_iload_n dX5_letsIn_23 rfl rfl ?_
    refine go_bipush (v := 6) dX5_letsIn_24 (by decide) ?_
    refine go_cVi (o := 6) (As := [.int x1, .int 6]) (st := [.int x2]) (lc := [some (.ref (gd g 6)), some (.int x1), some (.int 6)]) dX5_letsIn_26 me_X5_itemOf rfl ob_6 qm_X5_51 rfl (Nat.le_of_ble_eq_true rfl) rfl ⟨Nat.le_of_ble_eq_true rfl, Nat.le_of_ble_eq_true rfl⟩ rfl (Nat.le_of_ble_eq_true rfl) h (fun r3 u3 h => ?_)
    refine go_icmp_le (tgt := 34) dX5_letsIn_29 (by decide) (fun hc => ?_) (fun hc => ?_)
    · replace h := h.1 hc
      refine go_iload_n dX5_letsIn_34 rfl rfl ?_
      refine go_aload_n dX5_letsIn_35 rfl rfl ?_
      refine go_iload_n dX5_letsIn_36 rfl rfl ?_
      refine go_iconst (v := 5) dX5_letsIn_37 (by decide) ?_
      refine go_cVi (o := 6) (As := [.int x1, .int 5]) (st := [.int x2]) (lc := [some (.ref (gd g 6)), some (.int x1), some (.int 5)]) dX5_letsIn_38 me_X5_itemOf rfl ob_6 qm_X5_51 rfl (Nat.le_of_ble_eq_true rfl) rfl ⟨Nat.le_of_ble_eq_true rfl, Nat.le_of_ble_eq_true rfl⟩ rfl (Nat.le_of_ble_eq_true rfl) h (fun r4 u4 h => ?_)
      refine go_isub dX5_letsIn_41 ?_
      refine go_aload_n dX5_letsIn_42 rfl rfl ?_
      refine go_get (k := 5) (v := .ref (gd g 31)) dX5_letsIn_43 ob_6 (by decide) qf_X5_18 rfl ?_
      refine go_aload_n dX5_letsIn_46 rfl rfl ?_
      refine go_iload_n dX5_letsIn_47 rfl rfl ?_
      refine go_iconst (v := 4) dX5_letsIn_48 (by decide) ?_
      refine go_cVi (o := 6) (As := [.int x1, .int 4]) (st := [.ref (gd g 31), .int (x2 - r4)]) (lc := [some (.ref (gd g 6)), some (.int x1), some (.int 4)]) dX5_letsIn_49 me_X5_itemOf rfl ob_6 qm_X5_51 rfl (Nat.le_of_ble_eq_true rfl) rfl ⟨Nat.le_of_ble_eq_true rfl, Nat.le_of_ble_eq_true rfl⟩ rfl (Nat.le_of_ble_eq_true rfl) h (fun r5 u5 h => ?_)
      obtain ⟨hi, h⟩ := h
      refine go_ild (a := 31) (n := 8) dX5_letsIn_52 (by decide) (by decide) rfl hi ?_
      refine go_icmp_lt (tgt := 65) dX5_letsIn_53 (by decide) (fun hc => ?_) (fun hc => ?_)
      · replace h := h.1 hc
        refine go_iconst (v := 0) dX5_letsIn_65 (by decide) ?_
        exact go_zret dX5_letsIn_66 rfl (by decide) h
      · replace h := h.2 hc
        refine go_aload_n dX5_letsIn_56 rfl rfl ?_
        refine go_iload_n dX5_letsIn_57 rfl rfl ?_
        refine go_iload_n dX5_letsIn_58 rfl rfl ?_
        refine go_cVi (o := 6) (As := [.int x1, .int x2]) (st := []) (lc := [some (.ref (gd g 6)), some (.int x1), some (.int x2), none]) dX5_letsIn_59 me_X5_isForged rfl ob_6 qm_X5_69 rfl (Nat.le_of_ble_eq_true rfl) rfl ⟨Nat.le_of_ble_eq_true rfl, Nat.le_of_ble_eq_true rfl⟩ rfl (Nat.le_of_ble_eq_true rfl) h (fun r6 u6 h => ?_)
        refine go_if_eq (tgt := 67) dX5_letsIn_62 (by decide) (fun hc => ?_) (fun hc => ?_)
        · replace h := h.1 hc
          refine go_aload_n dX5_letsIn_67 rfl rfl ?_
          refine go_get (k := 0) (v := .ref (gd g 5)) dX5_letsIn_68 ob_6 (by decide) qf_X5_30 rfl ?_
          refine go_iload_n dX5_letsIn_71 rfl rfl ?_
          refine go_iload dX5_letsIn_72 rfl ?_
          refine go_cVi (o := 5) (As := [.int x3, .int x4]) (st := []) (lc := [some (.ref (gd g 5)), some (.int x3), some (.int x4)]) dX5_letsIn_74 me_X4_isOpen rfl ob_5 qm_X5_72 rfl (Nat.le_of_ble_eq_true rfl) rfl ⟨Nat.le_of_ble_eq_true rfl, Nat.le_of_ble_eq_true rfl⟩ rfl (Nat.le_of_ble_eq_true rfl) h (fun r7 u7 h => ?_)
          refine go_if_ne (tgt := 90) dX5_letsIn_77 (by decide) (fun hc => ?_) (fun hc => ?_)
          · replace h := h.1 hc
            refine go_iconst (v := 1) dX5_letsIn_90 (by decide) ?_
            refine go_goto (tgt := 95) dX5_letsIn_91 (by decide) ?_
            exact go_zret dX5_letsIn_95 rfl (by decide) h
          · replace h := h.2 hc
            refine go_aload_n dX5_letsIn_80 rfl rfl ?_
            refine go_iload_n dX5_letsIn_81 rfl rfl ?_
            refine go_iconst (v := 0) dX5_letsIn_82 (by decide) ?_
            refine go_cVi (o := 6) (As := [.int x1, .int 0]) (st := []) (lc := [some (.ref (gd g 6)), some (.int x1), some (.int 0)]) dX5_letsIn_83 me_X5_itemOf rfl ob_6 qm_X5_51 rfl (Nat.le_of_ble_eq_true rfl) rfl ⟨Nat.le_of_ble_eq_true rfl, Nat.le_of_ble_eq_true rfl⟩ rfl (Nat.le_of_ble_eq_true rfl) h (fun r8 u8 h => ?_)
            refine go_iconst (v := 3) dX5_letsIn_86 (by decide) ?_
            refine go_icmp_ne (tgt := 94) dX5_letsIn_87 (by decide) (fun hc => ?_) (fun hc => ?_)
            · replace h := h.1 hc
              refine go_iconst (v := 0) dX5_letsIn_94 (by decide) ?_
              exact go_zret dX5_letsIn_95 rfl (by decide) h
            · replace h := h.2 hc
              refine go_iconst (v := 1) dX5_letsIn_90 (by decide) ?_
              refine go_goto (tgt := 95) dX5_letsIn_91 (by decide) ?_
              exact go_zret dX5_letsIn_95 rfl (by decide) h
        · replace h := h.2 hc
          refine go_iconst (v := 0) dX5_letsIn_65 (by decide) ?_
          exact go_zret dX5_letsIn_66 rfl (by decide) h
    · replace h := h.2 hc
      refine go_iconst (v := 0) dX5_letsIn_32 (by decide) ?_
      exact go_zret dX5_letsIn_33 rfl (by decide) h
set_option maxRecDepth 100000 in
set_option maxHeartbeats 4000000 in
theorem B_X5_kindOn_0 {g : gp} {u : sg} {Q : Option Value → sg → Prop} (x1 : Int32) (x2 : Int32) (h : Go g iX5_itemOf 0 [some (.ref (gd g 6)), some (.int x1), some (.int 0)] [] u (QI (fun r1 u1 => ((r1 = 1 → Q (some (.int (1 : Int32))) u1) ∧ (r1 = 2 → Go g iX5_isForged 0 [some (.ref (gd g 6)), some (.int x1), some (.int x2), none] [] u1 (QI (fun r2 u2 => ((r2 = (0 : Int32) → Q (some (.int (2 : Int32))) u2) ∧ (¬ r2 = (0 : Int32) → Q (some (.int (3 : Int32))) u2))))) ∧ (r1 = 3 → Q (some (.int (4 : Int32))) u1) ∧ (¬ r1 = 1 → ¬ r1 = 2 → ¬ r1 = 3 → Q (some (.int (0 : Int32))) u1))))) : Go g iX5_kindOn 0 [some (.ref (gd g 6)), some (.int x1), some (.int x2)] [] u Q := by
  refine go_aload_n dX5_kindOn_0 rfl rfl ?_
  refine go_iload_n dX5_kindOn_1 rfl rfl ?_
  refine go_iconst (v := 0) dX5_kindOn_2 (by decide) ?_
  refine go_cVi (o := 6) (As := [.int x1, .int 0]) (st := []) (lc := [some (.ref (gd g 6)), some (.int x1), some (.int 0)]) dX5_kindOn_3 me_X5_itemOf rfl ob_6 qm_X5_51 rfl (Nat.le_of_ble_eq_true rfl) rfl ⟨Nat.le_of_ble_eq_true rfl, Nat.le_of_ble_eq_true rfl⟩ rfl (Nat.le_of_ble_eq_true rfl) h (fun r1 u1 h => ?_)
  by_cases hc0 : r1 = 1
  · replace h := h.1 hc0
    refine go_tabIn (off := 26) (tgt := 32) dX5_kindOn_6 (by rw [hc0]; decide) (by rw [hc0]; decide) (by rw [hc0]; decide) (by decide) ?_
    refine go_iconst (v := 1) dX5_kindOn_32 (by decide) ?_
    exact go_iret dX5_kindOn_33 rfl h
  replace h := h.2
  by_cases hc1 : r1 = 2
  · replace h := h.1 hc1
    refine go_tabIn (off := 28) (tgt := 34) dX5_kindOn_6 (by rw [hc1]; decide) (by rw [hc1]; decide) (by rw [hc1]; decide) (by decide) ?_
    refine go_aload_n dX5_kindOn_34 rfl rfl ?_
    refine go_iload_n dX5_kindOn_35 rfl rfl ?_
    refine go_iload_n dX5_kindOn_36 rfl rfl ?_
    refine go_cVi (o := 6) (As := [.int x1, .int x2]) (st := []) (lc := [some (.ref (gd g 6)), some (.int x1), some (.int x2), none]) dX5_kindOn_37 me_X5_isForged rfl ob_6 qm_X5_69 rfl (Nat.le_of_ble_eq_true rfl) rfl ⟨Nat.le_of_ble_eq_true rfl, Nat.le_of_ble_eq_true rfl⟩ rfl (Nat.le_of_ble_eq_true rfl) h (fun r2 u2 h => ?_)
    refine go_if_eq (tgt := 47) dX5_kindOn_40 (by decide) (fun hc => ?_) (fun hc => ?_)
    · replace h := h.1 hc
      refine go_iconst (v := 2) dX5_kindOn_47 (by decide) ?_
      exact go_iret dX5_kindOn_48 rfl h
    · replace h := h.2 hc
      refine go_iconst (v := 3) dX5_kindOn_43 (by decide) ?_
      refine go_goto (tgt := 48) dX5_kindOn_44 (by decide) ?_
      exact go_iret dX5_kindOn_48 rfl h
  replace h := h.2
  by_cases hc2 : r1 = 3
  · replace h := h.1 hc2
    refine go_tabIn (off := 43) (tgt := 49) dX5_kindOn_6 (by rw [hc2]; decide) (by rw [hc2]; decide) (by rw [hc2]; decide) (by decide) ?_
    refine go_iconst (v := 4) dX5_kindOn_49 (by decide) ?_
    exact go_iret dX5_kindOn_50 rfl h
  replace h := h.2
  replace h := h hc0 hc1 hc2
  refine go_tabOut (tgt := 51) dX5_kindOn_6 (by have e0 : r1.toInt ≠ 1 := tab_ne hc0; have e1 : r1.toInt ≠ 2 := tab_ne hc1; have e2 : r1.toInt ≠ 3 := tab_ne hc2; omega) (by decide) ?_
  refine go_iconst (v := 0) dX5_kindOn_51 (by decide) ?_
  exact go_iret dX5_kindOn_52 rfl h
set_option maxRecDepth 100000 in
set_option maxHeartbeats 4000000 in
theorem B_X5_isOfKind_0 {g : gp} {u : sg} {Q : Option Value → sg → Prop} (x1 : Int32) (x2 : Int32) (x3 : Int32) (h : Go g iX5_kindOn 0 [some (.ref (gd g 6)), some (.int x1), some (.int x3)] [] u (QI (fun r1 u1 => ((x2 = (0 : Int32) → Q (some (.int (1 : Int32))) u1) ∧ (¬ x2 = (0 : Int32) → ((x2 = r1 → Q (some (.int (1 : Int32))) u1) ∧ (¬ x2 = r1 → ((¬ x2 = (2 : Int32) → Q (some (.int (0 : Int32))) u1) ∧ (x2 = (2 : Int32) → ((¬ r1 = (3 : Int32) → Q (some (.int (0 : Int32))) u1) ∧ (r1 = (3 : Int32) → Q (some (.int (1 : Int32))) u1))))))))))) : Go g iX5_isOfKind 0 [some (.ref (gd g 6)), some (.int x1), some (.int x2), some (.int x3), none] [] u Q := by
  refine go_aload_n dX5_isOfKind_0 rfl rfl ?_
  refine go_iload_n dX5_isOfKind_1 rfl rfl ?_
  refine go_iload_n dX5_isOfKind_2 rfl rfl ?_
  refine go_cVi (o := 6) (As := [.int x1, .int x3]) (st := []) (lc := [some (.ref (gd g 6)), some (.int x1), some (.int x3)]) dX5_isOfKind_3 me_X5_kindOn rfl ob_6 qm_X5_77 rfl (Nat.le_of_ble_eq_true rfl) rfl ⟨Nat.le_of_ble_eq_true rfl, Nat.le_of_ble_eq_true rfl⟩ rfl (Nat.le_of_ble_eq_true rfl) h (fun r1 u1 h => ?_)
  refine go_istore (lm := [some (.ref (gd g 6)), some (.int x1), some (.int x2), some (.int x3), some (.int r1)]) dX5_isOfKind_6 (by decide) rfl rfl ?_
  refine go_iload_n dX5_isOfKind_8 rfl rfl ?_
  refine go_if_eq (tgt := 29) dX5_isOfKind_9 (by decide) (fun hc => ?_) (fun hc => ?_)
  · replace h := h.1 hc
    refine go_iconst (v := 1) dX5_isOfKind_29 (by decide) ?_
    refine go_goto (tgt := 34) dX5_isOfKind_30 (by decide) ?_
    exact go_zret dX5_isOfKind_34 rfl (by decide) h
  · replace h := h.2 hc
    refine go_iload_n dX5_isOfKind_12 rfl rfl ?_
    refine go_iload dX5_isOfKind_13 rfl ?_
    refine go_icmp_eq (tgt := 29) dX5_isOfKind_15 (by decide) (fun hc => ?_) (fun hc => ?_)
    · replace h := h.1 hc
      refine go_iconst (v := 1) dX5_isOfKind_29 (by decide) ?_
      refine go_goto (tgt := 34) dX5_isOfKind_30 (by decide) ?_
      exact go_zret dX5_isOfKind_34 rfl (by decide) h
    · replace h := h.2 hc
      refine go_iload_n dX5_isOfKind_18 rfl rfl ?_
      refine go_iconst (v := 2) dX5_isOfKind_19 (by decide) ?_
      refine go_icmp_ne (tgt := 33) dX5_isOfKind_20 (by decide) (fun hc => ?_) (fun hc => ?_)
      · replace h := h.1 hc
        refine go_iconst (v := 0) dX5_isOfKind_33 (by decide) ?_
        exact go_zret dX5_isOfKind_34 rfl (by decide) h
      · replace h := h.2 hc
        refine go_iload dX5_isOfKind_23 rfl ?_
        refine go_iconst (v := 3) dX5_isOfKind_25 (by decide) ?_
        refine go_icmp_ne (tgt := 33) dX5_isOfKind_26 (by decide) (fun hc => ?_) (fun hc => ?_)
        · replace h := h.1 hc
          refine go_iconst (v := 0) dX5_isOfKind_33 (by decide) ?_
          exact go_zret dX5_isOfKind_34 rfl (by decide) h
        · replace h := h.2 hc
          refine go_iconst (v := 1) dX5_isOfKind_29 (by decide) ?_
          refine go_goto (tgt := 34) dX5_isOfKind_30 (by decide) ?_
          exact go_zret dX5_isOfKind_34 rfl (by decide) h
set_option maxRecDepth 100000 in
set_option maxHeartbeats 4000000 in
theorem B_X5_howMany_0 {g : gp} {u : sg} {Q : Option Value → sg → Prop} (x1 : Int32) (x2 : Int32) (h : Go g iX5_howMany 5 [some (.ref (gd g 6)), some (.int x1), some (.int x2), some (.int 0), some (.int 0)] [] u Q) : Go g iX5_howMany 0 [some (.ref (gd g 6)), some (.int x1), some (.int x2), none, none] [] u Q := by
  refine go_iconst (v := 0) dX5_howMany_0 (by decide) ?_
  refine go_istore_n (lm := [some (.ref (gd g 6)), some (.int x1), some (.int x2), some (.int 0), none]) dX5_howMany_1 rfl (by decide) rfl rfl ?_
  refine go_iconst (v := 0) dX5_howMany_2 (by decide) ?_
  refine go_istore (lm := [some (.ref (gd g 6)), some (.int x1), some (.int x2), some (.int 0), some (.int 0)]) dX5_howMany_3 (by decide) rfl rfl ?_
  exact h
set_option maxRecDepth 100000 in
set_option maxHeartbeats 4000000 in
theorem B_X5_howMany_5 {g : gp} {u : sg} {Q : Option Value → sg → Prop} (x1 : Int32) (x2 : Int32) (x3 : Int32) (x4 : Int32) (h : (((u.1 6 3) ≤ x4 → Q (some (.int x3)) u) ∧ (¬ (u.1 6 3) ≤ x4 → Go g iX5_isOfKind 0 [some (.ref (gd g 6)), some (.int x4), some (.int x1), some (.int x2), none] [] u (QI (fun r1 u1 => ((r1 = (0 : Int32) → Go g iX5_howMany 5 [some (.ref (gd g 6)), some (.int x1), some (.int x2), some (.int x3), some (.int (x4 + 1))] [] u1 Q) ∧ (¬ r1 = (0 : Int32) → Go g iX5_howMany 5 [some (.ref (gd g 6)), some (.int x1), some (.int x2), some (.int (x3 + 1)), some (.int (x4 + 1))] [] u1 Q))))))) : Go g iX5_howMany 5 [some (.ref (gd g 6)), some (.int x1), some (.int x2), some (.int x3), some (.int x4)] [] u Q := by
  refine go_iload dX5_howMany_5 rfl ?_
  refine go_aload_n dX5_howMany_7 rfl rfl ?_
  refine go_get (k := 3) (v := .int (u.1 6 3)) dX5_howMany_8 ob_6 (by decide) qf_X5_42 rfl ?_
  refine go_icmp_ge (tgt := 34) dX5_howMany_11 (by decide) (fun hc => ?_) (fun hc => ?_)
  · replace h := h.1 hc
    refine go_iload_n dX5_howMany_34 rfl rfl ?_
    exact go_iret dX5_howMany_35 rfl h
  · replace h := h.2 hc
    refine go_aload_n dX5_howMany_14 rfl rfl ?_
    refine go_iload dX5_howMany_15 rfl ?_
    refine go_iload_n dX5_howMany_17 rfl rfl ?_
    refine go_iload_n dX5_howMany_18 rfl rfl ?_
    refine go_cVi (o := 6) (As := [.int x4, .int x1, .int x2]) (st := []) (lc := [some (.ref (gd g 6)), some (.int x4), some (.int x1), some (.int x2), none]) dX5_howMany_19 me_X5_isOfKind rfl ob_6 qm_X5_80 rfl (Nat.le_of_ble_eq_true rfl) rfl ⟨Nat.le_of_ble_eq_true rfl, Nat.le_of_ble_eq_true rfl⟩ rfl (Nat.le_of_ble_eq_true rfl) h (fun r1 u1 h => ?_)
    refine go_if_eq (tgt := 28) dX5_howMany_22 (by decide) (fun hc => ?_) (fun hc => ?_)
    · replace h := h.1 hc
      refine go_iinc (v := x4 + 1) (lm := [some (.ref (gd g 6)), some (.int x1), some (.int x2), some (.int x3), some (.int (x4 + 1))]) dX5_howMany_28 rfl rfl (by decide) rfl rfl ?_
      refine go_goto (tgt := 5) dX5_howMany_31 (by decide) ?_
      exact h
    · replace h := h.2 hc
      refine go_iinc (v := x3 + 1) (lm := [some (.ref (gd g 6)), some (.int x1), some (.int x2), some (.int (x3 + 1)), some (.int x4)]) dX5_howMany_25 rfl rfl (by decide) rfl rfl ?_
      refine go_iinc (v := x4 + 1) (lm := [some (.ref (gd g 6)), some (.int x1), some (.int x2), some (.int (x3 + 1)), some (.int (x4 + 1))]) dX5_howMany_28 rfl rfl (by decide) rfl rfl ?_
      refine go_goto (tgt := 5) dX5_howMany_31 (by decide) ?_
      exact h
set_option maxRecDepth 100000 in
set_option maxHeartbeats 4000000 in
theorem B_X5_isForged_0 {g : gp} {u : sg} {Q : Option Value → sg → Prop} (x1 : Int32) (x2 : Int32) (h : Go g iX5_itemOf 0 [some (.ref (gd g 6)), some (.int x1), some (.int 0)] [] u (QI (fun r1 u1 => ((r1 = (2 : Int32) → Go g iX5_itemOf 0 [some (.ref (gd g 6)), some (.int x1), some (.int 4)] [] u1 (QI (fun r2 u2 => Go g iX5_itemOf 0 [some (.ref (gd g 6)), some (.int x1), some (.int 5)] [] u2 (QI (fun r3 u3 => Go g iX5_wasSick 0 [some (.ref (gd g 6)), some (.int r2), some (.int r3), none] [] u3 (QI (fun r4 u4 => ((¬ r4 = (0 : Int32) → Q (some (.int (1 : Int32))) u4) ∧ (r4 = (0 : Int32) → Go g iX1_inForce 0 [some (.ref (gd g 2)), some (.int x2), some (.int (30 + r2)), none, none, none] [] u4 (QI (fun r5 u5 => ((r5 = (0 : Int32) → Q (some (.int (1 : Int32))) u5) ∧ (¬ r5 = (0 : Int32) → Go g iX5_isSealOfOtherHand 0 [some (.ref (gd g 6)), some (.int x1), none] [] u5 (QI (fun r6 u6 => ((r6 = (0 : Int32) → Q (some (.int (0 : Int32))) u6) ∧ (¬ r6 = (0 : Int32) → Q (some (.int (1 : Int32))) u6))))))))))))))))) ∧ (¬ r1 = (2 : Int32) → Q (some (.int (0 : Int32))) u1))))) : Go g iX5_isForged 0 [some (.ref (gd g 6)), some (.int x1), some (.int x2), none] [] u Q := by
  refine go_aload_n dX5_isForged_0 rfl rfl ?_
  refine go_iload_n dX5_isForged_1 rfl rfl ?_
  refine go_iconst (v := 0) dX5_isForged_2 (by decide) ?_
  refine go_cVi (o := 6) (As := [.int x1, .int 0]) (st := []) (lc := [some (.ref (gd g 6)), some (.int x1), some (.int 0)]) dX5_isForged_3 me_X5_itemOf rfl ob_6 qm_X5_51 rfl (Nat.le_of_ble_eq_true rfl) rfl ⟨Nat.le_of_ble_eq_true rfl, Nat.le_of_ble_eq_true rfl⟩ rfl (Nat.le_of_ble_eq_true rfl) h (fun r1 u1 h => ?_)
  refine go_iconst (v := 2) dX5_isForged_6 (by decide) ?_
  refine go_icmp_eq (tgt := 12) dX5_isForged_7 (by decide) (fun hc => ?_) (fun hc => ?_)
  · replace h := h.1 hc
    refine go_aload_n dX5_isForged_12 rfl rfl ?_
    refine go_iload_n dX5_isForged_13 rfl rfl ?_
    refine go_iconst (v := 4) dX5_isForged_14 (by decide) ?_
    refine go_cVi (o := 6) (As := [.int x1, .int 4]) (st := []) (lc := [some (.ref (gd g 6)), some (.int x1), some (.int 4)]) dX5_isForged_15 me_X5_itemOf rfl ob_6 qm_X5_51 rfl (Nat.le_of_ble_eq_true rfl) rfl ⟨Nat.le_of_ble_eq_true rfl, Nat.le_of_ble_eq_true rfl⟩ rfl (Nat.le_of_ble_eq_true rfl) h (fun r2 u2 h => ?_)
    refine go_istore_n (lm := [some (.ref (gd g 6)), some (.int x1), some (.int x2), some (.int r2)]) dX5_isForged_18 rfl (by decide) rfl rfl ?_
    refine go_aload_n dX5_isForged_19 rfl rfl ?_
    refine go_iload_n dX5_isForged_20 rfl rfl ?_
    refine go_aload_n dX5_isForged_21 rfl rfl ?_
    refine go_iload_n dX5_isForged_22 rfl rfl ?_
    refine go_iconst (v := 5) dX5_isForged_23 (by decide) ?_
    refine go_cVi (o := 6) (As := [.int x1, .int 5]) (st := [.int r2, .ref (gd g 6)]) (lc := [some (.ref (gd g 6)), some (.int x1), some (.int 5)]) dX5_isForged_24 me_X5_itemOf rfl ob_6 qm_X5_51 rfl (Nat.le_of_ble_eq_true rfl) rfl ⟨Nat.le_of_ble_eq_true rfl, Nat.le_of_ble_eq_true rfl⟩ rfl (Nat.le_of_ble_eq_true rfl) h (fun r3 u3 h => ?_)
    refine go_cVi (o := 6) (As := [.int r2, .int r3]) (st := []) (lc := [some (.ref (gd g 6)), some (.int r2), some (.int r3), none]) dX5_isForged_27 me_X5_wasSick rfl ob_6 qm_X5_84 rfl (Nat.le_of_ble_eq_true rfl) rfl ⟨Nat.le_of_ble_eq_true rfl, Nat.le_of_ble_eq_true rfl⟩ rfl (Nat.le_of_ble_eq_true rfl) h (fun r4 u4 h => ?_)
    refine go_if_ne (tgt := 56) dX5_isForged_30 (by decide) (fun hc => ?_) (fun hc => ?_)
    · replace h := h.1 hc
      refine go_iconst (v := 1) dX5_isForged_56 (by decide) ?_
      refine go_goto (tgt := 61) dX5_isForged_57 (by decide) ?_
      exact go_zret dX5_isForged_61 rfl (by decide) h
    · replace h := h.2 hc
      refine go_aload_n dX5_isForged_33 rfl rfl ?_
      refine go_get (k := 1) (v := .ref (gd g 2)) dX5_isForged_34 ob_6 (by decide) qf_X5_34 rfl ?_
      refine go_iload_n dX5_isForged_37 rfl rfl ?_
      refine go_bipush (v := 30) dX5_isForged_38 (by decide) ?_
      refine go_iload_n dX5_isForged_40 rfl rfl ?_
      refine go_iadd dX5_isForged_41 ?_
      refine go_cVi (o := 2) (As := [.int x2, .int (30 + r2)]) (st := []) (lc := [some (.ref (gd g 2)), some (.int x2), some (.int (30 + r2)), none, none, none]) dX5_isForged_42 me_X1_inForce rfl ob_2 qm_X5_66 rfl (Nat.le_of_ble_eq_true rfl) rfl ⟨Nat.le_of_ble_eq_true rfl, Nat.le_of_ble_eq_true rfl⟩ rfl (Nat.le_of_ble_eq_true rfl) h (fun r5 u5 h => ?_)
      refine go_if_eq (tgt := 56) dX5_isForged_45 (by decide) (fun hc => ?_) (fun hc => ?_)
      · replace h := h.1 hc
        refine go_iconst (v := 1) dX5_isForged_56 (by decide) ?_
        refine go_goto (tgt := 61) dX5_isForged_57 (by decide) ?_
        exact go_zret dX5_isForged_61 rfl (by decide) h
      · replace h := h.2 hc
        refine go_aload_n dX5_isForged_48 rfl rfl ?_
        refine go_iload_n dX5_isForged_49 rfl rfl ?_
        refine go_cVi (o := 6) (As := [.int x1]) (st := []) (lc := [some (.ref (gd g 6)), some (.int x1), none]) dX5_isForged_50 me_X5_isSealOfOtherHand rfl ob_6 qm_X5_87 rfl (Nat.le_of_ble_eq_true rfl) rfl ⟨Nat.le_of_ble_eq_true rfl, Nat.le_of_ble_eq_true rfl⟩ rfl (Nat.le_of_ble_eq_true rfl) h (fun r6 u6 h => ?_)
        refine go_if_eq (tgt := 60) dX5_isForged_53 (by decide) (fun hc => ?_) (fun hc => ?_)
        · replace h := h.1 hc
          refine go_iconst (v := 0) dX5_isForged_60 (by decide) ?_
          exact go_zret dX5_isForged_61 rfl (by decide) h
        · replace h := h.2 hc
          refine go_iconst (v := 1) dX5_isForged_56 (by decide) ?_
          refine go_goto (tgt := 61) dX5_isForged_57 (by decide) ?_
          exact go_zret dX5_isForged_61 rfl (by decide) h
  · replace h := h.2 hc
    refine go_iconst (v := 0) dX5_isForged_10 (by decide) ?_
    exact go_zret dX5_isForged_11 rfl (by decide) h
set_option maxRecDepth 100000 in
set_option maxHeartbeats 4000000 in
theorem B_X5_wasSick_0 {g : gp} {u : sg} {Q : Option Value → sg → Prop} (x1 : Int32) (x2 : Int32) (h : Go g iX5_wasSick 2 [some (.ref (gd g 6)), some (.int x1), some (.int x2), some (.int 0)] [] u Q) : Go g iX5_wasSick 0 [some (.ref (gd g 6)), some (.int x1), some (.int x2), none] [] u Q := by
  refine go_iconst (v := 0) dX5_wasSick_0 (by decide) ?_
  refine go_istore_n (lm := [some (.ref (gd g 6)), some (.int x1), some (.int x2), some (.int 0)]) dX5_wasSick_1 rfl (by decide) rfl rfl ?_
  exact h
set_option maxRecDepth 100000 in
set_option maxHeartbeats 4000000 in
theorem B_X5_wasSick_2 {g : gp} {u : sg} {Q : Option Value → sg → Prop} (x1 : Int32) (x2 : Int32) (x3 : Int32) (h : (((u.1 6 9) ≤ x3 → Q (some (.int (0 : Int32))) u) ∧ (¬ (u.1 6 9) ≤ x3 → (vp_in x3 20 ∧ ((¬ (u.2 32 x3.toNatClampNeg) = x1 → Go g iX5_wasSick 2 [some (.ref (gd g 6)), some (.int x1), some (.int x2), some (.int (x3 + 1))] [] u Q) ∧ ((u.2 32 x3.toNatClampNeg) = x1 → (vp_in x3 20 ∧ (vp_in x3 20 ∧ Go g iX11_within 0 [some (.int x2), some (.int (u.2 33 x3.toNatClampNeg)), some (.int (u.2 34 x3.toNatClampNeg))] [] u (QI (fun r1 u1 => ((r1 = (0 : Int32) → Go g iX5_wasSick 2 [some (.ref (gd g 6)), some (.int x1), some (.int x2), some (.int (x3 + 1))] [] u1 Q) ∧ (¬ r1 = (0 : Int32) → Q (some (.int (1 : Int32))) u1)))))))))))) : Go g iX5_wasSick 2 [some (.ref (gd g 6)), some (.int x1), some (.int x2), some (.int x3)] [] u Q := by
  refine go_iload_n dX5_wasSick_2 rfl rfl ?_
  refine go_aload_n dX5_wasSick_3 rfl rfl ?_
  refine go_get (k := 9) (v := .int (u.1 6 9)) dX5_wasSick_4 ob_6 (by decide) qf_X5_38 rfl ?_
  refine go_icmp_ge (tgt := 47) dX5_wasSick_7 (by decide) (fun hc => ?_) (fun hc => ?_)
  · replace h := h.1 hc
    refine go_iconst (v := 0) dX5_wasSick_47 (by decide) ?_
    exact go_zret dX5_wasSick_48 rfl (by decide) h
  · replace h := h.2 hc
    refine go_aload_n dX5_wasSick_10 rfl rfl ?_
    refine go_get (k := 6) (v := .ref (gd g 32)) dX5_wasSick_11 ob_6 (by decide) qf_X5_21 rfl ?_
    refine go_iload_n dX5_wasSick_14 rfl rfl ?_
    obtain ⟨hi, h⟩ := h
    refine go_ild (a := 32) (n := 20) dX5_wasSick_15 (by decide) (by decide) rfl hi ?_
    refine go_iload_n dX5_wasSick_16 rfl rfl ?_
    refine go_icmp_ne (tgt := 41) dX5_wasSick_17 (by decide) (fun hc => ?_) (fun hc => ?_)
    · replace h := h.1 hc
      refine go_iinc (v := x3 + 1) (lm := [some (.ref (gd g 6)), some (.int x1), some (.int x2), some (.int (x3 + 1))]) dX5_wasSick_41 rfl rfl (by decide) rfl rfl ?_
      refine go_goto (tgt := 2) dX5_wasSick_44 (by decide) ?_
      exact h
    · replace h := h.2 hc
      refine go_iload_n dX5_wasSick_20 rfl rfl ?_
      refine go_aload_n dX5_wasSick_21 rfl rfl ?_
      refine go_get (k := 7) (v := .ref (gd g 33)) dX5_wasSick_22 ob_6 (by decide) qf_X5_24 rfl ?_
      refine go_iload_n dX5_wasSick_25 rfl rfl ?_
      obtain ⟨hi, h⟩ := h
      refine go_ild (a := 33) (n := 20) dX5_wasSick_26 (by decide) (by decide) rfl hi ?_
      refine go_aload_n dX5_wasSick_27 rfl rfl ?_
      refine go_get (k := 8) (v := .ref (gd g 34)) dX5_wasSick_28 ob_6 (by decide) qf_X5_27 rfl ?_
      refine go_iload_n dX5_wasSick_31 rfl rfl ?_
      obtain ⟨hi, h⟩ := h
      refine go_ild (a := 34) (n := 20) dX5_wasSick_32 (by decide) (by decide) rfl hi ?_
      refine go_cNi (As := [.int x2, .int (u.2 33 x3.toNatClampNeg), .int (u.2 34 x3.toNatClampNeg)]) (st := []) (lc := [some (.int x2), some (.int (u.2 33 x3.toNatClampNeg)), some (.int (u.2 34 x3.toNatClampNeg))]) dX5_wasSick_33 me_X11_within (List.mem_of_getElem? (i := 5) rfl) rfl (Nat.le_of_ble_eq_true rfl) rfl ⟨Nat.le_of_ble_eq_true rfl, Nat.le_of_ble_eq_true rfl⟩ rfl (Nat.le_of_ble_eq_true rfl) h (fun r1 u1 h => ?_)
      refine go_if_eq (tgt := 41) dX5_wasSick_36 (by decide) (fun hc => ?_) (fun hc => ?_)
      · replace h := h.1 hc
        refine go_iinc (v := x3 + 1) (lm := [some (.ref (gd g 6)), some (.int x1), some (.int x2), some (.int (x3 + 1))]) dX5_wasSick_41 rfl rfl (by decide) rfl rfl ?_
        refine go_goto (tgt := 2) dX5_wasSick_44 (by decide) ?_
        exact h
      · replace h := h.2 hc
        refine go_iconst (v := 1) dX5_wasSick_39 (by decide) ?_
        exact go_zret dX5_wasSick_40 rfl (by decide) h
set_option maxRecDepth 100000 in
set_option maxHeartbeats 4000000 in
theorem B_X5_isSealOfOtherHand_0 {g : gp} {u : sg} {Q : Option Value → sg → Prop} (x1 : Int32) (h : Go g iX5_isSealOfOtherHand 2 [some (.ref (gd g 6)), some (.int x1), some (.int 0)] [] u Q) : Go g iX5_isSealOfOtherHand 0 [some (.ref (gd g 6)), some (.int x1), none] [] u Q := by
  refine go_iconst (v := 0) dX5_isSealOfOtherHand_0 (by decide) ?_
  refine go_istore_n (lm := [some (.ref (gd g 6)), some (.int x1), some (.int 0)]) dX5_isSealOfOtherHand_1 rfl (by decide) rfl rfl ?_
  exact h
set_option maxRecDepth 100000 in
set_option maxHeartbeats 4000000 in
theorem B_X5_isSealOfOtherHand_2 {g : gp} {u : sg} {Q : Option Value → sg → Prop} (x1 : Int32) (x2 : Int32) (h : ((x1 ≤ x2 → Q (some (.int (0 : Int32))) u) ∧ (¬ x1 ≤ x2 → Go g iX5_itemOf 0 [some (.ref (gd g 6)), some (.int x2), some (.int 2)] [] u (QI (fun r1 u1 => Go g iX5_itemOf 0 [some (.ref (gd g 6)), some (.int x1), some (.int 2)] [] u1 (QI (fun r2 u2 => ((¬ r1 = r2 → Go g iX5_isSealOfOtherHand 2 [some (.ref (gd g 6)), some (.int x1), some (.int (x2 + 1))] [] u2 Q) ∧ (r1 = r2 → Go g iX5_itemOf 0 [some (.ref (gd g 6)), some (.int x2), some (.int 3)] [] u2 (QI (fun r3 u3 => Go g iX5_itemOf 0 [some (.ref (gd g 6)), some (.int x1), some (.int 3)] [] u3 (QI (fun r4 u4 => ((r3 = r4 → Go g iX5_isSealOfOtherHand 2 [some (.ref (gd g 6)), some (.int x1), some (.int (x2 + 1))] [] u4 Q) ∧ (¬ r3 = r4 → Q (some (.int (1 : Int32))) u4))))))))))))))) : Go g iX5_isSealOfOtherHand 2 [some (.ref (gd g 6)), some (.int x1), some (.int x2)] [] u Q := by
  refine go_iload_n dX5_isSealOfOtherHand_2 rfl rfl ?_
  refine go_iload_n dX5_isSealOfOtherHand_3 rfl rfl ?_
  refine go_icmp_ge (tgt := 45) dX5_isSealOfOtherHand_4 (by decide) (fun hc => ?_) (fun hc => ?_)
  · replace h := h.1 hc
    refine go_iconst (v := 0) dX5_isSealOfOtherHand_45 (by decide) ?_
    exact go_zret dX5_isSealOfOtherHand_46 rfl (by decide) h
  · replace h := h.2 hc
    refine go_aload_n dX5_isSealOfOtherHand_7 rfl rfl ?_
    refine go_iload_n dX5_isSealOfOtherHand_8 rfl rfl ?_
    refine go_iconst (v := 2) dX5_isSealOfOtherHand_9 (by decide) ?_
    refine go_cVi (o := 6) (As := [.int x2, .int 2]) (st := []) (lc := [some (.ref (gd g 6)), some (.int x2), some (.int 2)]) dX5_isSealOfOtherHand_10 me_X5_itemOf rfl ob_6 qm_X5_51 rfl (Nat.le_of_ble_eq_true rfl) rfl ⟨Nat.le_of_ble_eq_true rfl, Nat.le_of_ble_eq_true rfl⟩ rfl (Nat.le_of_ble_eq_true rfl) h (fun r1 u1 h => ?_)
    refine go_aload_n dX5_isSealOfOtherHand_13 rfl rfl ?_
    refine go_iload_n dX5_isSealOfOtherHand_14 rfl rfl ?_
    refine go_iconst (v := 2) dX5_isSealOfOtherHand_15 (by decide) ?_
    refine go_cVi (o := 6) (As := [.int x1, .int 2]) (st := [.int r1]) (lc := [some (.ref (gd g 6)), some (.int x1), some (.int 2)]) dX5_isSealOfOtherHand_16 me_X5_itemOf rfl ob_6 qm_X5_51 rfl (Nat.le_of_ble_eq_true rfl) rfl ⟨Nat.le_of_ble_eq_true rfl, Nat.le_of_ble_eq_true rfl⟩ rfl (Nat.le_of_ble_eq_true rfl) h (fun r2 u2 h => ?_)
    refine go_icmp_ne (tgt := 39) dX5_isSealOfOtherHand_19 (by decide) (fun hc => ?_) (fun hc => ?_)
    · replace h := h.1 hc
      refine go_iinc (v := x2 + 1) (lm := [some (.ref (gd g 6)), some (.int x1), some (.int (x2 + 1))]) dX5_isSealOfOtherHand_39 rfl rfl (by decide) rfl rfl ?_
      refine go_goto (tgt := 2) dX5_isSealOfOtherHand_42 (by decide) ?_
      exact h
    · replace h := h.2 hc
      refine go_aload_n dX5_isSealOfOtherHand_22 rfl rfl ?_
      refine go_iload_n dX5_isSealOfOtherHand_23 rfl rfl ?_
      refine go_iconst (v := 3) dX5_isSealOfOtherHand_24 (by decide) ?_
      refine go_cVi (o := 6) (As := [.int x2, .int 3]) (st := []) (lc := [some (.ref (gd g 6)), some (.int x2), some (.int 3)]) dX5_isSealOfOtherHand_25 me_X5_itemOf rfl ob_6 qm_X5_51 rfl (Nat.le_of_ble_eq_true rfl) rfl ⟨Nat.le_of_ble_eq_true rfl, Nat.le_of_ble_eq_true rfl⟩ rfl (Nat.le_of_ble_eq_true rfl) h (fun r3 u3 h => ?_)
      refine go_aload_n dX5_isSealOfOtherHand_28 rfl rfl ?_
      refine go_iload_n dX5_isSealOfOtherHand_29 rfl rfl ?_
      refine go_iconst (v := 3) dX5_isSealOfOtherHand_30 (by decide) ?_
      refine go_cVi (o := 6) (As := [.int x1, .int 3]) (st := [.int r3]) (lc := [some (.ref (gd g 6)), some (.int x1), some (.int 3)]) dX5_isSealOfOtherHand_31 me_X5_itemOf rfl ob_6 qm_X5_51 rfl (Nat.le_of_ble_eq_true rfl) rfl ⟨Nat.le_of_ble_eq_true rfl, Nat.le_of_ble_eq_true rfl⟩ rfl (Nat.le_of_ble_eq_true rfl) h (fun r4 u4 h => ?_)
      refine go_icmp_eq (tgt := 39) dX5_isSealOfOtherHand_34 (by decide) (fun hc => ?_) (fun hc => ?_)
      · replace h := h.1 hc
        refine go_iinc (v := x2 + 1) (lm := [some (.ref (gd g 6)), some (.int x1), some (.int (x2 + 1))]) dX5_isSealOfOtherHand_39 rfl rfl (by decide) rfl rfl ?_
        refine go_goto (tgt := 2) dX5_isSealOfOtherHand_42 (by decide) ?_
        exact h
      · replace h := h.2 hc
        refine go_iconst (v := 1) dX5_isSealOfOtherHand_37 (by decide) ?_
        exact go_zret dX5_isSealOfOtherHand_38 rfl (by decide) h
