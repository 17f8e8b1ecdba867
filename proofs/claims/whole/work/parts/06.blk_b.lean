theorem dX1_isTopic_0 : decode cX1_isTopic 0 = .ok (.iload_n 0, 1) := by decide +kernel
theorem dX1_isTopic_1 : decode cX1_isTopic 1 = .ok (.ifCond .eq 47, 3) := by decide +kernel
theorem dX1_isTopic_4 : decode cX1_isTopic 4 = .ok (.iload_n 0, 1) := by decide +kernel
theorem dX1_isTopic_5 : decode cX1_isTopic 5 = .ok (.bipush 10, 2) := by decide +kernel
theorem dX1_isTopic_7 : decode cX1_isTopic 7 = .ok (.bipush 17, 2) := by decide +kernel
theorem dX1_isTopic_9 : decode cX1_isTopic 9 = .ok (.invokestatic 21, 3) := by decide +kernel
theorem dX1_isTopic_12 : decode cX1_isTopic 12 = .ok (.ifCond .ne 36, 3) := by decide +kernel
theorem dX1_isTopic_15 : decode cX1_isTopic 15 = .ok (.iload_n 0, 1) := by decide +kernel
theorem dX1_isTopic_16 : decode cX1_isTopic 16 = .ok (.bipush 20, 2) := by decide +kernel
theorem dX1_isTopic_18 : decode cX1_isTopic 18 = .ok (.bipush 27, 2) := by decide +kernel
theorem dX1_isTopic_20 : decode cX1_isTopic 20 = .ok (.invokestatic 21, 3) := by decide +kernel
theorem dX1_isTopic_23 : decode cX1_isTopic 23 = .ok (.ifCond .ne 25, 3) := by decide +kernel
theorem dX1_isTopic_26 : decode cX1_isTopic 26 = .ok (.iload_n 0, 1) := by decide +kernel
theorem dX1_isTopic_27 : decode cX1_isTopic 27 = .ok (.bipush 30, 2) := by decide +kernel
theorem dX1_isTopic_29 : decode cX1_isTopic 29 = .ok (.bipush 37, 2) := by decide +kernel
theorem dX1_isTopic_31 : decode cX1_isTopic 31 = .ok (.invokestatic 21, 3) := by decide +kernel
theorem dX1_isTopic_34 : decode cX1_isTopic 34 = .ok (.ifCond .ne 14, 3) := by decide +kernel
theorem dX1_isTopic_37 : decode cX1_isTopic 37 = .ok (.iload_n 0, 1) := by decide +kernel
theorem dX1_isTopic_38 : decode cX1_isTopic 38 = .ok (.bipush 40, 2) := by decide +kernel
theorem dX1_isTopic_40 : decode cX1_isTopic 40 = .ok (.bipush 51, 2) := by decide +kernel
theorem dX1_isTopic_42 : decode cX1_isTopic 42 = .ok (.invokestatic 21, 3) := by decide +kernel
theorem dX1_isTopic_45 : decode cX1_isTopic 45 = .ok (.ifCond .eq 7, 3) := by decide +kernel
theorem dX1_isTopic_48 : decode cX1_isTopic 48 = .ok (.iconst 1, 1) := by decide +kernel
theorem dX1_isTopic_49 : decode cX1_isTopic 49 = .ok (.goto 4, 3) := by decide +kernel
theorem dX1_isTopic_52 : decode cX1_isTopic 52 = .ok (.iconst 0, 1) := by decide +kernel
theorem dX1_isTopic_53 : decode cX1_isTopic 53 = .ok (.ireturn, 1) := by decide +kernel
theorem dX1_inForce_0 : decode cX1_inForce 0 = .ok (.iload_n 2, 1) := by decide +kernel
theorem dX1_inForce_1 : decode cX1_inForce 1 = .ok (.bipush 30, 2) := by decide +kernel
theorem dX1_inForce_3 : decode cX1_inForce 3 = .ok (.bipush 37, 2) := by decide +kernel
theorem dX1_inForce_5 : decode cX1_inForce 5 = .ok (.invokestatic 21, 3) := by decide +kernel
theorem dX1_inForce_8 : decode cX1_inForce 8 = .ok (.ifCond .eq 7, 3) := by decide +kernel
theorem dX1_inForce_11 : decode cX1_inForce 11 = .ok (.iconst 1, 1) := by decide +kernel
theorem dX1_inForce_12 : decode cX1_inForce 12 = .ok (.goto 4, 3) := by decide +kernel
theorem dX1_inForce_15 : decode cX1_inForce 15 = .ok (.iconst 0, 1) := by decide +kernel
theorem dX1_inForce_16 : decode cX1_inForce 16 = .ok (.istore_n 3, 1) := by decide +kernel
theorem dX1_inForce_17 : decode cX1_inForce 17 = .ok (.iconst (-1), 1) := by decide +kernel
theorem dX1_inForce_18 : decode cX1_inForce 18 = .ok (.istore 4, 2) := by decide +kernel
theorem dX1_inForce_20 : decode cX1_inForce 20 = .ok (.iconst 0, 1) := by decide +kernel
theorem dX1_inForce_21 : decode cX1_inForce 21 = .ok (.istore 5, 2) := by decide +kernel
theorem dX1_inForce_23 : decode cX1_inForce 23 = .ok (.iload 5, 2) := by decide +kernel
theorem dX1_inForce_25 : decode cX1_inForce 25 = .ok (.aload_n 0, 1) := by decide +kernel
theorem dX1_inForce_26 : decode cX1_inForce 26 = .ok (.getfield 25, 3) := by decide +kernel
theorem dX1_inForce_29 : decode cX1_inForce 29 = .ok (.if_icmp .ge 60, 3) := by decide +kernel
theorem dX1_inForce_32 : decode cX1_inForce 32 = .ok (.aload_n 0, 1) := by decide +kernel
theorem dX1_inForce_33 : decode cX1_inForce 33 = .ok (.getfield 15, 3) := by decide +kernel
theorem dX1_inForce_36 : decode cX1_inForce 36 = .ok (.iload 5, 2) := by decide +kernel
theorem dX1_inForce_38 : decode cX1_inForce 38 = .ok (.iaload, 1) := by decide +kernel
theorem dX1_inForce_39 : decode cX1_inForce 39 = .ok (.iload_n 2, 1) := by decide +kernel
theorem dX1_inForce_40 : decode cX1_inForce 40 = .ok (.if_icmp .ne 43, 3) := by decide +kernel
theorem dX1_inForce_43 : decode cX1_inForce 43 = .ok (.aload_n 0, 1) := by decide +kernel
theorem dX1_inForce_44 : decode cX1_inForce 44 = .ok (.getfield 11, 3) := by decide +kernel
theorem dX1_inForce_47 : decode cX1_inForce 47 = .ok (.iload 5, 2) := by decide +kernel
theorem dX1_inForce_49 : decode cX1_inForce 49 = .ok (.iaload, 1) := by decide +kernel
theorem dX1_inForce_50 : decode cX1_inForce 50 = .ok (.iload_n 1, 1) := by decide +kernel
theorem dX1_inForce_51 : decode cX1_inForce 51 = .ok (.if_icmp .gt 32, 3) := by decide +kernel
theorem dX1_inForce_54 : decode cX1_inForce 54 = .ok (.aload_n 0, 1) := by decide +kernel
theorem dX1_inForce_55 : decode cX1_inForce 55 = .ok (.getfield 11, 3) := by decide +kernel
theorem dX1_inForce_58 : decode cX1_inForce 58 = .ok (.iload 5, 2) := by decide +kernel
theorem dX1_inForce_60 : decode cX1_inForce 60 = .ok (.iaload, 1) := by decide +kernel
theorem dX1_inForce_61 : decode cX1_inForce 61 = .ok (.iload 4, 2) := by decide +kernel
theorem dX1_inForce_63 : decode cX1_inForce 63 = .ok (.if_icmp .lt 20, 3) := by decide +kernel
theorem dX1_inForce_66 : decode cX1_inForce 66 = .ok (.aload_n 0, 1) := by decide +kernel
theorem dX1_inForce_67 : decode cX1_inForce 67 = .ok (.getfield 18, 3) := by decide +kernel
theorem dX1_inForce_70 : decode cX1_inForce 70 = .ok (.iload 5, 2) := by decide +kernel
theorem dX1_inForce_72 : decode cX1_inForce 72 = .ok (.iaload, 1) := by decide +kernel
theorem dX1_inForce_73 : decode cX1_inForce 73 = .ok (.istore_n 3, 1) := by decide +kernel
theorem dX1_inForce_74 : decode cX1_inForce 74 = .ok (.aload_n 0, 1) := by decide +kernel
theorem dX1_inForce_75 : decode cX1_inForce 75 = .ok (.getfield 11, 3) := by decide +kernel
theorem dX1_inForce_78 : decode cX1_inForce 78 = .ok (.iload 5, 2) := by decide +kernel
theorem dX1_inForce_80 : decode cX1_inForce 80 = .ok (.iaload, 1) := by decide +kernel
theorem dX1_inForce_81 : decode cX1_inForce 81 = .ok (.istore 4, 2) := by decide +kernel
theorem dX1_inForce_83 : decode cX1_inForce 83 = .ok (.iinc 5 1, 3) := by decide +kernel
theorem dX1_inForce_86 : decode cX1_inForce 86 = .ok (.goto (-63), 3) := by decide +kernel
theorem dX1_inForce_89 : decode cX1_inForce 89 = .ok (.iload_n 3, 1) := by decide +kernel
theorem dX1_inForce_90 : decode cX1_inForce 90 = .ok (.ireturn, 1) := by decide +kernel
theorem dX1_beginDraft_0 : decode cX1_beginDraft 0 = .ok (.aload_n 0, 1) := by decide +kernel
theorem dX1_beginDraft_1 : decode cX1_beginDraft 1 = .ok (.aload_n 0, 1) := by decide +kernel
theorem dX1_beginDraft_2 : decode cX1_beginDraft 2 = .ok (.getfield 25, 3) := by decide +kernel
theorem dX1_beginDraft_5 : decode cX1_beginDraft 5 = .ok (.putfield 29, 3) := by decide +kernel
theorem dX1_beginDraft_8 : decode cX1_beginDraft 8 = .ok (.return_, 1) := by decide +kernel
theorem dX1_isDraftFull_0 : decode cX1_isDraftFull 0 = .ok (.aload_n 0, 1) := by decide +kernel
theorem dX1_isDraftFull_1 : decode cX1_isDraftFull 1 = .ok (.getfield 29, 3) := by decide +kernel
theorem dX1_isDraftFull_4 : decode cX1_isDraftFull 4 = .ok (.bipush 30, 2) := by decide +kernel
theorem dX1_isDraftFull_6 : decode cX1_isDraftFull 6 = .ok (.if_icmp .lt 7, 3) := by decide +kernel
theorem dX1_isDraftFull_9 : decode cX1_isDraftFull 9 = .ok (.iconst 1, 1) := by decide +kernel
theorem dX1_isDraftFull_10 : decode cX1_isDraftFull 10 = .ok (.goto 4, 3) := by decide +kernel
theorem dX1_isDraftFull_13 : decode cX1_isDraftFull 13 = .ok (.iconst 0, 1) := by decide +kernel
theorem dX1_isDraftFull_14 : decode cX1_isDraftFull 14 = .ok (.ireturn, 1) := by decide +kernel
theorem dX1_draft_0 : decode cX1_draft 0 = .ok (.aload_n 0, 1) := by decide +kernel
theorem dX1_draft_1 : decode cX1_draft 1 = .ok (.getfield 29, 3) := by decide +kernel
theorem dX1_draft_4 : decode cX1_draft 4 = .ok (.bipush 30, 2) := by decide +kernel
theorem dX1_draft_6 : decode cX1_draft 6 = .ok (.if_icmp .ge 43, 3) := by decide +kernel
theorem dX1_draft_9 : decode cX1_draft 9 = .ok (.aload_n 0, 1) := by decide +kernel
theorem dX1_draft_10 : decode cX1_draft 10 = .ok (.getfield 11, 3) := by decide +kernel
theorem dX1_draft_13 : decode cX1_draft 13 = .ok (.aload_n 0, 1) := by decide +kernel
theorem dX1_draft_14 : decode cX1_draft 14 = .ok (.getfield 29, 3) := by decide +kernel
theorem dX1_draft_17 : decode cX1_draft 17 = .ok (.iload_n 1, 1) := by decide +kernel
theorem dX1_draft_18 : decode cX1_draft 18 = .ok (.iastore, 1) := by decide +kernel
theorem dX1_draft_19 : decode cX1_draft 19 = .ok (.aload_n 0, 1) := by decide +kernel
theorem dX1_draft_20 : decode cX1_draft 20 = .ok (.getfield 15, 3) := by decide +kernel
theorem dX1_draft_23 : decode cX1_draft 23 = .ok (.aload_n 0, 1) := by decide +kernel
theorem dX1_draft_24 : decode cX1_draft 24 = .ok (.getfield 29, 3) := by decide +kernel
theorem dX1_draft_27 : decode cX1_draft 27 = .ok (.iload_n 2, 1) := by decide +kernel
theorem dX1_draft_28 : decode cX1_draft 28 = .ok (.iastore, 1) := by decide +kernel
theorem dX1_draft_29 : decode cX1_draft 29 = .ok (.aload_n 0, 1) := by decide +kernel
theorem dX1_draft_30 : decode cX1_draft 30 = .ok (.getfield 18, 3) := by decide +kernel
theorem dX1_draft_33 : decode cX1_draft 33 = .ok (.aload_n 0, 1) := by decide +kernel
theorem dX1_draft_34 : decode cX1_draft 34 = .ok (.getfield 29, 3) := by decide +kernel
theorem dX1_draft_37 : decode cX1_draft 37 = .ok (.iload_n 3, 1) := by decide +kernel
theorem dX1_draft_38 : decode cX1_draft 38 = .ok (.iastore, 1) := by decide +kernel
theorem dX1_draft_39 : decode cX1_draft 39 = .ok (.aload_n 0, 1) := by decide +kernel
theorem dX1_draft_40 : decode cX1_draft 40 = .ok (.dup, 1) := by decide +kernel
theorem dX1_draft_41 : decode cX1_draft 41 = .ok (.getfield 29, 3) := by decide +kernel
theorem dX1_draft_44 : decode cX1_draft 44 = .ok (.iconst 1, 1) := by decide +kernel
theorem dX1_draft_45 : decode cX1_draft 45 = .ok (.iadd, 1) := by decide +kernel
theorem dX1_draft_46 : decode cX1_draft 46 = .ok (.putfield 29, 3) := by decide +kernel
theorem dX1_draft_49 : decode cX1_draft 49 = .ok (.return_, 1) := by decide +kernel
theorem dX1_passDraft_0 : decode cX1_passDraft 0 = .ok (.aload_n 0, 1) := by decide +kernel
theorem dX1_passDraft_1 : decode cX1_passDraft 1 = .ok (.aload_n 0, 1) := by decide +kernel
theorem dX1_passDraft_2 : decode cX1_passDraft 2 = .ok (.getfield 29, 3) := by decide +kernel
theorem dX1_passDraft_5 : decode cX1_passDraft 5 = .ok (.putfield 25, 3) := by decide +kernel
theorem dX1_passDraft_8 : decode cX1_passDraft 8 = .ok (.return_, 1) := by decide +kernel
theorem dX2_addCart_0 : decode cX2_addCart 0 = .ok (.iconst 0, 1) := by decide +kernel
theorem dX2_addCart_1 : decode cX2_addCart 1 = .ok (.istore 4, 2) := by decide +kernel
theorem dX2_addCart_3 : decode cX2_addCart 3 = .ok (.iload 4, 2) := by decide +kernel
theorem dX2_addCart_5 : decode cX2_addCart 5 = .ok (.bipush 9, 2) := by decide +kernel
theorem dX2_addCart_7 : decode cX2_addCart 7 = .ok (.if_icmp .ge 33, 3) := by decide +kernel
theorem dX2_addCart_10 : decode cX2_addCart 10 = .ok (.aload_n 0, 1) := by decide +kernel
theorem dX2_addCart_11 : decode cX2_addCart 11 = .ok (.getfield 11, 3) := by decide +kernel
theorem dX2_addCart_14 : decode cX2_addCart 14 = .ok (.aload_n 0, 1) := by decide +kernel
theorem dX2_addCart_15 : decode cX2_addCart 15 = .ok (.getfield 38, 3) := by decide +kernel
theorem dX2_addCart_18 : decode cX2_addCart 18 = .ok (.bipush 9, 2) := by decide +kernel
theorem dX2_addCart_20 : decode cX2_addCart 20 = .ok (.imul, 1) := by decide +kernel
theorem dX2_addCart_21 : decode cX2_addCart 21 = .ok (.iload 4, 2) := by decide +kernel
theorem dX2_addCart_23 : decode cX2_addCart 23 = .ok (.iadd, 1) := by decide +kernel
theorem dX2_addCart_24 : decode cX2_addCart 24 = .ok (.aload_n 1, 1) := by decide +kernel
theorem dX2_addCart_25 : decode cX2_addCart 25 = .ok (.iload_n 2, 1) := by decide +kernel
theorem dX2_addCart_26 : decode cX2_addCart 26 = .ok (.iload_n 3, 1) := by decide +kernel
theorem dX2_addCart_27 : decode cX2_addCart 27 = .ok (.iload 4, 2) := by decide +kernel
theorem dX2_addCart_29 : decode cX2_addCart 29 = .ok (.iadd, 1) := by decide +kernel
theorem dX2_addCart_30 : decode cX2_addCart 30 = .ok (.invokevirtual 42, 3) := by decide +kernel
theorem dX2_addCart_33 : decode cX2_addCart 33 = .ok (.iastore, 1) := by decide +kernel
theorem dX2_addCart_34 : decode cX2_addCart 34 = .ok (.iinc 4 1, 3) := by decide +kernel
theorem dX2_addCart_37 : decode cX2_addCart 37 = .ok (.goto (-34), 3) := by decide +kernel
theorem dX2_addCart_40 : decode cX2_addCart 40 = .ok (.aload_n 0, 1) := by decide +kernel
theorem dX2_addCart_41 : decode cX2_addCart 41 = .ok (.dup, 1) := by decide +kernel
theorem dX2_addCart_42 : decode cX2_addCart 42 = .ok (.getfield 38, 3) := by decide +kernel
theorem dX2_addCart_45 : decode cX2_addCart 45 = .ok (.iconst 1, 1) := by decide +kernel
theorem dX2_addCart_46 : decode cX2_addCart 46 = .ok (.iadd, 1) := by decide +kernel
theorem dX2_addCart_47 : decode cX2_addCart 47 = .ok (.putfield 38, 3) := by decide +kernel
theorem dX2_addCart_50 : decode cX2_addCart 50 = .ok (.aload_n 0, 1) := by decide +kernel
theorem dX2_addCart_51 : decode cX2_addCart 51 = .ok (.getfield 38, 3) := by decide +kernel
theorem dX2_addCart_54 : decode cX2_addCart 54 = .ok (.iconst 1, 1) := by decide +kernel
theorem dX2_addCart_55 : decode cX2_addCart 55 = .ok (.isub, 1) := by decide +kernel
theorem dX2_addCart_56 : decode cX2_addCart 56 = .ok (.ireturn, 1) := by decide +kernel
theorem dX2_owedAt_0 : decode cX2_owedAt 0 = .ok (.aload_n 0, 1) := by decide +kernel
theorem dX2_owedAt_1 : decode cX2_owedAt 1 = .ok (.iload_n 1, 1) := by decide +kernel
theorem dX2_owedAt_2 : decode cX2_owedAt 2 = .ok (.iload_n 3, 1) := by decide +kernel
theorem dX2_owedAt_3 : decode cX2_owedAt 3 = .ok (.invokevirtual 48, 3) := by decide +kernel
theorem dX2_owedAt_6 : decode cX2_owedAt 6 = .ok (.aload_n 0, 1) := by decide +kernel
theorem dX2_owedAt_7 : decode cX2_owedAt 7 = .ok (.getfield 30, 3) := by decide +kernel
theorem dX2_owedAt_10 : decode cX2_owedAt 10 = .ok (.getfield 51, 3) := by decide +kernel
theorem dX2_owedAt_13 : decode cX2_owedAt 13 = .ok (.iload_n 2, 1) := by decide +kernel
theorem dX2_owedAt_14 : decode cX2_owedAt 14 = .ok (.iaload, 1) := by decide +kernel
theorem dX2_owedAt_15 : decode cX2_owedAt 15 = .ok (.imul, 1) := by decide +kernel
theorem dX2_owedAt_16 : decode cX2_owedAt 16 = .ok (.bipush 100, 2) := by decide +kernel
theorem dX2_owedAt_18 : decode cX2_owedAt 18 = .ok (.idiv, 1) := by decide +kernel
theorem dX2_owedAt_19 : decode cX2_owedAt 19 = .ok (.ireturn, 1) := by decide +kernel
theorem dX2_leastGate_0 : decode cX2_leastGate 0 = .ok (.aload_n 0, 1) := by decide +kernel
theorem dX2_leastGate_1 : decode cX2_leastGate 1 = .ok (.iload_n 1, 1) := by decide +kernel
theorem dX2_leastGate_2 : decode cX2_leastGate 2 = .ok (.iload_n 2, 1) := by decide +kernel
theorem dX2_leastGate_3 : decode cX2_leastGate 3 = .ok (.invokevirtual 48, 3) := by decide +kernel
theorem dX2_leastGate_6 : decode cX2_leastGate 6 = .ok (.istore_n 3, 1) := by decide +kernel
theorem dX2_leastGate_7 : decode cX2_leastGate 7 = .ok (.iconst 0, 1) := by decide +kernel
theorem dX2_leastGate_8 : decode cX2_leastGate 8 = .ok (.istore 4, 2) := by decide +kernel
theorem dX2_leastGate_10 : decode cX2_leastGate 10 = .ok (.iconst 1, 1) := by decide +kernel
theorem dX2_leastGate_11 : decode cX2_leastGate 11 = .ok (.istore 5, 2) := by decide +kernel
theorem dX2_leastGate_13 : decode cX2_leastGate 13 = .ok (.iload 5, 2) := by decide +kernel
theorem dX2_leastGate_15 : decode cX2_leastGate 15 = .ok (.bipush 9, 2) := by decide +kernel
theorem dX2_leastGate_17 : decode cX2_leastGate 17 = .ok (.if_icmp .ge 46, 3) := by decide +kernel
theorem dX2_leastGate_20 : decode cX2_leastGate 20 = .ok (.iload_n 3, 1) := by decide +kernel
theorem dX2_leastGate_21 : decode cX2_leastGate 21 = .ok (.aload_n 0, 1) := by decide +kernel
theorem dX2_leastGate_22 : decode cX2_leastGate 22 = .ok (.getfield 30, 3) := by decide +kernel
theorem dX2_leastGate_25 : decode cX2_leastGate 25 = .ok (.getfield 51, 3) := by decide +kernel
theorem dX2_leastGate_28 : decode cX2_leastGate 28 = .ok (.iload 5, 2) := by decide +kernel
theorem dX2_leastGate_30 : decode cX2_leastGate 30 = .ok (.iaload, 1) := by decide +kernel
theorem dX2_leastGate_31 : decode cX2_leastGate 31 = .ok (.imul, 1) := by decide +kernel
theorem dX2_leastGate_32 : decode cX2_leastGate 32 = .ok (.bipush 100, 2) := by decide +kernel
theorem dX2_leastGate_34 : decode cX2_leastGate 34 = .ok (.idiv, 1) := by decide +kernel
theorem dX2_leastGate_35 : decode cX2_leastGate 35 = .ok (.iload_n 3, 1) := by decide +kernel
theorem dX2_leastGate_36 : decode cX2_leastGate 36 = .ok (.aload_n 0, 1) := by decide +kernel
theorem dX2_leastGate_37 : decode cX2_leastGate 37 = .ok (.getfield 30, 3) := by decide +kernel
theorem dX2_leastGate_40 : decode cX2_leastGate 40 = .ok (.getfield 51, 3) := by decide +kernel
theorem dX2_leastGate_43 : decode cX2_leastGate 43 = .ok (.iload 4, 2) := by decide +kernel
theorem dX2_leastGate_45 : decode cX2_leastGate 45 = .ok (.iaload, 1) := by decide +kernel
theorem dX2_leastGate_46 : decode cX2_leastGate 46 = .ok (.imul, 1) := by decide +kernel
theorem dX2_leastGate_47 : decode cX2_leastGate 47 = .ok (.bipush 100, 2) := by decide +kernel
theorem dX2_leastGate_49 : decode cX2_leastGate 49 = .ok (.idiv, 1) := by decide +kernel
theorem dX2_leastGate_50 : decode cX2_leastGate 50 = .ok (.if_icmp .ge 7, 3) := by decide +kernel
theorem dX2_leastGate_53 : decode cX2_leastGate 53 = .ok (.iload 5, 2) := by decide +kernel
theorem dX2_leastGate_55 : decode cX2_leastGate 55 = .ok (.istore 4, 2) := by decide +kernel
theorem dX2_leastGate_57 : decode cX2_leastGate 57 = .ok (.iinc 5 1, 3) := by decide +kernel
theorem dX2_leastGate_60 : decode cX2_leastGate 60 = .ok (.goto (-47), 3) := by decide +kernel
theorem dX2_leastGate_63 : decode cX2_leastGate 63 = .ok (.iload 4, 2) := by decide +kernel
theorem dX2_leastGate_65 : decode cX2_leastGate 65 = .ok (.ireturn, 1) := by decide +kernel
theorem dX2_wholeToll_0 : decode cX2_wholeToll 0 = .ok (.aload_n 0, 1) := by decide +kernel
theorem dX2_wholeToll_1 : decode cX2_wholeToll 1 = .ok (.getfield 11, 3) := by decide +kernel
theorem dX2_wholeToll_4 : decode cX2_wholeToll 4 = .ok (.iload_n 1, 1) := by decide +kernel
theorem dX2_wholeToll_5 : decode cX2_wholeToll 5 = .ok (.bipush 9, 2) := by decide +kernel
theorem dX2_wholeToll_7 : decode cX2_wholeToll 7 = .ok (.imul, 1) := by decide +kernel
theorem dX2_wholeToll_8 : decode cX2_wholeToll 8 = .ok (.iaload, 1) := by decide +kernel
theorem dX2_wholeToll_9 : decode cX2_wholeToll 9 = .ok (.aload_n 0, 1) := by decide +kernel
theorem dX2_wholeToll_10 : decode cX2_wholeToll 10 = .ok (.getfield 34, 3) := by decide +kernel
theorem dX2_wholeToll_13 : decode cX2_wholeToll 13 = .ok (.iload_n 2, 1) := by decide +kernel
theorem dX2_wholeToll_14 : decode cX2_wholeToll 14 = .ok (.iconst 0, 1) := by decide +kernel
theorem dX2_wholeToll_15 : decode cX2_wholeToll 15 = .ok (.invokevirtual 58, 3) := by decide +kernel
theorem dX2_wholeToll_18 : decode cX2_wholeToll 18 = .ok (.imul, 1) := by decide +kernel
theorem dX2_wholeToll_19 : decode cX2_wholeToll 19 = .ok (.istore_n 3, 1) := by decide +kernel
theorem dX2_wholeToll_20 : decode cX2_wholeToll 20 = .ok (.iconst 0, 1) := by decide +kernel
theorem dX2_wholeToll_21 : decode cX2_wholeToll 21 = .ok (.istore 4, 2) := by decide +kernel
theorem dX2_wholeToll_23 : decode cX2_wholeToll 23 = .ok (.iload 4, 2) := by decide +kernel
theorem dX2_wholeToll_25 : decode cX2_wholeToll 25 = .ok (.bipush 8, 2) := by decide +kernel
theorem dX2_wholeToll_27 : decode cX2_wholeToll 27 = .ok (.if_icmp .ge 62, 3) := by decide +kernel
theorem dX2_wholeToll_30 : decode cX2_wholeToll 30 = .ok (.aload_n 0, 1) := by decide +kernel
theorem dX2_wholeToll_31 : decode cX2_wholeToll 31 = .ok (.getfield 11, 3) := by decide +kernel
theorem dX2_wholeToll_34 : decode cX2_wholeToll 34 = .ok (.iload_n 1, 1) := by decide +kernel
theorem dX2_wholeToll_35 : decode cX2_wholeToll 35 = .ok (.bipush 9, 2) := by decide +kernel
theorem dX2_wholeToll_37 : decode cX2_wholeToll 37 = .ok (.imul, 1) := by decide +kernel
theorem dX2_wholeToll_38 : decode cX2_wholeToll 38 = .ok (.iconst 1, 1) := by decide +kernel
theorem dX2_wholeToll_39 : decode cX2_wholeToll 39 = .ok (.iadd, 1) := by decide +kernel
theorem dX2_wholeToll_40 : decode cX2_wholeToll 40 = .ok (.iload 4, 2) := by decide +kernel
theorem dX2_wholeToll_42 : decode cX2_wholeToll 42 = .ok (.iadd, 1) := by decide +kernel
theorem dX2_wholeToll_43 : decode cX2_wholeToll 43 = .ok (.iaload, 1) := by decide +kernel
theorem dX2_wholeToll_44 : decode cX2_wholeToll 44 = .ok (.istore 5, 2) := by decide +kernel
theorem dX2_wholeToll_46 : decode cX2_wholeToll 46 = .ok (.iload 5, 2) := by decide +kernel
theorem dX2_wholeToll_48 : decode cX2_wholeToll 48 = .ok (.aload_n 0, 1) := by decide +kernel
theorem dX2_wholeToll_49 : decode cX2_wholeToll 49 = .ok (.getfield 34, 3) := by decide +kernel
theorem dX2_wholeToll_52 : decode cX2_wholeToll 52 = .ok (.iload_n 2, 1) := by decide +kernel
theorem dX2_wholeToll_53 : decode cX2_wholeToll 53 = .ok (.bipush 20, 2) := by decide +kernel
theorem dX2_wholeToll_55 : decode cX2_wholeToll 55 = .ok (.iload 4, 2) := by decide +kernel
theorem dX2_wholeToll_57 : decode cX2_wholeToll 57 = .ok (.iadd, 1) := by decide +kernel
theorem dX2_wholeToll_58 : decode cX2_wholeToll 58 = .ok (.invokevirtual 58, 3) := by decide +kernel
theorem dX2_wholeToll_61 : decode cX2_wholeToll 61 = .ok (.if_icmp .le 22, 3) := by decide +kernel
theorem dX2_wholeToll_64 : decode cX2_wholeToll 64 = .ok (.iload_n 3, 1) := by decide +kernel
theorem dX2_wholeToll_65 : decode cX2_wholeToll 65 = .ok (.iload 5, 2) := by decide +kernel
theorem dX2_wholeToll_67 : decode cX2_wholeToll 67 = .ok (.aload_n 0, 1) := by decide +kernel
theorem dX2_wholeToll_68 : decode cX2_wholeToll 68 = .ok (.getfield 34, 3) := by decide +kernel
theorem dX2_wholeToll_71 : decode cX2_wholeToll 71 = .ok (.iload_n 2, 1) := by decide +kernel
theorem dX2_wholeToll_72 : decode cX2_wholeToll 72 = .ok (.bipush 10, 2) := by decide +kernel
theorem dX2_wholeToll_74 : decode cX2_wholeToll 74 = .ok (.iload 4, 2) := by decide +kernel
theorem dX2_wholeToll_76 : decode cX2_wholeToll 76 = .ok (.iadd, 1) := by decide +kernel
theorem dX2_wholeToll_77 : decode cX2_wholeToll 77 = .ok (.invokevirtual 58, 3) := by decide +kernel
theorem dX2_wholeToll_80 : decode cX2_wholeToll 80 = .ok (.imul, 1) := by decide +kernel
theorem dX2_wholeToll_81 : decode cX2_wholeToll 81 = .ok (.iadd, 1) := by decide +kernel
theorem dX2_wholeToll_82 : decode cX2_wholeToll 82 = .ok (.istore_n 3, 1) := by decide +kernel
theorem dX2_wholeToll_83 : decode cX2_wholeToll 83 = .ok (.iinc 4 1, 3) := by decide +kernel
theorem dX2_wholeToll_86 : decode cX2_wholeToll 86 = .ok (.goto (-63), 3) := by decide +kernel
theorem dX2_wholeToll_89 : decode cX2_wholeToll 89 = .ok (.iload_n 3, 1) := by decide +kernel
theorem dX2_wholeToll_90 : decode cX2_wholeToll 90 = .ok (.ireturn, 1) := by decide +kernel
theorem dX2_addPassing_0 : decode cX2_addPassing 0 = .ok (.iload 4, 2) := by decide +kernel
theorem dX2_addPassing_2 : decode cX2_addPassing 2 = .ok (.sipush 1440, 3) := by decide +kernel
theorem dX2_addPassing_5 : decode cX2_addPassing 5 = .ok (.imul, 1) := by decide +kernel
theorem dX2_addPassing_6 : decode cX2_addPassing 6 = .ok (.iload 5, 2) := by decide +kernel
theorem dX2_addPassing_8 : decode cX2_addPassing 8 = .ok (.iadd, 1) := by decide +kernel
theorem dX2_addPassing_9 : decode cX2_addPassing 9 = .ok (.istore 7, 2) := by decide +kernel
theorem dX2_addPassing_11 : decode cX2_addPassing 11 = .ok (.aload_n 0, 1) := by decide +kernel
theorem dX2_addPassing_12 : decode cX2_addPassing 12 = .ok (.getfield 61, 3) := by decide +kernel
theorem dX2_addPassing_15 : decode cX2_addPassing 15 = .ok (.istore 8, 2) := by decide +kernel
theorem dX2_addPassing_17 : decode cX2_addPassing 17 = .ok (.iload 8, 2) := by decide +kernel
theorem dX2_addPassing_19 : decode cX2_addPassing 19 = .ok (.ifCond .le 31, 3) := by decide +kernel
theorem dX2_addPassing_22 : decode cX2_addPassing 22 = .ok (.aload_n 0, 1) := by decide +kernel
theorem dX2_addPassing_23 : decode cX2_addPassing 23 = .ok (.getfield 15, 3) := by decide +kernel
theorem dX2_addPassing_26 : decode cX2_addPassing 26 = .ok (.iload 8, 2) := by decide +kernel
theorem dX2_addPassing_28 : decode cX2_addPassing 28 = .ok (.iconst 1, 1) := by decide +kernel
theorem dX2_addPassing_29 : decode cX2_addPassing 29 = .ok (.isub, 1) := by decide +kernel
theorem dX2_addPassing_30 : decode cX2_addPassing 30 = .ok (.iaload, 1) := by decide +kernel
theorem dX2_addPassing_31 : decode cX2_addPassing 31 = .ok (.iload 7, 2) := by decide +kernel
theorem dX2_addPassing_33 : decode cX2_addPassing 33 = .ok (.if_icmp .le 17, 3) := by decide +kernel
theorem dX2_addPassing_36 : decode cX2_addPassing 36 = .ok (.aload_n 0, 1) := by decide +kernel
theorem dX2_addPassing_37 : decode cX2_addPassing 37 = .ok (.iload 8, 2) := by decide +kernel
theorem dX2_addPassing_39 : decode cX2_addPassing 39 = .ok (.iconst 1, 1) := by decide +kernel
theorem dX2_addPassing_40 : decode cX2_addPassing 40 = .ok (.isub, 1) := by decide +kernel
theorem dX2_addPassing_41 : decode cX2_addPassing 41 = .ok (.invokevirtual 64, 3) := by decide +kernel
theorem dX2_addPassing_44 : decode cX2_addPassing 44 = .ok (.iinc 8 (-1), 3) := by decide +kernel
theorem dX2_addPassing_47 : decode cX2_addPassing 47 = .ok (.goto (-30), 3) := by decide +kernel
theorem dX2_addPassing_50 : decode cX2_addPassing 50 = .ok (.aload_n 0, 1) := by decide +kernel
theorem dX2_addPassing_51 : decode cX2_addPassing 51 = .ok (.getfield 15, 3) := by decide +kernel
theorem dX2_addPassing_54 : decode cX2_addPassing 54 = .ok (.iload 8, 2) := by decide +kernel
theorem dX2_addPassing_56 : decode cX2_addPassing 56 = .ok (.iload 7, 2) := by decide +kernel
theorem dX2_addPassing_58 : decode cX2_addPassing 58 = .ok (.iastore, 1) := by decide +kernel
theorem dX2_addPassing_59 : decode cX2_addPassing 59 = .ok (.aload_n 0, 1) := by decide +kernel
theorem dX2_addPassing_60 : decode cX2_addPassing 60 = .ok (.getfield 18, 3) := by decide +kernel
theorem dX2_addPassing_63 : decode cX2_addPassing 63 = .ok (.iload 8, 2) := by decide +kernel
theorem dX2_addPassing_65 : decode cX2_addPassing 65 = .ok (.iload_n 1, 1) := by decide +kernel
theorem dX2_addPassing_66 : decode cX2_addPassing 66 = .ok (.iastore, 1) := by decide +kernel
theorem dX2_addPassing_67 : decode cX2_addPassing 67 = .ok (.aload_n 0, 1) := by decide +kernel
theorem dX2_addPassing_68 : decode cX2_addPassing 68 = .ok (.getfield 21, 3) := by decide +kernel
theorem dX2_addPassing_71 : decode cX2_addPassing 71 = .ok (.iload 8, 2) := by decide +kernel
theorem dX2_addPassing_73 : decode cX2_addPassing 73 = .ok (.iload_n 2, 1) := by decide +kernel
theorem dX2_addPassing_74 : decode cX2_addPassing 74 = .ok (.iastore, 1) := by decide +kernel
theorem dX2_addPassing_75 : decode cX2_addPassing 75 = .ok (.aload_n 0, 1) := by decide +kernel
theorem dX2_addPassing_76 : decode cX2_addPassing 76 = .ok (.getfield 24, 3) := by decide +kernel
theorem dX2_addPassing_79 : decode cX2_addPassing 79 = .ok (.iload 8, 2) := by decide +kernel
theorem dX2_addPassing_81 : decode cX2_addPassing 81 = .ok (.iload_n 3, 1) := by decide +kernel
theorem dX2_addPassing_82 : decode cX2_addPassing 82 = .ok (.iastore, 1) := by decide +kernel
theorem dX2_addPassing_83 : decode cX2_addPassing 83 = .ok (.aload_n 0, 1) := by decide +kernel
theorem dX2_addPassing_84 : decode cX2_addPassing 84 = .ok (.getfield 27, 3) := by decide +kernel
theorem dX2_addPassing_87 : decode cX2_addPassing 87 = .ok (.iload 8, 2) := by decide +kernel
theorem dX2_addPassing_89 : decode cX2_addPassing 89 = .ok (.iload 6, 2) := by decide +kernel
theorem dX2_addPassing_91 : decode cX2_addPassing 91 = .ok (.iastore, 1) := by decide +kernel
theorem dX2_addPassing_92 : decode cX2_addPassing 92 = .ok (.aload_n 0, 1) := by decide +kernel
theorem dX2_addPassing_93 : decode cX2_addPassing 93 = .ok (.dup, 1) := by decide +kernel
theorem dX2_addPassing_94 : decode cX2_addPassing 94 = .ok (.getfield 61, 3) := by decide +kernel
theorem dX2_addPassing_97 : decode cX2_addPassing 97 = .ok (.iconst 1, 1) := by decide +kernel
theorem dX2_addPassing_98 : decode cX2_addPassing 98 = .ok (.iadd, 1) := by decide +kernel
theorem dX2_addPassing_99 : decode cX2_addPassing 99 = .ok (.putfield 61, 3) := by decide +kernel
theorem dX2_addPassing_102 : decode cX2_addPassing 102 = .ok (.aload_n 0, 1) := by decide +kernel
theorem dX2_addPassing_103 : decode cX2_addPassing 103 = .ok (.getfield 61, 3) := by decide +kernel
theorem dX2_addPassing_106 : decode cX2_addPassing 106 = .ok (.ireturn, 1) := by decide +kernel
theorem dX2_shiftOn_0 : decode cX2_shiftOn 0 = .ok (.aload_n 0, 1) := by decide +kernel
theorem dX2_shiftOn_1 : decode cX2_shiftOn 1 = .ok (.getfield 15, 3) := by decide +kernel
theorem dX2_shiftOn_4 : decode cX2_shiftOn 4 = .ok (.iload_n 1, 1) := by decide +kernel
theorem dX2_shiftOn_5 : decode cX2_shiftOn 5 = .ok (.iconst 1, 1) := by decide +kernel
theorem dX2_shiftOn_6 : decode cX2_shiftOn 6 = .ok (.iadd, 1) := by decide +kernel
theorem dX2_shiftOn_7 : decode cX2_shiftOn 7 = .ok (.aload_n 0, 1) := by decide +kernel
theorem dX2_shiftOn_8 : decode cX2_shiftOn 8 = .ok (.getfield 15, 3) := by decide +kernel
theorem dX2_shiftOn_11 : decode cX2_shiftOn 11 = .ok (.iload_n 1, 1) := by decide +kernel
theorem dX2_shiftOn_12 : decode cX2_shiftOn 12 = .ok (.iaload, 1) := by decide +kernel
theorem dX2_shiftOn_13 : decode cX2_shiftOn 13 = .ok (.iastore, 1) := by decide +kernel
theorem dX2_shiftOn_14 : decode cX2_shiftOn 14 = .ok (.aload_n 0, 1) := by decide +kernel
theorem dX2_shiftOn_15 : decode cX2_shiftOn 15 = .ok (.getfield 18, 3) := by decide +kernel
theorem dX2_shiftOn_18 : decode cX2_shiftOn 18 = .ok (.iload_n 1, 1) := by decide +kernel
theorem dX2_shiftOn_19 : decode cX2_shiftOn 19 = .ok (.iconst 1, 1) := by decide +kernel
theorem dX2_shiftOn_20 : decode cX2_shiftOn 20 = .ok (.iadd, 1) := by decide +kernel
theorem dX2_shiftOn_21 : decode cX2_shiftOn 21 = .ok (.aload_n 0, 1) := by decide +kernel
theorem dX2_shiftOn_22 : decode cX2_shiftOn 22 = .ok (.getfield 18, 3) := by decide +kernel
theorem dX2_shiftOn_25 : decode cX2_shiftOn 25 = .ok (.iload_n 1, 1) := by decide +kernel
theorem dX2_shiftOn_26 : decode cX2_shiftOn 26 = .ok (.iaload, 1) := by decide +kernel
theorem dX2_shiftOn_27 : decode cX2_shiftOn 27 = .ok (.iastore, 1) := by decide +kernel
theorem dX2_shiftOn_28 : decode cX2_shiftOn 28 = .ok (.aload_n 0, 1) := by decide +kernel
theorem dX2_shiftOn_29 : decode cX2_shiftOn 29 = .ok (.getfield 21, 3) := by decide +kernel
theorem dX2_shiftOn_32 : decode cX2_shiftOn 32 = .ok (.iload_n 1, 1) := by decide +kernel
theorem dX2_shiftOn_33 : decode cX2_shiftOn 33 = .ok (.iconst 1, 1) := by decide +kernel
theorem dX2_shiftOn_34 : decode cX2_shiftOn 34 = .ok (.iadd, 1) := by decide +kernel
theorem dX2_shiftOn_35 : decode cX2_shiftOn 35 = .ok (.aload_n 0, 1) := by decide +kernel
theorem dX2_shiftOn_36 : decode cX2_shiftOn 36 = .ok (.getfield 21, 3) := by decide +kernel
theorem dX2_shiftOn_39 : decode cX2_shiftOn 39 = .ok (.iload_n 1, 1) := by decide +kernel
theorem dX2_shiftOn_40 : decode cX2_shiftOn 40 = .ok (.iaload, 1) := by decide +kernel
theorem dX2_shiftOn_41 : decode cX2_shiftOn 41 = .ok (.iastore, 1) := by decide +kernel
theorem dX2_shiftOn_42 : decode cX2_shiftOn 42 = .ok (.aload_n 0, 1) := by decide +kernel
theorem dX2_shiftOn_43 : decode cX2_shiftOn 43 = .ok (.getfield 24, 3) := by decide +kernel
theorem dX2_shiftOn_46 : decode cX2_shiftOn 46 = .ok (.iload_n 1, 1) := by decide +kernel
theorem dX2_shiftOn_47 : decode cX2_shiftOn 47 = .ok (.iconst 1, 1) := by decide +kernel
theorem dX2_shiftOn_48 : decode cX2_shiftOn 48 = .ok (.iadd, 1) := by decide +kernel
theorem dX2_shiftOn_49 : decode cX2_shiftOn 49 = .ok (.aload_n 0, 1) := by decide +kernel
theorem dX2_shiftOn_50 : decode cX2_shiftOn 50 = .ok (.getfield 24, 3) := by decide +kernel
theorem dX2_shiftOn_53 : decode cX2_shiftOn 53 = .ok (.iload_n 1, 1) := by decide +kernel
theorem dX2_shiftOn_54 : decode cX2_shiftOn 54 = .ok (.iaload, 1) := by decide +kernel
theorem dX2_shiftOn_55 : decode cX2_shiftOn 55 = .ok (.iastore, 1) := by decide +kernel
theorem dX2_shiftOn_56 : decode cX2_shiftOn 56 = .ok (.aload_n 0, 1) := by decide +kernel
theorem dX2_shiftOn_57 : decode cX2_shiftOn 57 = .ok (.getfield 27, 3) := by decide +kernel
theorem dX2_shiftOn_60 : decode cX2_shiftOn 60 = .ok (.iload_n 1, 1) := by decide +kernel
theorem dX2_shiftOn_61 : decode cX2_shiftOn 61 = .ok (.iconst 1, 1) := by decide +kernel
theorem dX2_shiftOn_62 : decode cX2_shiftOn 62 = .ok (.iadd, 1) := by decide +kernel
theorem dX2_shiftOn_63 : decode cX2_shiftOn 63 = .ok (.aload_n 0, 1) := by decide +kernel
theorem dX2_shiftOn_64 : decode cX2_shiftOn 64 = .ok (.getfield 27, 3) := by decide +kernel
theorem dX2_shiftOn_67 : decode cX2_shiftOn 67 = .ok (.iload_n 1, 1) := by decide +kernel
theorem dX2_shiftOn_68 : decode cX2_shiftOn 68 = .ok (.iaload, 1) := by decide +kernel
theorem dX2_shiftOn_69 : decode cX2_shiftOn 69 = .ok (.iastore, 1) := by decide +kernel
theorem dX2_shiftOn_70 : decode cX2_shiftOn 70 = .ok (.return_, 1) := by decide +kernel
theorem dX2_wrongPassings_0 : decode cX2_wrongPassings 0 = .ok (.iconst 0, 1) := by decide +kernel
theorem dX2_wrongPassings_1 : decode cX2_wrongPassings 1 = .ok (.istore_n 1, 1) := by decide +kernel
theorem dX2_wrongPassings_2 : decode cX2_wrongPassings 2 = .ok (.iconst 0, 1) := by decide +kernel
theorem dX2_wrongPassings_3 : decode cX2_wrongPassings 3 = .ok (.istore_n 2, 1) := by decide +kernel
theorem dX2_wrongPassings_4 : decode cX2_wrongPassings 4 = .ok (.iconst 0, 1) := by decide +kernel
theorem dX2_wrongPassings_5 : decode cX2_wrongPassings 5 = .ok (.istore_n 3, 1) := by decide +kernel
theorem dX2_wrongPassings_6 : decode cX2_wrongPassings 6 = .ok (.iload_n 3, 1) := by decide +kernel
theorem dX2_wrongPassings_7 : decode cX2_wrongPassings 7 = .ok (.aload_n 0, 1) := by decide +kernel
theorem dX2_wrongPassings_8 : decode cX2_wrongPassings 8 = .ok (.getfield 61, 3) := by decide +kernel
theorem dX2_wrongPassings_11 : decode cX2_wrongPassings 11 = .ok (.if_icmp .ge 68, 3) := by decide +kernel
theorem dX2_wrongPassings_14 : decode cX2_wrongPassings 14 = .ok (.iload_n 2, 1) := by decide +kernel
theorem dX2_wrongPassings_15 : decode cX2_wrongPassings 15 = .ok (.aload_n 0, 1) := by decide +kernel
theorem dX2_wrongPassings_16 : decode cX2_wrongPassings 16 = .ok (.getfield 18, 3) := by decide +kernel
theorem dX2_wrongPassings_19 : decode cX2_wrongPassings 19 = .ok (.iload_n 3, 1) := by decide +kernel
theorem dX2_wrongPassings_20 : decode cX2_wrongPassings 20 = .ok (.iaload, 1) := by decide +kernel
theorem dX2_wrongPassings_21 : decode cX2_wrongPassings 21 = .ok (.ishr, 1) := by decide +kernel
theorem dX2_wrongPassings_22 : decode cX2_wrongPassings 22 = .ok (.iconst 1, 1) := by decide +kernel
theorem dX2_wrongPassings_23 : decode cX2_wrongPassings 23 = .ok (.iand, 1) := by decide +kernel
theorem dX2_wrongPassings_24 : decode cX2_wrongPassings 24 = .ok (.istore 4, 2) := by decide +kernel
theorem dX2_wrongPassings_26 : decode cX2_wrongPassings 26 = .ok (.iload 4, 2) := by decide +kernel
theorem dX2_wrongPassings_28 : decode cX2_wrongPassings 28 = .ok (.aload_n 0, 1) := by decide +kernel
theorem dX2_wrongPassings_29 : decode cX2_wrongPassings 29 = .ok (.getfield 21, 3) := by decide +kernel
theorem dX2_wrongPassings_32 : decode cX2_wrongPassings 32 = .ok (.iload_n 3, 1) := by decide +kernel
theorem dX2_wrongPassings_33 : decode cX2_wrongPassings 33 = .ok (.iaload, 1) := by decide +kernel
theorem dX2_wrongPassings_34 : decode cX2_wrongPassings 34 = .ok (.if_icmp .eq 29, 3) := by decide +kernel
theorem dX2_wrongPassings_37 : decode cX2_wrongPassings 37 = .ok (.aload_n 0, 1) := by decide +kernel
theorem dX2_wrongPassings_38 : decode cX2_wrongPassings 38 = .ok (.getfield 30, 3) := by decide +kernel
theorem dX2_wrongPassings_41 : decode cX2_wrongPassings 41 = .ok (.aload_n 0, 1) := by decide +kernel
theorem dX2_wrongPassings_42 : decode cX2_wrongPassings 42 = .ok (.getfield 24, 3) := by decide +kernel
theorem dX2_wrongPassings_45 : decode cX2_wrongPassings 45 = .ok (.iload_n 3, 1) := by decide +kernel
theorem dX2_wrongPassings_46 : decode cX2_wrongPassings 46 = .ok (.iaload, 1) := by decide +kernel
theorem dX2_wrongPassings_47 : decode cX2_wrongPassings 47 = .ok (.aload_n 0, 1) := by decide +kernel
theorem dX2_wrongPassings_48 : decode cX2_wrongPassings 48 = .ok (.getfield 15, 3) := by decide +kernel
theorem dX2_wrongPassings_51 : decode cX2_wrongPassings 51 = .ok (.iload_n 3, 1) := by decide +kernel
theorem dX2_wrongPassings_52 : decode cX2_wrongPassings 52 = .ok (.iaload, 1) := by decide +kernel
theorem dX2_wrongPassings_53 : decode cX2_wrongPassings 53 = .ok (.sipush 1440, 3) := by decide +kernel
theorem dX2_wrongPassings_56 : decode cX2_wrongPassings 56 = .ok (.irem, 1) := by decide +kernel
theorem dX2_wrongPassings_57 : decode cX2_wrongPassings 57 = .ok (.invokevirtual 68, 3) := by decide +kernel
theorem dX2_wrongPassings_60 : decode cX2_wrongPassings 60 = .ok (.ifCond .ne 6, 3) := by decide +kernel
theorem dX2_wrongPassings_63 : decode cX2_wrongPassings 63 = .ok (.iinc 1 1, 3) := by decide +kernel
theorem dX2_wrongPassings_66 : decode cX2_wrongPassings 66 = .ok (.aload_n 0, 1) := by decide +kernel
theorem dX2_wrongPassings_67 : decode cX2_wrongPassings 67 = .ok (.iload_n 2, 1) := by decide +kernel
theorem dX2_wrongPassings_68 : decode cX2_wrongPassings 68 = .ok (.iload_n 3, 1) := by decide +kernel
theorem dX2_wrongPassings_69 : decode cX2_wrongPassings 69 = .ok (.invokevirtual 72, 3) := by decide +kernel
theorem dX2_wrongPassings_72 : decode cX2_wrongPassings 72 = .ok (.istore_n 2, 1) := by decide +kernel
theorem dX2_wrongPassings_73 : decode cX2_wrongPassings 73 = .ok (.iinc 3 1, 3) := by decide +kernel
theorem dX2_wrongPassings_76 : decode cX2_wrongPassings 76 = .ok (.goto (-70), 3) := by decide +kernel
theorem dX2_wrongPassings_79 : decode cX2_wrongPassings 79 = .ok (.iload_n 1, 1) := by decide +kernel
theorem dX2_wrongPassings_80 : decode cX2_wrongPassings 80 = .ok (.ireturn, 1) := by decide +kernel
theorem dX2_cartsInside_0 : decode cX2_cartsInside 0 = .ok (.iconst 0, 1) := by decide +kernel
theorem dX2_cartsInside_1 : decode cX2_cartsInside 1 = .ok (.istore_n 1, 1) := by decide +kernel
theorem dX2_cartsInside_2 : decode cX2_cartsInside 2 = .ok (.iconst 0, 1) := by decide +kernel
theorem dX2_cartsInside_3 : decode cX2_cartsInside 3 = .ok (.istore_n 2, 1) := by decide +kernel
theorem dX2_cartsInside_4 : decode cX2_cartsInside 4 = .ok (.iload_n 2, 1) := by decide +kernel
theorem dX2_cartsInside_5 : decode cX2_cartsInside 5 = .ok (.aload_n 0, 1) := by decide +kernel
theorem dX2_cartsInside_6 : decode cX2_cartsInside 6 = .ok (.getfield 61, 3) := by decide +kernel
theorem dX2_cartsInside_9 : decode cX2_cartsInside 9 = .ok (.if_icmp .ge 16, 3) := by decide +kernel
theorem dX2_cartsInside_12 : decode cX2_cartsInside 12 = .ok (.aload_n 0, 1) := by decide +kernel
theorem dX2_cartsInside_13 : decode cX2_cartsInside 13 = .ok (.iload_n 1, 1) := by decide +kernel
theorem dX2_cartsInside_14 : decode cX2_cartsInside 14 = .ok (.iload_n 2, 1) := by decide +kernel
theorem dX2_cartsInside_15 : decode cX2_cartsInside 15 = .ok (.invokevirtual 72, 3) := by decide +kernel
theorem dX2_cartsInside_18 : decode cX2_cartsInside 18 = .ok (.istore_n 1, 1) := by decide +kernel
theorem dX2_cartsInside_19 : decode cX2_cartsInside 19 = .ok (.iinc 2 1, 3) := by decide +kernel
theorem dX2_cartsInside_22 : decode cX2_cartsInside 22 = .ok (.goto (-18), 3) := by decide +kernel
theorem dX2_cartsInside_25 : decode cX2_cartsInside 25 = .ok (.iload_n 1, 1) := by decide +kernel
theorem dX2_cartsInside_26 : decode cX2_cartsInside 26 = .ok (.invokestatic 75, 3) := by decide +kernel
theorem dX2_cartsInside_29 : decode cX2_cartsInside 29 = .ok (.ireturn, 1) := by decide +kernel
theorem dX2_afterPassing_0 : decode cX2_afterPassing 0 = .ok (.iconst 1, 1) := by decide +kernel
theorem dX2_afterPassing_1 : decode cX2_afterPassing 1 = .ok (.aload_n 0, 1) := by decide +kernel
theorem dX2_afterPassing_2 : decode cX2_afterPassing 2 = .ok (.getfield 18, 3) := by decide +kernel
theorem dX2_afterPassing_5 : decode cX2_afterPassing 5 = .ok (.iload_n 2, 1) := by decide +kernel
theorem dX2_afterPassing_6 : decode cX2_afterPassing 6 = .ok (.iaload, 1) := by decide +kernel
theorem dX2_afterPassing_7 : decode cX2_afterPassing 7 = .ok (.ishl, 1) := by decide +kernel
theorem dX2_afterPassing_8 : decode cX2_afterPassing 8 = .ok (.istore_n 3, 1) := by decide +kernel
theorem dX2_afterPassing_9 : decode cX2_afterPassing 9 = .ok (.aload_n 0, 1) := by decide +kernel
theorem dX2_afterPassing_10 : decode cX2_afterPassing 10 = .ok (.getfield 21, 3) := by decide +kernel
theorem dX2_afterPassing_13 : decode cX2_afterPassing 13 = .ok (.iload_n 2, 1) := by decide +kernel
theorem dX2_afterPassing_14 : decode cX2_afterPassing 14 = .ok (.iaload, 1) := by decide +kernel
theorem dX2_afterPassing_15 : decode cX2_afterPassing 15 = .ok (.iconst 1, 1) := by decide +kernel
theorem dX2_afterPassing_16 : decode cX2_afterPassing 16 = .ok (.if_icmp .ne 9, 3) := by decide +kernel
theorem dX2_afterPassing_19 : decode cX2_afterPassing 19 = .ok (.iload_n 1, 1) := by decide +kernel
theorem dX2_afterPassing_20 : decode cX2_afterPassing 20 = .ok (.iload_n 3, 1) := by decide +kernel
theorem dX2_afterPassing_21 : decode cX2_afterPassing 21 = .ok (.ior, 1) := by decide +kernel
theorem dX2_afterPassing_22 : decode cX2_afterPassing 22 = .ok (.goto 8, 3) := by decide +kernel
theorem dX2_afterPassing_25 : decode cX2_afterPassing 25 = .ok (.iload_n 1, 1) := by decide +kernel
theorem dX2_afterPassing_26 : decode cX2_afterPassing 26 = .ok (.iload_n 3, 1) := by decide +kernel
theorem dX2_afterPassing_27 : decode cX2_afterPassing 27 = .ok (.iconst (-1), 1) := by decide +kernel
theorem dX2_afterPassing_28 : decode cX2_afterPassing 28 = .ok (.ixor, 1) := by decide +kernel
theorem dX2_afterPassing_29 : decode cX2_afterPassing 29 = .ok (.iand, 1) := by decide +kernel
theorem dX2_afterPassing_30 : decode cX2_afterPassing 30 = .ok (.ireturn, 1) := by decide +kernel
theorem dX2_lostCarts_0 : decode cX2_lostCarts 0 = .ok (.iconst 0, 1) := by decide +kernel
theorem dX2_lostCarts_1 : decode cX2_lostCarts 1 = .ok (.istore_n 1, 1) := by decide +kernel
theorem dX2_lostCarts_2 : decode cX2_lostCarts 2 = .ok (.iconst 0, 1) := by decide +kernel
theorem dX2_lostCarts_3 : decode cX2_lostCarts 3 = .ok (.istore_n 2, 1) := by decide +kernel
theorem dX2_lostCarts_4 : decode cX2_lostCarts 4 = .ok (.iload_n 2, 1) := by decide +kernel
theorem dX2_lostCarts_5 : decode cX2_lostCarts 5 = .ok (.aload_n 0, 1) := by decide +kernel
theorem dX2_lostCarts_6 : decode cX2_lostCarts 6 = .ok (.getfield 38, 3) := by decide +kernel
theorem dX2_lostCarts_9 : decode cX2_lostCarts 9 = .ok (.if_icmp .ge 66, 3) := by decide +kernel
theorem dX2_lostCarts_12 : decode cX2_lostCarts 12 = .ok (.iconst 0, 1) := by decide +kernel
theorem dX2_lostCarts_13 : decode cX2_lostCarts 13 = .ok (.istore_n 3, 1) := by decide +kernel
theorem dX2_lostCarts_14 : decode cX2_lostCarts 14 = .ok (.iconst 0, 1) := by decide +kernel
theorem dX2_lostCarts_15 : decode cX2_lostCarts 15 = .ok (.istore 4, 2) := by decide +kernel
theorem dX2_lostCarts_17 : decode cX2_lostCarts 17 = .ok (.iload 4, 2) := by decide +kernel
theorem dX2_lostCarts_19 : decode cX2_lostCarts 19 = .ok (.aload_n 0, 1) := by decide +kernel
theorem dX2_lostCarts_20 : decode cX2_lostCarts 20 = .ok (.getfield 61, 3) := by decide +kernel
theorem dX2_lostCarts_23 : decode cX2_lostCarts 23 = .ok (.if_icmp .ge 39, 3) := by decide +kernel
theorem dX2_lostCarts_26 : decode cX2_lostCarts 26 = .ok (.aload_n 0, 1) := by decide +kernel
theorem dX2_lostCarts_27 : decode cX2_lostCarts 27 = .ok (.getfield 18, 3) := by decide +kernel
theorem dX2_lostCarts_30 : decode cX2_lostCarts 30 = .ok (.iload 4, 2) := by decide +kernel
theorem dX2_lostCarts_32 : decode cX2_lostCarts 32 = .ok (.iaload, 1) := by decide +kernel
theorem dX2_lostCarts_33 : decode cX2_lostCarts 33 = .ok (.iload_n 2, 1) := by decide +kernel
theorem dX2_lostCarts_34 : decode cX2_lostCarts 34 = .ok (.if_icmp .ne 22, 3) := by decide +kernel
theorem dX2_lostCarts_37 : decode cX2_lostCarts 37 = .ok (.iload_n 3, 1) := by decide +kernel
theorem dX2_lostCarts_38 : decode cX2_lostCarts 38 = .ok (.aload_n 0, 1) := by decide +kernel
theorem dX2_lostCarts_39 : decode cX2_lostCarts 39 = .ok (.getfield 21, 3) := by decide +kernel
theorem dX2_lostCarts_42 : decode cX2_lostCarts 42 = .ok (.iload 4, 2) := by decide +kernel
theorem dX2_lostCarts_44 : decode cX2_lostCarts 44 = .ok (.iaload, 1) := by decide +kernel
theorem dX2_lostCarts_45 : decode cX2_lostCarts 45 = .ok (.iconst 1, 1) := by decide +kernel
theorem dX2_lostCarts_46 : decode cX2_lostCarts 46 = .ok (.if_icmp .ne 7, 3) := by decide +kernel
theorem dX2_lostCarts_49 : decode cX2_lostCarts 49 = .ok (.iconst (-1), 1) := by decide +kernel
theorem dX2_lostCarts_50 : decode cX2_lostCarts 50 = .ok (.goto 4, 3) := by decide +kernel
theorem dX2_lostCarts_53 : decode cX2_lostCarts 53 = .ok (.iconst 1, 1) := by decide +kernel
theorem dX2_lostCarts_54 : decode cX2_lostCarts 54 = .ok (.iadd, 1) := by decide +kernel
theorem dX2_lostCarts_55 : decode cX2_lostCarts 55 = .ok (.istore_n 3, 1) := by decide +kernel
theorem dX2_lostCarts_56 : decode cX2_lostCarts 56 = .ok (.iinc 4 1, 3) := by decide +kernel
theorem dX2_lostCarts_59 : decode cX2_lostCarts 59 = .ok (.goto (-42), 3) := by decide +kernel
theorem dX2_lostCarts_62 : decode cX2_lostCarts 62 = .ok (.iload_n 3, 1) := by decide +kernel
theorem dX2_lostCarts_63 : decode cX2_lostCarts 63 = .ok (.ifCond .le 6, 3) := by decide +kernel
theorem dX2_lostCarts_66 : decode cX2_lostCarts 66 = .ok (.iinc 1 1, 3) := by decide +kernel
theorem dX2_lostCarts_69 : decode cX2_lostCarts 69 = .ok (.iinc 2 1, 3) := by decide +kernel
theorem dX2_lostCarts_72 : decode cX2_lostCarts 72 = .ok (.goto (-68), 3) := by decide +kernel
theorem dX2_lostCarts_75 : decode cX2_lostCarts 75 = .ok (.iload_n 1, 1) := by decide +kernel
theorem dX2_lostCarts_76 : decode cX2_lostCarts 76 = .ok (.ireturn, 1) := by decide +kernel
theorem dX2_shortOf_0 : decode cX2_shortOf 0 = .ok (.iconst 0, 1) := by decide +kernel
theorem dX2_shortOf_1 : decode cX2_shortOf 1 = .ok (.istore 4, 2) := by decide +kernel
theorem dX2_shortOf_3 : decode cX2_shortOf 3 = .ok (.iconst 0, 1) := by decide +kernel
theorem dX2_shortOf_4 : decode cX2_shortOf 4 = .ok (.istore 5, 2) := by decide +kernel
theorem dX2_shortOf_6 : decode cX2_shortOf 6 = .ok (.iload 5, 2) := by decide +kernel
theorem dX2_shortOf_8 : decode cX2_shortOf 8 = .ok (.aload_n 0, 1) := by decide +kernel
theorem dX2_shortOf_9 : decode cX2_shortOf 9 = .ok (.getfield 61, 3) := by decide +kernel
theorem dX2_shortOf_12 : decode cX2_shortOf 12 = .ok (.if_icmp .ge 105, 3) := by decide +kernel
theorem dX2_shortOf_15 : decode cX2_shortOf 15 = .ok (.aload_n 0, 1) := by decide +kernel
theorem dX2_shortOf_16 : decode cX2_shortOf 16 = .ok (.getfield 15, 3) := by decide +kernel
theorem dX2_shortOf_19 : decode cX2_shortOf 19 = .ok (.iload 5, 2) := by decide +kernel
theorem dX2_shortOf_21 : decode cX2_shortOf 21 = .ok (.iaload, 1) := by decide +kernel
theorem dX2_shortOf_22 : decode cX2_shortOf 22 = .ok (.sipush 1440, 3) := by decide +kernel
theorem dX2_shortOf_25 : decode cX2_shortOf 25 = .ok (.idiv, 1) := by decide +kernel
theorem dX2_shortOf_26 : decode cX2_shortOf 26 = .ok (.istore 6, 2) := by decide +kernel
theorem dX2_shortOf_28 : decode cX2_shortOf 28 = .ok (.iload_n 1, 1) := by decide +kernel
theorem dX2_shortOf_29 : decode cX2_shortOf 29 = .ok (.ldc 81, 2) := by decide +kernel
theorem dX2_shortOf_31 : decode cX2_shortOf 31 = .ok (.if_icmp .eq 14, 3) := by decide +kernel
theorem dX2_shortOf_34 : decode cX2_shortOf 34 = .ok (.iload_n 1, 1) := by decide +kernel
theorem dX2_shortOf_35 : decode cX2_shortOf 35 = .ok (.aload_n 0, 1) := by decide +kernel
theorem dX2_shortOf_36 : decode cX2_shortOf 36 = .ok (.getfield 24, 3) := by decide +kernel
theorem dX2_shortOf_39 : decode cX2_shortOf 39 = .ok (.iload 5, 2) := by decide +kernel
theorem dX2_shortOf_41 : decode cX2_shortOf 41 = .ok (.iaload, 1) := by decide +kernel
theorem dX2_shortOf_42 : decode cX2_shortOf 42 = .ok (.if_icmp .ne 7, 3) := by decide +kernel
theorem dX2_shortOf_45 : decode cX2_shortOf 45 = .ok (.iconst 1, 1) := by decide +kernel
theorem dX2_shortOf_46 : decode cX2_shortOf 46 = .ok (.goto 4, 3) := by decide +kernel
theorem dX2_shortOf_49 : decode cX2_shortOf 49 = .ok (.iconst 0, 1) := by decide +kernel
theorem dX2_shortOf_50 : decode cX2_shortOf 50 = .ok (.istore 7, 2) := by decide +kernel
theorem dX2_shortOf_52 : decode cX2_shortOf 52 = .ok (.iload 7, 2) := by decide +kernel
theorem dX2_shortOf_54 : decode cX2_shortOf 54 = .ok (.ifCond .eq 57, 3) := by decide +kernel
theorem dX2_shortOf_57 : decode cX2_shortOf 57 = .ok (.aload_n 0, 1) := by decide +kernel
theorem dX2_shortOf_58 : decode cX2_shortOf 58 = .ok (.getfield 21, 3) := by decide +kernel
theorem dX2_shortOf_61 : decode cX2_shortOf 61 = .ok (.iload 5, 2) := by decide +kernel
theorem dX2_shortOf_63 : decode cX2_shortOf 63 = .ok (.iaload, 1) := by decide +kernel
theorem dX2_shortOf_64 : decode cX2_shortOf 64 = .ok (.iconst 1, 1) := by decide +kernel
theorem dX2_shortOf_65 : decode cX2_shortOf 65 = .ok (.if_icmp .ne 46, 3) := by decide +kernel
theorem dX2_shortOf_68 : decode cX2_shortOf 68 = .ok (.iload 6, 2) := by decide +kernel
theorem dX2_shortOf_70 : decode cX2_shortOf 70 = .ok (.iload_n 2, 1) := by decide +kernel
theorem dX2_shortOf_71 : decode cX2_shortOf 71 = .ok (.iload_n 3, 1) := by decide +kernel
theorem dX2_shortOf_72 : decode cX2_shortOf 72 = .ok (.invokestatic 82, 3) := by decide +kernel
theorem dX2_shortOf_75 : decode cX2_shortOf 75 = .ok (.ifCond .eq 36, 3) := by decide +kernel
theorem dX2_shortOf_78 : decode cX2_shortOf 78 = .ok (.iload 4, 2) := by decide +kernel
theorem dX2_shortOf_80 : decode cX2_shortOf 80 = .ok (.aload_n 0, 1) := by decide +kernel
theorem dX2_shortOf_81 : decode cX2_shortOf 81 = .ok (.aload_n 0, 1) := by decide +kernel
theorem dX2_shortOf_82 : decode cX2_shortOf 82 = .ok (.getfield 18, 3) := by decide +kernel
theorem dX2_shortOf_85 : decode cX2_shortOf 85 = .ok (.iload 5, 2) := by decide +kernel
theorem dX2_shortOf_87 : decode cX2_shortOf 87 = .ok (.iaload, 1) := by decide +kernel
theorem dX2_shortOf_88 : decode cX2_shortOf 88 = .ok (.aload_n 0, 1) := by decide +kernel
theorem dX2_shortOf_89 : decode cX2_shortOf 89 = .ok (.getfield 24, 3) := by decide +kernel
theorem dX2_shortOf_92 : decode cX2_shortOf 92 = .ok (.iload 5, 2) := by decide +kernel
theorem dX2_shortOf_94 : decode cX2_shortOf 94 = .ok (.iaload, 1) := by decide +kernel
theorem dX2_shortOf_95 : decode cX2_shortOf 95 = .ok (.iload 6, 2) := by decide +kernel
theorem dX2_shortOf_97 : decode cX2_shortOf 97 = .ok (.invokevirtual 86, 3) := by decide +kernel
theorem dX2_shortOf_100 : decode cX2_shortOf 100 = .ok (.aload_n 0, 1) := by decide +kernel
theorem dX2_shortOf_101 : decode cX2_shortOf 101 = .ok (.getfield 27, 3) := by decide +kernel
theorem dX2_shortOf_104 : decode cX2_shortOf 104 = .ok (.iload 5, 2) := by decide +kernel
theorem dX2_shortOf_106 : decode cX2_shortOf 106 = .ok (.iaload, 1) := by decide +kernel
theorem dX2_shortOf_107 : decode cX2_shortOf 107 = .ok (.isub, 1) := by decide +kernel
theorem dX2_shortOf_108 : decode cX2_shortOf 108 = .ok (.iadd, 1) := by decide +kernel
theorem dX2_shortOf_109 : decode cX2_shortOf 109 = .ok (.istore 4, 2) := by decide +kernel
theorem dX2_shortOf_111 : decode cX2_shortOf 111 = .ok (.iinc 5 1, 3) := by decide +kernel
theorem dX2_shortOf_114 : decode cX2_shortOf 114 = .ok (.goto (-108), 3) := by decide +kernel
theorem dX2_shortOf_117 : decode cX2_shortOf 117 = .ok (.iload 4, 2) := by decide +kernel
theorem dX2_shortOf_119 : decode cX2_shortOf 119 = .ok (.ireturn, 1) := by decide +kernel
set_option maxRecDepth 100000 in
set_option maxHeartbeats 4000000 in
theorem B_X1_isTopic_0 {g : gp} {u : sg} {Q : Option Value → sg → Prop} (x0 : Int32) (h : ((x0 = (0 : Int32) → Q (some (.int (1 : Int32))) u) ∧ (¬ x0 = (0 : Int32) → Go g iX11_within 0 [some (.int x0), some (.int 10), some (.int 17)] [] u (QI (fun r1 u1 => ((¬ r1 = (0 : Int32) → Q (some (.int (1 : Int32))) u1) ∧ (r1 = (0 : Int32) → Go g iX11_within 0 [some (.int x0), some (.int 20), some (.int 27)] [] u1 (QI (fun r2 u2 => ((¬ r2 = (0 : Int32) → Q (some (.int (1 : Int32))) u2) ∧ (r2 = (0 : Int32) → Go g iX11_within 0 [some (.int x0), some (.int 30), some (.int 37)] [] u2 (QI (fun r3 u3 => ((¬ r3 = (0 : Int32) → Q (some (.int (1 : Int32))) u3) ∧ (r3 = (0 : Int32) → Go g iX11_within 0 [some (.int x0), some (.int 40), some (.int 51)] [] u3 (QI (fun r4 u4 => ((r4 = (0 : Int32) → Q (some (.int (0 : Int32))) u4) ∧ (¬ r4 = (0 : Int32) → Q (some (.int (1 : Int32))) u4))))))))))))))))))) : Go g iX1_isTopic 0 [some (.int x0)] [] u Q := by
  refine go_iload_n dX1_isTopic_0 rfl rfl ?_
  refine go_if_eq (tgt := 48) dX1_isTopic_1 (by decide) (fun hc => ?_) (fun hc => ?_)
  · replace h := h.1 hc
    refine go_iconst (v := 1) dX1_isTopic_48 (by decide) ?_
    refine go_goto (tgt := 53) dX1_isTopic_49 (by decide) ?_
    exact go_zret dX1_isTopic_53 rfl (by decide) h
  · replace h := h.2 hc
    refine go_iload_n dX1_isTopic_4 rfl rfl ?_
    refine go_bipush (v := 10) dX1_isTopic_5 (by decide) ?_
    refine go_bipush (v := 17) dX1_isTopic_7 (by decide) ?_
    refine go_cNi (As := [.int x0, .int 10, .int 17]) (st := []) (lc := [some (.int x0), some (.int 10), some (.int 17)]) dX1_isTopic_9 me_X11_within (List.mem_of_getElem? (i := 3) rfl) rfl (Nat.le_of_ble_eq_true rfl) rfl ⟨Nat.le_of_ble_eq_true rfl, Nat.le_of_ble_eq_true rfl⟩ rfl (Nat.le_of_ble_eq_true rfl) h (fun r1 u1 h => ?_)
    refine go_if_ne (tgt := 48) dX1_isTopic_12 (by decide) (fun hc => ?_) (fun hc => ?_)
    · replace h := h.1 hc
      refine go_iconst (v := 1) dX1_isTopic_48 (by decide) ?_
      refine go_goto (tgt := 53) dX1_isTopic_49 (by decide) ?_
      exact go_zret dX1_isTopic_53 rfl (by decide) h
    · replace h := h.2 hc
      refine go_iload_n dX1_isTopic_15 rfl rfl ?_
      refine go_bipush (v := 20) dX1_isTopic_16 (by decide) ?_
      refine go_bipush (v := 27) dX1_isTopic_18 (by decide) ?_
      refine go_cNi (As := [.int x0, .int 20, .int 27]) (st := []) (lc := [some (.int x0), some (.int 20), some (.int 27)]) dX1_isTopic_20 me_X11_within (List.mem_of_getElem? (i := 3) rfl) rfl (Nat.le_of_ble_eq_true rfl) rfl ⟨Nat.le_of_ble_eq_true rfl, Nat.le_of_ble_eq_true rfl⟩ rfl (Nat.le_of_ble_eq_true rfl) h (fun r2 u2 h => ?_)
      refine go_if_ne (tgt := 48) dX1_isTopic_23 (by decide) (fun hc => ?_) (fun hc => ?_)
      · replace h := h.1 hc
        refine go_iconst (v := 1) dX1_isTopic_48 (by decide) ?_
        refine go_goto (tgt := 53) dX1_isTopic_49 (by decide) ?_
        exact go_zret dX1_isTopic_53 rfl (by decide) h
      · replace h := h.2 hc
        refine go_iload_n dX1_isTopic_26 rfl rfl ?_
        refine go_bipush (v := 30) dX1_isTopic_27 (by decide) ?_
        refine go_bipush (v := 37) dX1_isTopic_29 (by decide) ?_
        refine go_cNi (As := [.int x0, .int 30, .int 37]) (st := []) (lc := [some (.int x0), some (.int 30), some (.int 37)]) dX1_isTopic_31 me_X11_within (List.mem_of_getElem? (i := 3) rfl) rfl (Nat.le_of_ble_eq_true rfl) rfl ⟨Nat.le_of_ble_eq_true rfl, Nat.le_of_ble_eq_true rfl⟩ rfl (Nat.le_of_ble_eq_true rfl) h (fun r3 u3 h => ?_)
        refine go_if_ne (tgt := 48) dX1_isTopic_34 (by decide) (fun hc => ?_) (fun hc => ?_)
        · replace h := h.1 hc
          refine go_iconst (v := 1) dX1_isTopic_48 (by decide) ?_
          refine go_goto (tgt := 53) dX1_isTopic_49 (by decide) ?_
          exact go_zret dX1_isTopic_53 rfl (by decide) h
        · replace h := h.2 hc
          refine go_iload_n dX1_isTopic_37 rfl rfl ?_
          refine go_bipush (v := 40) dX1_isTopic_38 (by decide) ?_
          refine go_bipush (v := 51) dX1_isTopic_40 (by decide) ?_
          refine go_cNi (As := [.int x0, .int 40, .int 51]) (st := []) (lc := [some (.int x0), some (.int 40), some (.int 51)]) dX1_isTopic_42 me_X11_within (List.mem_of_getElem? (i := 3) rfl) rfl (Nat.le_of_ble_eq_true rfl) rfl ⟨Nat.le_of_ble_eq_true rfl, Nat.le_of_ble_eq_true rfl⟩ rfl (Nat.le_of_ble_eq_true rfl) h (fun r4 u4 h => ?_)
          refine go_if_eq (tgt := 52) dX1_isTopic_45 (by decide) (fun hc => ?_) (fun hc => ?_)
          · replace h := h.1 hc
            refine go_iconst (v := 0) dX1_isTopic_52 (by decide) ?_
            exact go_zret dX1_isTopic_53 rfl (by decide) h
          · replace h := h.2 hc
            refine go_iconst (v := 1) dX1_isTopic_48 (by decide) ?_
            refine go_goto (tgt := 53) dX1_isTopic_49 (by decide) ?_
            exact go_zret dX1_isTopic_53 rfl (by decide) h
set_option maxRecDepth 100000 in
set_option maxHeartbeats 4000000 in
theorem B_X1_inForce_0 {g : gp} {u : sg} {Q : Option Value → sg → Prop} (x1 : Int32) (x2 : Int32) (h : Go g iX11_within 0 [some (.int x2), some (.int 30), some (.int 37)] [] u (QI (fun r1 u1 => ((r1 = (0 : Int32) → Go g iX1_inForce 23 [some (.ref (gd g 2)), some (.int x1), some (.int x2), some (.int 0), some (.int ((-1))), some (.int 0)] [] u1 Q) ∧ (¬ r1 = (0 : Int32) → Go g iX1_inForce 23 [some (.ref (gd g 2)), some (.int x1), some (.int x2), some (.int 1), some (.int ((-1))), some (.int 0)] [] u1 Q))))) : Go g iX1_inForce 0 [some (.ref (gd g 2)), some (.int x1), some (.int x2), none, none, none] [] u Q := by
  refine go_iload_n dX1_inForce_0 rfl rfl ?_
  refine go_bipush (v := 30) dX1_inForce_1 (by decide) ?_
  refine go_bipush (v := 37) dX1_inForce_3 (by decide) ?_
  refine go_cNi (As := [.int x2, .int 30, .int 37]) (st := []) (lc := [some (.int x2), some (.int 30), some (.int 37)]) dX1_inForce_5 me_X11_within (List.mem_of_getElem? (i := 3) rfl) rfl (Nat.le_of_ble_eq_true rfl) rfl ⟨Nat.le_of_ble_eq_true rfl, Nat.le_of_ble_eq_true rfl⟩ rfl (Nat.le_of_ble_eq_true rfl) h (fun r1 u1 h => ?_)
  refine go_if_eq (tgt := 15) dX1_inForce_8 (by decide) (fun hc => ?_) (fun hc => ?_)
  · replace h := h.1 hc
    refine go_iconst (v := 0) dX1_inForce_15 (by decide) ?_
    refine go_istore_n (lm := [some (.ref (gd g 2)), some (.int x1), some (.int x2), some (.int 0), none, none]) dX1_inForce_16 rfl (by decide) rfl rfl ?_
    refine go_iconst (v := (-1)) dX1_inForce_17 (by decide) ?_
    refine go_istore (lm := [some (.ref (gd g 2)), some (.int x1), some (.int x2), some (.int 0), some (.int ((-1))), none]) dX1_inForce_18 (by decide) rfl rfl ?_
    refine go_iconst (v := 0) dX1_inForce_20 (by decide) ?_
    refine go_istore (lm := [some (.ref (gd g 2)), some (.int x1), some (.int x2), some (.int 0), some (.int ((-1))), some (.int 0)]) dX1_inForce_21 (by decide) rfl rfl ?_
    exact h
  · replace h := h.2 hc
    refine go_iconst (v := 1) dX1_inForce_11 (by decide) ?_
    refine go_goto (tgt := 16) dX1_inForce_12 (by decide) ?_
    refine go_istore_n (lm := [some (.ref (gd g 2)), some (.int x1), some (.int x2), some (.int 1), none, none]) dX1_inForce_16 rfl (by decide) rfl rfl ?_
    refine go_iconst (v := (-1)) dX1_inForce_17 (by decide) ?_
    refine go_istore (lm := [some (.ref (gd g 2)), some (.int x1), some (.int x2), some (.int 1), some (.int ((-1))), none]) dX1_inForce_18 (by decide) rfl rfl ?_
    refine go_iconst (v := 0) dX1_inForce_20 (by decide) ?_
    refine go_istore (lm := [some (.ref (gd g 2)), some (.int x1), some (.int x2), some (.int 1), some (.int ((-1))), some (.int 0)]) dX1_inForce_21 (by decide) rfl rfl ?_
    exact h
set_option maxRecDepth 100000 in
set_option maxHeartbeats 4000000 in
theorem B_X1_inForce_23 {g : gp} {u : sg} {Q : Option Value → sg → Prop} (x1 : Int32) (x2 : Int32) (x3 : Int32) (x4 : Int32) (x5 : Int32) (h : (((u.1 2 3) ≤ x5 → Q (some (.int x3)) u) ∧ (¬ (u.1 2 3) ≤ x5 → (vp_in x5 30 ∧ ((¬ (u.2 15 x5.toNatClampNeg) = x2 → Go g iX1_inForce 23 [some (.ref (gd g 2)), some (.int x1), some (.int x2), some (.int x3), some (.int x4), some (.int (x5 + 1))] [] u Q) ∧ ((u.2 15 x5.toNatClampNeg) = x2 → (vp_in x5 30 ∧ ((x1 < (u.2 14 x5.toNatClampNeg) → Go g iX1_inForce 23 [some (.ref (gd g 2)), some (.int x1), some (.int x2), some (.int x3), some (.int x4), some (.int (x5 + 1))] [] u Q) ∧ (¬ x1 < (u.2 14 x5.toNatClampNeg) → (vp_in x5 30 ∧ (((u.2 14 x5.toNatClampNeg) < x4 → Go g iX1_inForce 23 [some (.ref (gd g 2)), some (.int x1), some (.int x2), some (.int x3), some (.int x4), some (.int (x5 + 1))] [] u Q) ∧ (¬ (u.2 14 x5.toNatClampNeg) < x4 → (vp_in x5 30 ∧ (vp_in x5 30 ∧ Go g iX1_inForce 23 [some (.ref (gd g 2)), some (.int x1), some (.int x2), some (.int (u.2 16 x5.toNatClampNeg)), some (.int (u.2 14 x5.toNatClampNeg)), some (.int (x5 + 1))] [] u Q)))))))))))))) : Go g iX1_inForce 23 [some (.ref (gd g 2)), some (.int x1), some (.int x2), some (.int x3), some (.int x4), some (.int x5)] [] u Q := by
  refine go_iload dX1_inForce_23 rfl ?_
  refine go_aload_n dX1_inForce_25 rfl rfl ?_
  refine go_get (k := 3) (v := .int (u.1 2 3)) dX1_inForce_26 ob_2 (by decide) qf_X1_25 rfl ?_
  refine go_icmp_ge (tgt := 89) dX1_inForce_29 (by decide) (fun hc => ?_) (fun hc => ?_)
  · replace h := h.1 hc
    refine go_iload_n dX1_inForce_89 rfl rfl ?_
    exact go_iret dX1_inForce_90 rfl h
  · replace h := h.2 hc
    refine go_aload_n dX1_inForce_32 rfl rfl ?_
    refine go_get (k := 1) (v := .ref (gd g 15)) dX1_inForce_33 ob_2 (by decide) qf_X1_15 rfl ?_
    refine go_iload dX1_inForce_36 rfl ?_
    obtain ⟨hi, h⟩ := h
    refine go_ild (a := 15) (n := 30) dX1_inForce_38 (by decide) (by decide) rfl hi ?_
    refine go_iload_n dX1_inForce_39 rfl rfl ?_
    refine go_icmp_ne (tgt := 83) dX1_inForce_40 (by decide) (fun hc => ?_) (fun hc => ?_)
    · replace h := h.1 hc
      refine go_iinc (v := x5 + 1) (lm := [some (.ref (gd g 2)), some (.int x1), some (.int x2), some (.int x3), some (.int x4), some (.int (x5 + 1))]) dX1_inForce_83 rfl rfl (by decide) rfl rfl ?_
      refine go_goto (tgt := 23) dX1_inForce_86 (by decide) ?_
      exact h
    · replace h := h.2 hc
      refine go_aload_n dX1_inForce_43 rfl rfl ?_
      refine go_get (k := 0) (v := .ref (gd g 14)) dX1_inForce_44 ob_2 (by decide) qf_X1_11 rfl ?_
      refine go_iload dX1_inForce_47 rfl ?_
      obtain ⟨hi, h⟩ := h
      refine go_ild (a := 14) (n := 30) dX1_inForce_49 (by decide) (by decide) rfl hi ?_
      refine go_iload_n dX1_inForce_50 rfl rfl ?_
      refine go_icmp_gt (tgt := 83) dX1_inForce_51 (by decide) (fun hc => ?_) (fun hc => ?_)
      · replace h := h.1 hc
        refine go_iinc (v := x5 + 1) (lm := [some (.ref (gd g 2)), some (.int x1), some (.int x2), some (.int x3), some (.int x4), some (.int (x5 + 1))]) dX1_inForce_83 rfl rfl (by decide) rfl rfl ?_
        refine go_goto (tgt := 23) dX1_inForce_86 (by decide) ?_
        exact h
      · replace h := h.2 hc
        refine go_aload_n dX1_inForce_54 rfl rfl ?_
        refine go_get (k := 0) (v := .ref (gd g 14)) dX1_inForce_55 ob_2 (by decide) qf_X1_11 rfl ?_
        refine go_iload dX1_inForce_58 rfl ?_
        obtain ⟨hi, h⟩ := h
        refine go_ild (a := 14) (n := 30) dX1_inForce_60 (by decide) (by decide) rfl hi ?_
        refine go_iload dX1_inForce_61 rfl ?_
        refine go_icmp_lt (tgt := 83) dX1_inForce_63 (by decide) (fun hc => ?_) (fun hc => ?_)
        · replace h := h.1 hc
          refine go_iinc (v := x5 + 1) (lm := [some (.ref (gd g 2)), some (.int x1), some (.int x2), some (.int x3), some (.int x4), some (.int (x5 + 1))]) dX1_inForce_83 rfl rfl (by decide) rfl rfl ?_
          refine go_goto (tgt := 23) dX1_inForce_86 (by decide) ?_
          exact h
        · replace h := h.2 hc
          refine go_aload_n dX1_inForce_66 rfl rfl ?_
          refine go_get (k := 2) (v := .ref (gd g 16)) dX1_inForce_67 ob_2 (by decide) qf_X1_18 rfl ?_
          refine go_iload dX1_inForce_70 rfl ?_
          obtain ⟨hi, h⟩ := h
          refine go_ild (a := 16) (n := 30) dX1_inForce_72 (by decide) (by decide) rfl hi ?_
          refine go_istore_n (lm := [some (.ref (gd g 2)), some (.int x1), some (.int x2), some (.int (u.2 16 x5.toNatClampNeg)), some (.int x4), some (.int x5)]) dX1_inForce_73 rfl (by decide) rfl rfl ?_
          refine go_aload_n dX1_inForce_74 rfl rfl ?_
          refine go_get (k := 0) (v := .ref (gd g 14)) dX1_inForce_75 ob_2 (by decide) qf_X1_11 rfl ?_
          refine go_iload dX1_inForce_78 rfl ?_
          obtain ⟨hi, h⟩ := h
          refine go_ild (a := 14) (n := 30) dX1_inForce_80 (by decide) (by decide) rfl hi ?_
          refine go_istore (lm := [some (.ref (gd g 2)), some (.int x1), some (.int x2), some (.int (u.2 16 x5.toNatClampNeg)), some (.int (u.2 14 x5.toNatClampNeg)), some (.int x5)]) dX1_inForce_81 (by decide) rfl rfl ?_
          refine go_iinc (v := x5 + 1) (lm := [some (.ref (gd g 2)), some (.int x1), some (.int x2), some (.int (u.2 16 x5.toNatClampNeg)), some (.int (u.2 14 x5.toNatClampNeg)), some (.int (x5 + 1))]) dX1_inForce_83 rfl rfl (by decide) rfl rfl ?_
          refine go_goto (tgt := 23) dX1_inForce_86 (by decide) ?_
          exact h
set_option maxRecDepth 100000 in
set_option maxHeartbeats 4000000 in
theorem B_X1_beginDraft_0 {g : gp} {u : sg} {Q : Option Value → sg → Prop}  (h : Q none (sI u 2 4 (u.1 2 3))) : Go g iX1_beginDraft 0 [some (.ref (gd g 2))] [] u Q := by
  refine go_aload_n dX1_beginDraft_0 rfl rfl ?_
  refine go_aload_n dX1_beginDraft_1 rfl rfl ?_
  refine go_get (k := 3) (v := .int (u.1 2 3)) dX1_beginDraft_2 ob_2 (by decide) qf_X1_25 rfl ?_
  refine go_put (k := 4) dX1_beginDraft_5 ob_2 (by decide) qf_X1_29 rfl rfl pf_I ?_
  exact go_vret dX1_beginDraft_8 rfl h
set_option maxRecDepth 100000 in
set_option maxHeartbeats 4000000 in
theorem B_X1_isDraftFull_0 {g : gp} {u : sg} {Q : Option Value → sg → Prop}  (h : (((u.1 2 4) < (30 : Int32) → Q (some (.int (0 : Int32))) u) ∧ (¬ (u.1 2 4) < (30 : Int32) → Q (some (.int (1 : Int32))) u))) : Go g iX1_isDraftFull 0 [some (.ref (gd g 2))] [] u Q := by
  refine go_aload_n dX1_isDraftFull_0 rfl rfl ?_
  refine go_get (k := 4) (v := .int (u.1 2 4)) dX1_isDraftFull_1 ob_2 (by decide) qf_X1_29 rfl ?_
  refine go_bipush (v := 30) dX1_isDraftFull_4 (by decide) ?_
  refine go_icmp_lt (tgt := 13) dX1_isDraftFull_6 (by decide) (fun hc => ?_) (fun hc => ?_)
  · replace h := h.1 hc
    refine go_iconst (v := 0) dX1_isDraftFull_13 (by decide) ?_
    exact go_zret dX1_isDraftFull_14 rfl (by decide) h
  · replace h := h.2 hc
    refine go_iconst (v := 1) dX1_isDraftFull_9 (by decide) ?_
    refine go_goto (tgt := 14) dX1_isDraftFull_10 (by decide) ?_
    exact go_zret dX1_isDraftFull_14 rfl (by decide) h
set_option maxRecDepth 100000 in
set_option maxHeartbeats 4000000 in
theorem B_X1_draft_0 {g : gp} {u : sg} {Q : Option Value → sg → Prop} (x1 : Int32) (x2 : Int32) (x3 : Int32) (h : (((30 : Int32) ≤ (u.1 2 4) → Q none u) ∧ (¬ (30 : Int32) ≤ (u.1 2 4) → (vp_in (u.1 2 4) 30 ∧ (vp_in (u.1 2 4) 30 ∧ (vp_in (u.1 2 4) 30 ∧ Q none (sI (sA (sA (sA u 14 (u.1 2 4).toNatClampNeg x1) 15 (u.1 2 4).toNatClampNeg x2) 16 (u.1 2 4).toNatClampNeg x3) 2 4 ((u.1 2 4) + 1)))))))) : Go g iX1_draft 0 [some (.ref (gd g 2)), some (.int x1), some (.int x2), some (.int x3)] [] u Q := by
  refine go_aload_n dX1_draft_0 rfl rfl ?_
  refine go_get (k := 4) (v := .int (u.1 2 4)) dX1_draft_1 ob_2 (by decide) qf_X1_29 rfl ?_
  refine go_bipush (v := 30) dX1_draft_4 (by decide) ?_
  refine go_icmp_ge (tgt := 49) dX1_draft_6 (by decide) (fun hc => ?_) (fun hc => ?_)
  · replace h := h.1 hc
    exact go_vret dX1_draft_49 rfl h
  · replace h := h.2 hc
    refine go_aload_n dX1_draft_9 rfl rfl ?_
    refine go_get (k := 0) (v := .ref (gd g 14)) dX1_draft_10 ob_2 (by decide) qf_X1_11 rfl ?_
    refine go_aload_n dX1_draft_13 rfl rfl ?_
    refine go_get (k := 4) (v := .int (u.1 2 4)) dX1_draft_14 ob_2 (by decide) qf_X1_29 rfl ?_
    refine go_iload_n dX1_draft_17 rfl rfl ?_
    obtain ⟨hi, h⟩ := h
    refine go_ist (a := 14) (n := 30) dX1_draft_18 (by decide) (by decide) rfl hi ?_
    refine go_aload_n dX1_draft_19 rfl rfl ?_
    refine go_get (k := 1) (v := .ref (gd g 15)) dX1_draft_20 ob_2 (by decide) qf_X1_15 rfl ?_
    refine go_aload_n dX1_draft_23 rfl rfl ?_
    refine go_get (k := 4) (v := .int (u.1 2 4)) dX1_draft_24 ob_2 (by decide) qf_X1_29 rfl ?_
    refine go_iload_n dX1_draft_27 rfl rfl ?_
    obtain ⟨hi, h⟩ := h
    refine go_ist (a := 15) (n := 30) dX1_draft_28 (by decide) (by decide) rfl hi ?_
    refine go_aload_n dX1_draft_29 rfl rfl ?_
    refine go_get (k := 2) (v := .ref (gd g 16)) dX1_draft_30 ob_2 (by decide) qf_X1_18 rfl ?_
    refine go_aload_n dX1_draft_33 rfl rfl ?_
    refine go_get (k := 4) (v := .int (u.1 2 4)) dX1_draft_34 ob_2 (by decide) qf_X1_29 rfl ?_
    refine go_iload_n dX1_draft_37 rfl rfl ?_
    obtain ⟨hi, h⟩ := h
    refine go_ist (a := 16) (n := 30) dX1_draft_38 (by decide) (by decide) rfl hi ?_
    refine go_aload_n dX1_draft_39 rfl rfl ?_
    refine go_dup dX1_draft_40 rfl ?_
    refine go_get (k := 4) (v := .int (u.1 2 4)) dX1_draft_41 ob_2 (by decide) qf_X1_29 rfl ?_
    refine go_iconst (v := 1) dX1_draft_44 (by decide) ?_
    refine go_iadd dX1_draft_45 ?_
    refine go_put (k := 4) dX1_draft_46 ob_2 (by decide) qf_X1_29 rfl rfl pf_I ?_
    exact go_vret dX1_draft_49 rfl h
set_option maxRecDepth 100000 in
set_option maxHeartbeats 4000000 in
theorem B_X1_passDraft_0 {g : gp} {u : sg} {Q : Option Value → sg → Prop}  (h : Q none (sI u 2 3 (u.1 2 4))) : Go g iX1_passDraft 0 [some (.ref (gd g 2))] [] u Q := by
  refine go_aload_n dX1_passDraft_0 rfl rfl ?_
  refine go_aload_n dX1_passDraft_1 rfl rfl ?_
  refine go_get (k := 4) (v := .int (u.1 2 4)) dX1_passDraft_2 ob_2 (by decide) qf_X1_29 rfl ?_
  refine go_put (k := 3) dX1_passDraft_5 ob_2 (by decide) qf_X1_25 rfl rfl pf_I ?_
  exact go_vret dX1_passDraft_8 rfl h
set_option maxRecDepth 100000 in
set_option maxHeartbeats 4000000 in
theorem B_X2_addCart_0 {g : gp} {u : sg} {Q : Option Value → sg → Prop} (x2 : Int32) (x3 : Int32) (h : Go g iX2_addCart 3 [some (.ref (gd g 3)), some (.ref (gd g 9)), some (.int x2), some (.int x3), some (.int 0)] [] u Q) : Go g iX2_addCart 0 [some (.ref (gd g 3)), some (.ref (gd g 9)), some (.int x2), some (.int x3), none] [] u Q := by
  refine go_iconst (v := 0) dX2_addCart_0 (by decide) ?_
  refine go_istore (lm := [some (.ref (gd g 3)), some (.ref (gd g 9)), some (.int x2), some (.int x3), some (.int 0)]) dX2_addCart_1 (by decide) rfl rfl ?_
  exact h
set_option maxRecDepth 100000 in
set_option maxHeartbeats 4000000 in
theorem B_X2_addCart_3 {g : gp} {u : sg} {Q : Option Value → sg → Prop} (x2 : Int32) (x3 : Int32) (x4 : Int32) (h : (((9 : Int32) ≤ x4 → Q (some (.int (((u.1 3 3) + 1) - 1))) (sI u 3 3 ((u.1 3 3) + 1))) ∧ (¬ (9 : Int32) ≤ x4 → Go g iX8_itemAt 0 [some (.ref (gd g 9)), some (.int x2), some (.int (x3 + x4))] [] u (QI (fun r1 u1 => (vp_in (((u.1 3 3) * 9) + x4) 144 ∧ Go g iX2_addCart 3 [some (.ref (gd g 3)), some (.ref (gd g 9)), some (.int x2), some (.int x3), some (.int (x4 + 1))] [] (sA u1 17 (((u.1 3 3) * 9) + x4).toNatClampNeg r1) Q)))))) : Go g iX2_addCart 3 [some (.ref (gd g 3)), some (.ref (gd g 9)), some (.int x2), some (.int x3), some (.int x4)] [] u Q := by
  refine go_iload dX2_addCart_3 rfl ?_
  refine go_bipush (v := 9) dX2_addCart_5 (by decide) ?_
  refine go_icmp_ge (tgt := 40) dX2_addCart_7 (by decide) (fun hc => ?_) (fun hc => ?_)
  · replace h := h.1 hc
    refine go_aload_n dX2_addCart_40 rfl rfl ?_
    refine go_dup dX2_addCart_41 rfl ?_
    refine go_get (k := 3) (v := .int (u.1 3 3)) dX2_addCart_42 ob_3 (by decide) qf_X2_38 rfl ?_
    refine go_iconst (v := 1) dX2_addCart_45 (by decide) ?_
    refine go_iadd dX2_addCart_46 ?_
    refine go_put (k := 3) dX2_addCart_47 ob_3 (by decide) qf_X2_38 rfl rfl pf_I ?_
    refine go_aload_n dX2_addCart_50 rfl rfl ?_
    refine go_get (k := 3) (v := .int ((u.1 3 3) + 1)) dX2_addCart_51 ob_3 (by decide) qf_X2_38 rfl ?_
    refine go_iconst (v := 1) dX2_addCart_54 (by decide) ?_
    refine go_isub dX2_addCart_55 ?_
    exact go_iret dX2_addCart_56 rfl h
  · replace h := h.2 hc
    refine go_aload_n dX2_addCart_10 rfl rfl ?_
    refine go_get (k := 2) (v := .ref (gd g 17)) dX2_addCart_11 ob_3 (by decide) qf_X2_11 rfl ?_
    refine go_aload_n dX2_addCart_14 rfl rfl ?_
    refine go_get (k := 3) (v := .int (u.1 3 3)) dX2_addCart_15 ob_3 (by decide) qf_X2_38 rfl ?_
    refine go_bipush (v := 9) dX2_addCart_18 (by decide) ?_
    refine go_imul dX2_addCart_20 ?_
    refine go_iload dX2_addCart_21 rfl ?_
    refine go_iadd dX2_addCart_23 ?_
    refine go_aload_n dX2_addCart_24 rfl rfl ?_
    refine go_iload_n dX2_addCart_25 rfl rfl ?_
    refine go_iload_n dX2_addCart_26 rfl rfl ?_
    refine go_iload dX2_addCart_27 rfl ?_
    refine go_iadd dX2_addCart_29 ?_
    refine go_cVi (o := 9) (As := [.int x2, .int (x3 + x4)]) (st := [.int (((u.1 3 3) * 9) + x4), .ref (gd g 17)]) (lc := [some (.ref (gd g 9)), some (.int x2), some (.int (x3 + x4))]) dX2_addCart_30 me_X8_itemAt rfl ob_9 qm_X2_42 rfl (Nat.le_of_ble_eq_true rfl) rfl ⟨Nat.le_of_ble_eq_true rfl, Nat.le_of_ble_eq_true rfl⟩ rfl (Nat.le_of_ble_eq_true rfl) h (fun r1 u1 h => ?_)
    obtain ⟨hi, h⟩ := h
    refine go_ist (a := 17) (n := 144) dX2_addCart_33 (by decide) (by decide) rfl hi ?_
    refine go_iinc (v := x4 + 1) (lm := [some (.ref (gd g 3)), some (.ref (gd g 9)), some (.int x2), some (.int x3), some (.int (x4 + 1))]) dX2_addCart_34 rfl rfl (by decide) rfl rfl ?_
    refine go_goto (tgt := 3) dX2_addCart_37 (by decide) ?_
    exact h
set_option maxRecDepth 100000 in
set_option maxHeartbeats 4000000 in
theorem B_X2_owedAt_0 {g : gp} {u : sg} {Q : Option Value → sg → Prop} (x1 : Int32) (x2 : Int32) (x3 : Int32) (h : Go g iX2_wholeToll 0 [some (.ref (gd g 3)), some (.int x1), some (.int x3), none, none, none] [] u (QI (fun r1 u1 => (vp_in x2 9 ∧ Q (some (.int ((r1 * (u1.2 26 x2.toNatClampNeg)) / 100))) u1)))) : Go g iX2_owedAt 0 [some (.ref (gd g 3)), some (.int x1), some (.int x2), some (.int x3)] [] u Q := by
  refine go_aload_n dX2_owedAt_0 rfl rfl ?_
  refine go_iload_n dX2_owedAt_1 rfl rfl ?_
  refine go_iload_n dX2_owedAt_2 rfl rfl ?_
  refine go_cVi (o := 3) (As := [.int x1, .int x3]) (st := []) (lc := [some (.ref (gd g 3)), some (.int x1), some (.int x3), none, none, none]) dX2_owedAt_3 me_X2_wholeToll rfl ob_3 qm_X2_48 rfl (Nat.le_of_ble_eq_true rfl) rfl ⟨Nat.le_of_ble_eq_true rfl, Nat.le_of_ble_eq_true rfl⟩ rfl (Nat.le_of_ble_eq_true rfl) h (fun r1 u1 h => ?_)
  refine go_aload_n dX2_owedAt_6 rfl rfl ?_
  refine go_get (k := 0) (v := .ref (gd g 5)) dX2_owedAt_7 ob_3 (by decide) qf_X2_30 rfl ?_
  refine go_get (k := 2) (v := .ref (gd g 26)) dX2_owedAt_10 ob_5 (by decide) qf_X2_51 rfl ?_
  refine go_iload_n dX2_owedAt_13 rfl rfl ?_
  obtain ⟨hi, h⟩ := h
  refine go_ild (a := 26) (n := 9) dX2_owedAt_14 (by decide) (by decide) rfl hi ?_
  refine go_imul dX2_owedAt_15 ?_
  refine go_bipush (v := 100) dX2_owedAt_16 (by decide) ?_
  refine go_idiv dX2_owedAt_18 (by decide) ?_
  exact go_iret dX2_owedAt_19 rfl h
set_option maxRecDepth 100000 in
set_option maxHeartbeats 4000000 in
theorem B_X2_leastGate_0 {g : gp} {u : sg} {Q : Option Value → sg → Prop} (x1 : Int32) (x2 : Int32) (h : Go g iX2_wholeToll 0 [some (.ref (gd g 3)), some (.int x1), some (.int x2), none, none, none] [] u (QI (fun r1 u1 => Go g iX2_leastGate 13 [some (.ref (gd g 3)), none, none, some (.int r1), some (.int 0), some (.int 1)] [] u1 Q))) : Go g iX2_leastGate 0 [some (.ref (gd g 3)), some (.int x1), some (.int x2), none, none, none] [] u Q := by
  refine go_aload_n dX2_leastGate_0 rfl rfl ?_
  refine go_iload_n dX2_leastGate_1 rfl rfl ?_
  refine go_iload_n dX2_leastGate_2 rfl rfl ?_
  refine go_cVi (o := 3) (As := [.int x1, .int x2]) (st := []) (lc := [some (.ref (gd g 3)), some (.int x1), some (.int x2), none, none, none]) dX2_leastGate_3 me_X2_wholeToll rfl ob_3 qm_X2_48 rfl (Nat.le_of_ble_eq_true rfl) rfl ⟨Nat.le_of_ble_eq_true rfl, Nat.le_of_ble_eq_true rfl⟩ rfl (Nat.le_of_ble_eq_true rfl) h (fun r1 u1 h => ?_)
  refine go_istore_n (lm := [some (.ref (gd g 3)), some (.int x1), some (.int x2), some (.int r1), none, none]) dX2_leastGate_6 rfl (by decide) rfl rfl ?_
  refine go_iconst (v := 0) dX2_leastGate_7 (by decide) ?_
  refine go_istore (lm := [some (.ref (gd g 3)), some (.int x1), some (.int x2), some (.int r1), some (.int 0), none]) dX2_leastGate_8 (by decide) rfl rfl ?_
  refine go_iconst (v := 1) dX2_leastGate_10 (by decide) ?_
  refine go_istore (lm := [some (.ref (gd g 3)), some (.int x1), some (.int x2), some (.int r1), some (.int 0), some (.int 1)]) dX2_leastGate_11 (by decide) rfl rfl ?_
  refine go_mask [true, false, false, true, true, true] rfl ?_
  exact h
set_option maxRecDepth 100000 in
set_option maxHeartbeats 4000000 in
theorem B_X2_leastGate_13 {g : gp} {u : sg} {Q : Option Value → sg → Prop} (x3 : Int32) (x4 : Int32) (x5 : Int32) (h : (((9 : Int32) ≤ x5 → Q (some (.int x4)) u) ∧ (¬ (9 : Int32) ≤ x5 → (vp_in x5 9 ∧ (vp_in x4 9 ∧ ((((x3 * (u.2 26 x4.toNatClampNeg)) / 100) ≤ ((x3 * (u.2 26 x5.toNatClampNeg)) / 100) → Go g iX2_leastGate 13 [some (.ref (gd g 3)), none, none, some (.int x3), some (.int x4), some (.int (x5 + 1))] [] u Q) ∧ (¬ ((x3 * (u.2 26 x4.toNatClampNeg)) / 100) ≤ ((x3 * (u.2 26 x5.toNatClampNeg)) / 100) → Go g iX2_leastGate 13 [some (.ref (gd g 3)), none, none, some (.int x3), some (.int x5), some (.int (x5 + 1))] [] u Q))))))) : Go g iX2_leastGate 13 [some (.ref (gd g 3)), none, none, some (.int x3), some (.int x4), some (.int x5)] [] u Q := by
  refine go_iload dX2_leastGate_13 rfl ?_
  refine go_bipush (v := 9) dX2_leastGate_15 (by decide) ?_
  refine go_icmp_ge (tgt := 63) dX2_leastGate_17 (by decide) (fun hc => ?_) (fun hc => ?_)
  · replace h := h.1 hc
    refine go_iload dX2_leastGate_63 rfl ?_
    exact go_iret dX2_leastGate_65 rfl h
  · replace h := h.2 hc
    refine go_iload_n dX2_leastGate_20 rfl rfl ?_
    refine go_aload_n dX2_leastGate_21 rfl rfl ?_
    refine go_get (k := 0) (v := .ref (gd g 5)) dX2_leastGate_22 ob_3 (by decide) qf_X2_30 rfl ?_
    refine go_get (k := 2) (v := .ref (gd g 26)) dX2_leastGate_25 ob_5 (by decide) qf_X2_51 rfl ?_
    refine go_iload dX2_leastGate_28 rfl ?_
    obtain ⟨hi, h⟩ := h
    refine go_ild (a := 26) (n := 9) dX2_leastGate_30 (by decide) (by decide) rfl hi ?_
    refine go_imul dX2_leastGate_31 ?_
    refine go_bipush (v := 100) dX2_leastGate_32 (by decide) ?_
    refine go_idiv dX2_leastGate_34 (by decide) ?_
    refine go_iload_n dX2_leastGate_35 rfl rfl ?_
    refine go_aload_n dX2_leastGate_36 rfl rfl ?_
    refine go_get (k := 0) (v := .ref (gd g 5)) dX2_leastGate_37 ob_3 (by decide) qf_X2_30 rfl ?_
    refine go_get (k := 2) (v := .ref (gd g 26)) dX2_leastGate_40 ob_5 (by decide) qf_X2_51 rfl ?_
    refine go_iload dX2_leastGate_43 rfl ?_
    obtain ⟨hi, h⟩ := h
    refine go_ild (a := 26) (n := 9) dX2_leastGate_45 (by decide) (by decide) rfl hi ?_
    refine go_imul dX2_leastGate_46 ?_
    refine go_bipush (v := 100) dX2_leastGate_47 (by decide) ?_
    refine go_idiv dX2_leastGate_49 (by decide) ?_
    refine go_icmp_ge (tgt := 57) dX2_leastGate_50 (by decide) (fun hc => ?_) (fun hc => ?_)
    · replace h := h.1 hc
      refine go_iinc (v := x5 + 1) (lm := [some (.ref (gd g 3)), none, none, some (.int x3), some (.int x4), some (.int (x5 + 1))]) dX2_leastGate_57 rfl rfl (by decide) rfl rfl ?_
      refine go_goto (tgt := 13) dX2_leastGate_60 (by decide) ?_
      exact h
    · replace h := h.2 hc
      refine go_iload dX2_leastGate_53 rfl ?_
      refine go_istore (lm := [some (.ref (gd g 3)), none, none, some (.int x3), some (.int x5), some (.int x5)]) dX2_leastGate_55 (by decide) rfl rfl ?_
      refine go_iinc (v := x5 + 1) (lm := [some (.ref (gd g 3)), none, none, some (.int x3), some (.int x5), some (.int (x5 + 1))]) dX2_leastGate_57 rfl rfl (by decide) rfl rfl ?_
      refine go_goto (tgt := 13) dX2_leastGate_60 (by decide) ?_
      exact h
set_option maxRecDepth 100000 in
set_option maxHeartbeats 4000000 in
theorem B_X2_wholeToll_0 {g : gp} {u : sg} {Q : Option Value → sg → Prop} (x1 : Int32) (x2 : Int32) (h : (vp_in (x1 * 9) 144 ∧ Go g iX1_inForce 0 [some (.ref (gd g 2)), some (.int x2), some (.int 0), none, none, none] [] u (QI (fun r1 u1 => Go g iX2_wholeToll 23 [some (.ref (gd g 3)), some (.int x1), some (.int x2), some (.int ((u.2 17 (x1 * 9).toNatClampNeg) * r1)), some (.int 0), none] [] u1 Q)))) : Go g iX2_wholeToll 0 [some (.ref (gd g 3)), some (.int x1), some (.int x2), none, none, none] [] u Q := by
  refine go_aload_n dX2_wholeToll_0 rfl rfl ?_
  refine go_get (k := 2) (v := .ref (gd g 17)) dX2_wholeToll_1 ob_3 (by decide) qf_X2_11 rfl ?_
  refine go_iload_n dX2_wholeToll_4 rfl rfl ?_
  refine go_bipush (v := 9) dX2_wholeToll_5 (by decide) ?_
  refine go_imul dX2_wholeToll_7 ?_
  obtain ⟨hi, h⟩ := h
  refine go_ild (a := 17) (n := 144) dX2_wholeToll_8 (by decide) (by decide) rfl hi ?_
  refine go_aload_n dX2_wholeToll_9 rfl rfl ?_
  refine go_get (k := 1) (v := .ref (gd g 2)) dX2_wholeToll_10 ob_3 (by decide) qf_X2_34 rfl ?_
  refine go_iload_n dX2_wholeToll_13 rfl rfl ?_
  refine go_iconst (v := 0) dX2_wholeToll_14 (by decide) ?_
  refine go_cVi (o := 2) (As := [.int x2, .int 0]) (st := [.int (u.2 17 (x1 * 9).toNatClampNeg)]) (lc := [some (.ref (gd g 2)), some (.int x2), some (.int 0), none, none, none]) dX2_wholeToll_15 me_X1_inForce rfl ob_2 qm_X2_58 rfl (Nat.le_of_ble_eq_true rfl) rfl ⟨Nat.le_of_ble_eq_true rfl, Nat.le_of_ble_eq_true rfl⟩ rfl (Nat.le_of_ble_eq_true rfl) h (fun r1 u1 h => ?_)
  refine go_imul dX2_wholeToll_18 ?_
  refine go_istore_n (lm := [some (.ref (gd g 3)), some (.int x1), some (.int x2), some (.int ((u.2 17 (x1 * 9).toNatClampNeg) * r1)), none, none]) dX2_wholeToll_19 rfl (by decide) rfl rfl ?_
  refine go_iconst (v := 0) dX2_wholeToll_20 (by decide) ?_
  refine go_istore (lm := [some (.ref (gd g 3)), some (.int x1), some (.int x2), some (.int ((u.2 17 (x1 * 9).toNatClampNeg) * r1)), some (.int 0), none]) dX2_wholeToll_21 (by decide) rfl rfl ?_
  exact h
set_option maxRecDepth 100000 in
set_option maxHeartbeats 4000000 in
theorem B_X2_wholeToll_23 {g : gp} {u : sg} {Q : Option Value → sg → Prop} (x1 : Int32) (x2 : Int32) (x3 : Int32) (x4 : Int32) (h : (((8 : Int32) ≤ x4 → Q (some (.int x3)) u) ∧ (¬ (8 : Int32) ≤ x4 → (vp_in (((x1 * 9) + 1) + x4) 144 ∧ Go g iX1_inForce 0 [some (.ref (gd g 2)), some (.int x2), some (.int (20 + x4)), none, none, none] [] u (QI (fun r1 u1 => (((u.2 17 (((x1 * 9) + 1) + x4).toNatClampNeg) ≤ r1 → Go g iX2_wholeToll 23 [some (.ref (gd g 3)), some (.int x1), some (.int x2), some (.int x3), some (.int (x4 + 1)), none] [] u1 Q) ∧ (¬ (u.2 17 (((x1 * 9) + 1) + x4).toNatClampNeg) ≤ r1 → Go g iX1_inForce 0 [some (.ref (gd g 2)), some (.int x2), some (.int (10 + x4)), none, none, none] [] u1 (QI (fun r2 u2 => Go g iX2_wholeToll 23 [some (.ref (gd g 3)), some (.int x1), some (.int x2), some (.int (x3 + ((u.2 17 (((x1 * 9) + 1) + x4).toNatClampNeg) * r2))), some (.int (x4 + 1)), none] [] u2 Q)))))))))) : Go g iX2_wholeToll 23 [some (.ref (gd g 3)), some (.int x1), some (.int x2), some (.int x3), some (.int x4), none] [] u Q := by
  refine go_iload dX2_wholeToll_23 rfl ?_
  refine go_bipush (v := 8) dX2_wholeToll_25 (by decide) ?_
  refine go_icmp_ge (tgt := 89) dX2_wholeToll_27 (by decide) (fun hc => ?_) (fun hc => ?_)
  · replace h := h.1 hc
    refine go_iload_n dX2_wholeToll_89 rfl rfl ?_
    exact go_iret dX2_wholeToll_90 rfl h
  · replace h := h.2 hc
    refine go_aload_n dX2_wholeToll_30 rfl rfl ?_
    refine go_get (k := 2) (v := .ref (gd g 17)) dX2_wholeToll_31 ob_3 (by decide) qf_X2_11 rfl ?_
    refine go_iload_n dX2_wholeToll_34 rfl rfl ?_
    refine go_bipush (v := 9) dX2_wholeToll_35 (by decide) ?_
    refine go_imul dX2_wholeToll_37 ?_
    refine go_iconst (v := 1) dX2_wholeToll_38 (by decide) ?_
    refine go_iadd dX2_wholeToll_39 ?_
    refine go_iload dX2_wholeToll_40 rfl ?_
    refine go_iadd dX2_wholeToll_42 ?_
    obtain ⟨hi, h⟩ := h
    refine go_ild (a := 17) (n := 144) dX2_wholeToll_43 (by decide) (by decide) rfl hi ?_
    refine go_istore (lm := [some (.ref (gd g 3)), some (.int x1), some (.int x2), some (.int x3), some (.int x4), some (.int (u.2 17 (((x1 * 9) + 1) + x4).toNatClampNeg))]) dX2_wholeToll_44 (by decide) rfl rfl ?_
    refine go_iload dX2_wholeToll_46 rfl ?_
    refine go_aload_n dX2_wholeToll_48 rfl rfl ?_
    refine go_get (k := 1) (v := .ref (gd g 2)) dX2_wholeToll_49 ob_3 (by decide) qf_X2_34 rfl ?_
    refine go_iload_n dX2_wholeToll_52 rfl rfl ?_
    refine go_bipush (v := 20) dX2_wholeToll_53 (by decide) ?_
    refine go_iload dX2_wholeToll_55 rfl ?_
    refine go_iadd dX2_wholeToll_57 ?_
    refine go_cVi (o := 2) (As := [.int x2, .int (20 + x4)]) (st := [.int (u.2 17 (((x1 * 9) + 1) + x4).toNatClampNeg)]) (lc := [some (.ref (gd g 2)), some (.int x2), some (.int (20 + x4)), none, none, none]) dX2_wholeToll_58 me_X1_inForce rfl ob_2 qm_X2_58 rfl (Nat.le_of_ble_eq_true rfl) rfl ⟨Nat.le_of_ble_eq_true rfl, Nat.le_of_ble_eq_true rfl⟩ rfl (Nat.le_of_ble_eq_true rfl) h (fun r1 u1 h => ?_)
    refine go_icmp_le (tgt := 83) dX2_wholeToll_61 (by decide) (fun hc => ?_) (fun hc => ?_)
    · replace h := h.1 hc
      refine go_iinc (v := x4 + 1) (lm := [some (.ref (gd g 3)), some (.int x1), some (.int x2), some (.int x3), some (.int (x4 + 1)), some (.int (u.2 17 (((x1 * 9) + 1) + x4).toNatClampNeg))]) dX2_wholeToll_83 rfl rfl (by decide) rfl rfl ?_
      refine go_goto (tgt := 23) dX2_wholeToll_86 (by decide) ?_
      refine go_mask [true, true, true, true, true, false] rfl ?_
      exact h
    · replace h := h.2 hc
      refine go_iload_n dX2_wholeToll_64 rfl rfl ?_
      refine go_iload dX2_wholeToll_65 rfl ?_
      refine go_aload_n dX2_wholeToll_67 rfl rfl ?_
      refine go_get (k := 1) (v := .ref (gd g 2)) dX2_wholeToll_68 ob_3 (by decide) qf_X2_34 rfl ?_
      refine go_iload_n dX2_wholeToll_71 rfl rfl ?_
      refine go_bipush (v := 10) dX2_wholeToll_72 (by decide) ?_
      refine go_iload dX2_wholeToll_74 rfl ?_
      refine go_iadd dX2_wholeToll_76 ?_
      refine go_cVi (o := 2) (As := [.int x2, .int (10 + x4)]) (st := [.int (u.2 17 (((x1 * 9) + 1) + x4).toNatClampNeg), .int x3]) (lc := [some (.ref (gd g 2)), some (.int x2), some (.int (10 + x4)), none, none, none]) dX2_wholeToll_77 me_X1_inForce rfl ob_2 qm_X2_58 rfl (Nat.le_of_ble_eq_true rfl) rfl ⟨Nat.le_of_ble_eq_true rfl, Nat.le_of_ble_eq_true rfl⟩ rfl (Nat.le_of_ble_eq_true rfl) h (fun r2 u2 h => ?_)
      refine go_imul dX2_wholeToll_80 ?_
      refine go_iadd dX2_wholeToll_81 ?_
      refine go_istore_n (lm := [some (.ref (gd g 3)), some (.int x1), some (.int x2), some (.int (x3 + ((u.2 17 (((x1 * 9) + 1) + x4).toNatClampNeg) * r2))), some (.int x4), some (.int (u.2 17 (((x1 * 9) + 1) + x4).toNatClampNeg))]) dX2_wholeToll_82 rfl (by decide) rfl rfl ?_
      refine go_iinc (v := x4 + 1) (lm := [some (.ref (gd g 3)), some (.int x1), some (.int x2), some (.int (x3 + ((u.2 17 (((x1 * 9) + 1) + x4).toNatClampNeg) * r2))), some (.int (x4 + 1)), some (.int (u.2 17 (((x1 * 9) + 1) + x4).toNatClampNeg))]) dX2_wholeToll_83 rfl rfl (by decide) rfl rfl ?_
      refine go_goto (tgt := 23) dX2_wholeToll_86 (by decide) ?_
      refine go_mask [true, true, true, true, true, false] rfl ?_
      exact h
set_option maxRecDepth 100000 in
set_option maxHeartbeats 4000000 in
theorem B_X2_addPassing_0 {g : gp} {u : sg} {Q : Option Value → sg → Prop} (x1 : Int32) (x2 : Int32) (x3 : Int32) (x4 : Int32) (x5 : Int32) (x6 : Int32) (h : Go g iX2_addPassing 17 [some (.ref (gd g 3)), some (.int x1), some (.int x2), some (.int x3), none, none, some (.int x6), some (.int ((x4 * 1440) + x5)), some (.int (u.1 3 9))] [] u Q) : Go g iX2_addPassing 0 [some (.ref (gd g 3)), some (.int x1), some (.int x2), some (.int x3), some (.int x4), some (.int x5), some (.int x6), none, none] [] u Q := by
  refine go_iload dX2_addPassing_0 rfl ?_
  refine go_sipush (v := 1440) dX2_addPassing_2 (by decide) ?_
  refine go_imul dX2_addPassing_5 ?_
  refine go_iload dX2_addPassing_6 rfl ?_
  refine go_iadd dX2_addPassing_8 ?_
  refine go_istore (lm := [some (.ref (gd g 3)), some (.int x1), some (.int x2), some (.int x3), some (.int x4), some (.int x5), some (.int x6), some (.int ((x4 * 1440) + x5)), none]) dX2_addPassing_9 (by decide) rfl rfl ?_
  refine go_aload_n dX2_addPassing_11 rfl rfl ?_
  refine go_get (k := 9) (v := .int (u.1 3 9)) dX2_addPassing_12 ob_3 (by decide) qf_X2_61 rfl ?_
  refine go_istore (lm := [some (.ref (gd g 3)), some (.int x1), some (.int x2), some (.int x3), some (.int x4), some (.int x5), some (.int x6), some (.int ((x4 * 1440) + x5)), some (.int (u.1 3 9))]) dX2_addPassing_15 (by decide) rfl rfl ?_
  refine go_mask [true, true, true, true, false, false, true, true, true] rfl ?_
  exact h
set_option maxRecDepth 100000 in
set_option maxHeartbeats 4000000 in
theorem B_X2_addPassing_17 {g : gp} {u : sg} {Q : Option Value → sg → Prop} (x1 : Int32) (x2 : Int32) (x3 : Int32) (x6 : Int32) (x7 : Int32) (x8 : Int32) (h : ((x8 ≤ (0 : Int32) → Go g iX2_addPassing 50 [some (.ref (gd g 3)), some (.int x1), some (.int x2), some (.int x3), none, none, some (.int x6), some (.int x7), some (.int x8)] [] u Q) ∧ (¬ x8 ≤ (0 : Int32) → (vp_in (x8 - 1) 60 ∧ (((u.2 18 (x8 - 1).toNatClampNeg) ≤ x7 → Go g iX2_addPassing 50 [some (.ref (gd g 3)), some (.int x1), some (.int x2), some (.int x3), none, none, some (.int x6), some (.int x7), some (.int x8)] [] u Q) ∧ (¬ (u.2 18 (x8 - 1).toNatClampNeg) ≤ x7 → Go g iX2_shiftOn 0 [some (.ref (gd g 3)), some (.int (x8 - 1))] [] u (QV (fun u1 => Go g iX2_addPassing 17 [some (.ref (gd g 3)), some (.int x1), some (.int x2), some (.int x3), none, none, some (.int x6), some (.int x7), some (.int (x8 + (-1)))] [] u1 Q)))))))) : Go g iX2_addPassing 17 [some (.ref (gd g 3)), some (.int x1), some (.int x2), some (.int x3), none, none, some (.int x6), some (.int x7), some (.int x8)] [] u Q := by
  refine go_iload dX2_addPassing_17 rfl ?_
  refine go_if_le (tgt := 50) dX2_addPassing_19 (by decide) (fun hc => ?_) (fun hc => ?_)
  · replace h := h.1 hc
    exact h
  · replace h := h.2 hc
    refine go_aload_n dX2_addPassing_22 rfl rfl ?_
    refine go_get (k := 4) (v := .ref (gd g 18)) dX2_addPassing_23 ob_3 (by decide) qf_X2_15 rfl ?_
    refine go_iload dX2_addPassing_26 rfl ?_
    refine go_iconst (v := 1) dX2_addPassing_28 (by decide) ?_
    refine go_isub dX2_addPassing_29 ?_
    obtain ⟨hi, h⟩ := h
    refine go_ild (a := 18) (n := 60) dX2_addPassing_30 (by decide) (by decide) rfl hi ?_
    refine go_iload dX2_addPassing_31 rfl ?_
    refine go_icmp_le (tgt := 50) dX2_addPassing_33 (by decide) (fun hc => ?_) (fun hc => ?_)
    · replace h := h.1 hc
      exact h
    · replace h := h.2 hc
      refine go_aload_n dX2_addPassing_36 rfl rfl ?_
      refine go_iload dX2_addPassing_37 rfl ?_
      refine go_iconst (v := 1) dX2_addPassing_39 (by decide) ?_
      refine go_isub dX2_addPassing_40 ?_
      refine go_cVv (o := 3) (As := [.int (x8 - 1)]) (st := []) (lc := [some (.ref (gd g 3)), some (.int (x8 - 1))]) dX2_addPassing_41 me_X2_shiftOn rfl ob_3 qm_X2_64 rfl (Nat.le_of_ble_eq_true rfl) rfl ⟨Nat.le_of_ble_eq_true rfl, Nat.le_of_ble_eq_true rfl⟩ rfl (Nat.le_of_ble_eq_true rfl) h (fun u1 h => ?_)
      refine go_iinc (v := x8 + (-1)) (lm := [some (.ref (gd g 3)), some (.int x1), some (.int x2), some (.int x3), none, none, some (.int x6), some (.int x7), some (.int (x8 + (-1)))]) dX2_addPassing_44 rfl rfl (by decide) rfl rfl ?_
      refine go_goto (tgt := 17) dX2_addPassing_47 (by decide) ?_
      exact h
set_option maxRecDepth 100000 in
set_option maxHeartbeats 4000000 in
theorem B_X2_addPassing_50 {g : gp} {u : sg} {Q : Option Value → sg → Prop} (x1 : Int32) (x2 : Int32) (x3 : Int32) (x6 : Int32) (x7 : Int32) (x8 : Int32) (h : (vp_in x8 60 ∧ (vp_in x8 60 ∧ (vp_in x8 60 ∧ (vp_in x8 60 ∧ (vp_in x8 60 ∧ Q (some (.int ((u.1 3 9) + 1))) (sI (sA (sA (sA (sA (sA u 18 x8.toNatClampNeg x7) 19 x8.toNatClampNeg x1) 20 x8.toNatClampNeg x2) 21 x8.toNatClampNeg x3) 22 x8.toNatClampNeg x6) 3 9 ((u.1 3 9) + 1)))))))) : Go g iX2_addPassing 50 [some (.ref (gd g 3)), some (.int x1), some (.int x2), some (.int x3), none, none, some (.int x6), some (.int x7), some (.int x8)] [] u Q := by
  refine go_aload_n dX2_addPassing_50 rfl rfl ?_
  refine go_get (k := 4) (v := .ref (gd g 18)) dX2_addPassing_51 ob_3 (by decide) qf_X2_15 rfl ?_
  refine go_iload dX2_addPassing_54 rfl ?_
  refine go_iload dX2_addPassing_56 rfl ?_
  obtain ⟨hi, h⟩ := h
  refine go_ist (a := 18) (n := 60) dX2_addPassing_58 (by decide) (by decide) rfl hi ?_
  refine go_aload_n dX2_addPassing_59 rfl rfl ?_
  refine go_get (k := 5) (v := .ref (gd g 19)) dX2_addPassing_60 ob_3 (by decide) qf_X2_18 rfl ?_
  refine go_iload dX2_addPassing_63 rfl ?_
  refine go_iload_n dX2_addPassing_65 rfl rfl ?_
  obtain ⟨hi, h⟩ := h
  refine go_ist (a := 19) (n := 60) dX2_addPassing_66 (by decide) (by decide) rfl hi ?_
  refine go_aload_n dX2_addPassing_67 rfl rfl ?_
  refine go_get (k := 6) (v := .ref (gd g 20)) dX2_addPassing_68 ob_3 (by decide) qf_X2_21 rfl ?_
  refine go_iload dX2_addPassing_71 rfl ?_
  refine go_iload_n dX2_addPassing_73 rfl rfl ?_
  obtain ⟨hi, h⟩ := h
  refine go_ist (a := 20) (n := 60) dX2_addPassing_74 (by decide) (by decide) rfl hi ?_
  refine go_aload_n dX2_addPassing_75 rfl rfl ?_
  refine go_get (k := 7) (v := .ref (gd g 21)) dX2_addPassing_76 ob_3 (by decide) qf_X2_24 rfl ?_
  refine go_iload dX2_addPassing_79 rfl ?_
  refine go_iload_n dX2_addPassing_81 rfl rfl ?_
  obtain ⟨hi, h⟩ := h
  refine go_ist (a := 21) (n := 60) dX2_addPassing_82 (by decide) (by decide) rfl hi ?_
  refine go_aload_n dX2_addPassing_83 rfl rfl ?_
  refine go_get (k := 8) (v := .ref (gd g 22)) dX2_addPassing_84 ob_3 (by decide) qf_X2_27 rfl ?_
  refine go_iload dX2_addPassing_87 rfl ?_
  refine go_iload dX2_addPassing_89 rfl ?_
  obtain ⟨hi, h⟩ := h
  refine go_ist (a := 22) (n := 60) dX2_addPassing_91 (by decide) (by decide) rfl hi ?_
  refine go_aload_n dX2_addPassing_92 rfl rfl ?_
  refine go_dup dX2_addPassing_93 rfl ?_
  refine go_get (k := 9) (v := .int (u.1 3 9)) dX2_addPassing_94 ob_3 (by decide) qf_X2_61 rfl ?_
  refine go_iconst (v := 1) dX2_addPassing_97 (by decide) ?_
  refine go_iadd dX2_addPassing_98 ?_
  refine go_put (k := 9) dX2_addPassing_99 ob_3 (by decide) qf_X2_61 rfl rfl pf_I ?_
  refine go_aload_n dX2_addPassing_102 rfl rfl ?_
  refine go_get (k := 9) (v := .int ((u.1 3 9) + 1)) dX2_addPassing_103 ob_3 (by decide) qf_X2_61 rfl ?_
  exact go_iret dX2_addPassing_106 rfl h
set_option maxRecDepth 100000 in
set_option maxHeartbeats 4000000 in
theorem B_X2_shiftOn_0 {g : gp} {u : sg} {Q : Option Value → sg → Prop} (x1 : Int32) (h : (vp_in x1 60 ∧ (vp_in (x1 + 1) 60 ∧ (vp_in x1 60 ∧ (vp_in (x1 + 1) 60 ∧ (vp_in x1 60 ∧ (vp_in (x1 + 1) 60 ∧ (vp_in x1 60 ∧ (vp_in (x1 + 1) 60 ∧ (vp_in x1 60 ∧ (vp_in (x1 + 1) 60 ∧ Q none (sA (sA (sA (sA (sA u 18 (x1 + 1).toNatClampNeg (u.2 18 x1.toNatClampNeg)) 19 (x1 + 1).toNatClampNeg (u.2 19 x1.toNatClampNeg)) 20 (x1 + 1).toNatClampNeg (u.2 20 x1.toNatClampNeg)) 21 (x1 + 1).toNatClampNeg (u.2 21 x1.toNatClampNeg)) 22 (x1 + 1).toNatClampNeg (u.2 22 x1.toNatClampNeg))))))))))))) : Go g iX2_shiftOn 0 [some (.ref (gd g 3)), some (.int x1)] [] u Q := by
  refine go_aload_n dX2_shiftOn_0 rfl rfl ?_
  refine go_get (k := 4) (v := .ref (gd g 18)) dX2_shiftOn_1 ob_3 (by decide) qf_X2_15 rfl ?_
  refine go_iload_n dX2_shiftOn_4 rfl rfl ?_
  refine go_iconst (v := 1) dX2_shiftOn_5 (by decide) ?_
  refine go_iadd dX2_shiftOn_6 ?_
  refine go_aload_n dX2_shiftOn_7 rfl rfl ?_
  refine go_get (k := 4) (v := .ref (gd g 18)) dX2_shiftOn_8 ob_3 (by decide) qf_X2_15 rfl ?_
  refine go_iload_n dX2_shiftOn_11 rfl rfl ?_
  obtain ⟨hi, h⟩ := h
  refine go_ild (a := 18) (n := 60) dX2_shiftOn_12 (by decide) (by decide) rfl hi ?_
  obtain ⟨hi, h⟩ := h
  refine go_ist (a := 18) (n := 60) dX2_shiftOn_13 (by decide) (by decide) rfl hi ?_
  refine go_aload_n dX2_shiftOn_14 rfl rfl ?_
  refine go_get (k := 5) (v := .ref (gd g 19)) dX2_shiftOn_15 ob_3 (by decide) qf_X2_18 rfl ?_
  refine go_iload_n dX2_shiftOn_18 rfl rfl ?_
  refine go_iconst (v := 1) dX2_shiftOn_19 (by decide) ?_
  refine go_iadd dX2_shiftOn_20 ?_
  refine go_aload_n dX2_shiftOn_21 rfl rfl ?_
  refine go_get (k := 5) (v := .ref (gd g 19)) dX2_shiftOn_22 ob_3 (by decide) qf_X2_18 rfl ?_
  refine go_iload_n dX2_shiftOn_25 rfl rfl ?_
  obtain ⟨hi, h⟩ := h
  refine go_ild (a := 19) (n := 60) dX2_shiftOn_26 (by decide) (by decide) rfl hi ?_
  obtain ⟨hi, h⟩ := h
  refine go_ist (a := 19) (n := 60) dX2_shiftOn_27 (by decide) (by decide) rfl hi ?_
  refine go_aload_n dX2_shiftOn_28 rfl rfl ?_
  refine go_get (k := 6) (v := .ref (gd g 20)) dX2_shiftOn_29 ob_3 (by decide) qf_X2_21 rfl ?_
  refine go_iload_n dX2_shiftOn_32 rfl rfl ?_
  refine go_iconst (v := 1) dX2_shiftOn_33 (by decide) ?_
  refine go_iadd dX2_shiftOn_34 ?_
  refine go_aload_n dX2_shiftOn_35 rfl rfl ?_
  refine go_get (k := 6) (v := .ref (gd g 20)) dX2_shiftOn_36 ob_3 (by decide) qf_X2_21 rfl ?_
  refine go_iload_n dX2_shiftOn_39 rfl rfl ?_
  obtain ⟨hi, h⟩ := h
  refine go_ild (a := 20) (n := 60) dX2_shiftOn_40 (by decide) (by decide) rfl hi ?_
  obtain ⟨hi, h⟩ := h
  refine go_ist (a := 20) (n := 60) dX2_shiftOn_41 (by decide) (by decide) rfl hi ?_
  refine go_aload_n dX2_shiftOn_42 rfl rfl ?_
  refine go_get (k := 7) (v := .ref (gd g 21)) dX2_shiftOn_43 ob_3 (by decide) qf_X2_24 rfl ?_
  refine go_iload_n dX2_shiftOn_46 rfl rfl ?_
  refine go_iconst (v := 1) dX2_shiftOn_47 (by decide) ?_
  refine go_iadd dX2_shiftOn_48 ?_
  refine go_aload_n dX2_shiftOn_49 rfl rfl ?_
  refine go_get (k := 7) (v := .ref (gd g 21)) dX2_shiftOn_50 ob_3 (by decide) qf_X2_24 rfl ?_
  refine go_iload_n dX2_shiftOn_53 rfl rfl ?_
  obtain ⟨hi, h⟩ := h
  refine go_ild (a := 21) (n := 60) dX2_shiftOn_54 (by decide) (by decide) rfl hi ?_
  obtain ⟨hi, h⟩ := h
  refine go_ist (a := 21) (n := 60) dX2_shiftOn_55 (by decide) (by decide) rfl hi ?_
  refine go_aload_n dX2_shiftOn_56 rfl rfl ?_
  refine go_get (k := 8) (v := .ref (gd g 22)) dX2_shiftOn_57 ob_3 (by decide) qf_X2_27 rfl ?_
  refine go_iload_n dX2_shiftOn_60 rfl rfl ?_
  refine go_iconst (v := 1) dX2_shiftOn_61 (by decide) ?_
  refine go_iadd dX2_shiftOn_62 ?_
  refine go_aload_n dX2_shiftOn_63 rfl rfl ?_
  refine go_get (k := 8) (v := .ref (gd g 22)) dX2_shiftOn_64 ob_3 (by decide) qf_X2_27 rfl ?_
  refine go_iload_n dX2_shiftOn_67 rfl rfl ?_
  obtain ⟨hi, h⟩ := h
  refine go_ild (a := 22) (n := 60) dX2_shiftOn_68 (by decide) (by decide) rfl hi ?_
  obtain ⟨hi, h⟩ := h
  refine go_ist (a := 22) (n := 60) dX2_shiftOn_69 (by decide) (by decide) rfl hi ?_
  exact go_vret dX2_shiftOn_70 rfl h
set_option maxRecDepth 100000 in
set_option maxHeartbeats 4000000 in
theorem B_X2_wrongPassings_0 {g : gp} {u : sg} {Q : Option Value → sg → Prop}  (h : Go g iX2_wrongPassings 6 [some (.ref (gd g 3)), some (.int 0), some (.int 0), some (.int 0), none] [] u Q) : Go g iX2_wrongPassings 0 [some (.ref (gd g 3)), none, none, none, none] [] u Q := by
  refine go_iconst (v := 0) dX2_wrongPassings_0 (by decide) ?_
  refine go_istore_n (lm := [some (.ref (gd g 3)), some (.int 0), none, none, none]) dX2_wrongPassings_1 rfl (by decide) rfl rfl ?_
  refine go_iconst (v := 0) dX2_wrongPassings_2 (by decide) ?_
  refine go_istore_n (lm := [some (.ref (gd g 3)), some (.int 0), some (.int 0), none, none]) dX2_wrongPassings_3 rfl (by decide) rfl rfl ?_
  refine go_iconst (v := 0) dX2_wrongPassings_4 (by decide) ?_
  refine go_istore_n (lm := [some (.ref (gd g 3)), some (.int 0), some (.int 0), some (.int 0), none]) dX2_wrongPassings_5 rfl (by decide) rfl rfl ?_
  exact h
set_option maxRecDepth 100000 in
set_option maxHeartbeats 4000000 in
theorem B_X2_wrongPassings_6 {g : gp} {u : sg} {Q : Option Value → sg → Prop} (x1 : Int32) (x2 : Int32) (x3 : Int32) (h : (((u.1 3 9) ≤ x3 → Q (some (.int x1)) u) ∧ (¬ (u.1 3 9) ≤ x3 → (vp_in x3 60 ∧ (vp_in x3 60 ∧ ((((x2 >>> ((u.2 19 x3.toNatClampNeg) &&& 31)) &&& 1) = (u.2 20 x3.toNatClampNeg) → Go g iX2_afterPassing 0 [some (.ref (gd g 3)), some (.int x2), some (.int x3), none] [] u (QI (fun r1 u1 => Go g iX2_wrongPassings 6 [some (.ref (gd g 3)), some (.int (x1 + 1)), some (.int r1), some (.int (x3 + 1)), none] [] u1 Q))) ∧ (¬ ((x2 >>> ((u.2 19 x3.toNatClampNeg) &&& 31)) &&& 1) = (u.2 20 x3.toNatClampNeg) → (vp_in x3 60 ∧ (vp_in x3 60 ∧ Go g iX4_isOpen 0 [some (.ref (gd g 5)), some (.int (u.2 21 x3.toNatClampNeg)), some (.int ((u.2 18 x3.toNatClampNeg) - (u.2 18 x3.toNatClampNeg) / 1440 * 1440))] [] u (QI (fun r2 u2 => ((¬ r2 = (0 : Int32) → Go g iX2_afterPassing 0 [some (.ref (gd g 3)), some (.int x2), some (.int x3), none] [] u2 (QI (fun r3 u3 => Go g iX2_wrongPassings 6 [some (.ref (gd g 3)), some (.int x1), some (.int r3), some (.int (x3 + 1)), none] [] u3 Q))) ∧ (r2 = (0 : Int32) → Go g iX2_afterPassing 0 [some (.ref (gd g 3)), some (.int x2), some (.int x3), none] [] u2 (QI (fun r4 u4 => Go g iX2_wrongPassings 6 [some (.ref (gd g 3)), some (.int (x1 + 1)), some (.int r4), some (.int (x3 + 1)), none] [] u4 Q))))))))))))))) : Go g iX2_wrongPassings 6 [some (.ref (gd g 3)), some (.int x1), some (.int x2), some (.int x3), none] [] u Q := by
  refine go_iload_n dX2_wrongPassings_6 rfl rfl ?_
  refine go_aload_n dX2_wrongPassings_7 rfl rfl ?_
  refine go_get (k := 9) (v := .int (u.1 3 9)) dX2_wrongPassings_8 ob_3 (by decide) qf_X2_61 rfl ?_
  refine go_icmp_ge (tgt := 79) dX2_wrongPassings_11 (by decide) (fun hc => ?_) (fun hc => ?_)
  · replace h := h.1 hc
    refine go_iload_n dX2_wrongPassings_79 rfl rfl ?_
    exact go_iret dX2_wrongPassings_80 rfl h
  · replace h := h.2 hc
    refine go_iload_n dX2_wrongPassings_14 rfl rfl ?_
    refine go_aload_n dX2_wrongPassings_15 rfl rfl ?_
    refine go_get (k := 5) (v := .ref (gd g 19)) dX2_wrongPassings_16 ob_3 (by decide) qf_X2_18 rfl ?_
    refine go_iload_n dX2_wrongPassings_19 rfl rfl ?_
    obtain ⟨hi, h⟩ := h
    refine go_ild (a := 19) (n := 60) dX2_wrongPassings_20 (by decide) (by decide) rfl hi ?_
    refine go_ishr dX2_wrongPassings_21 ?_
    refine go_iconst (v := 1) dX2_wrongPassings_22 (by decide) ?_
    refine go_iand dX2_wrongPassings_23 ?_
    refine go_istore (lm := [some (.ref (gd g 3)), some (.int x1), some (.int x2), some (.int x3), some (.int ((x2 >>> ((u.2 19 x3.toNatClampNeg) &&& 31)) &&& 1))]) dX2_wrongPassings_24 (by decide) rfl rfl ?_
    refine go_iload dX2_wrongPassings_26 rfl ?_
    refine go_aload_n dX2_wrongPassings_28 rfl rfl ?_
    refine go_get (k := 6) (v := .ref (gd g 20)) dX2_wrongPassings_29 ob_3 (by decide) qf_X2_21 rfl ?_
    refine go_iload_n dX2_wrongPassings_32 rfl rfl ?_
    obtain ⟨hi, h⟩ := h
    refine go_ild (a := 20) (n := 60) dX2_wrongPassings_33 (by decide) (by decide) rfl hi ?_
    refine go_icmp_eq (tgt := 63) dX2_wrongPassings_34 (by decide) (fun hc => ?_) (fun hc => ?_)
    · replace h := h.1 hc
      refine go_iinc (v := x1 + 1) (lm := [some (.ref (gd g 3)), some (.int (x1 + 1)), some (.int x2), some (.int x3), some (.int ((x2 >>> ((u.2 19 x3.toNatClampNeg) &&& 31)) &&& 1))]) dX2_wrongPassings_63 rfl rfl (by decide) rfl rfl ?_
      refine go_aload_n dX2_wrongPassings_66 rfl rfl ?_
      refine go_iload_n dX2_wrongPassings_67 rfl rfl ?_
      refine go_iload_n dX2_wrongPassings_68 rfl rfl ?_
      refine go_cVi (o := 3) (As := [.int x2, .int x3]) (st := []) (lc := [some (.ref (gd g 3)), some (.int x2), some (.int x3), none]) dX2_wrongPassings_69 me_X2_afterPassing rfl ob_3 qm_X2_72 rfl (Nat.le_of_ble_eq_true rfl) rfl ⟨Nat.le_of_ble_eq_true rfl, Nat.le_of_ble_eq_true rfl⟩ rfl (Nat.le_of_ble_eq_true rfl) h (fun r1 u1 h => ?_)
      refine go_istore_n (lm := [some (.ref (gd g 3)), some (.int (x1 + 1)), some (.int r1), some (.int x3), some (.int ((x2 >>> ((u.2 19 x3.toNatClampNeg) &&& 31)) &&& 1))]) dX2_wrongPassings_72 rfl (by decide) rfl rfl ?_
      refine go_iinc (v := x3 + 1) (lm := [some (.ref (gd g 3)), some (.int (x1 + 1)), some (.int r1), some (.int (x3 + 1)), some (.int ((x2 >>> ((u.2 19 x3.toNatClampNeg) &&& 31)) &&& 1))]) dX2_wrongPassings_73 rfl rfl (by decide) rfl rfl ?_
      refine go_goto (tgt := 6) dX2_wrongPassings_76 (by decide) ?_
      refine go_mask [true, true, true, true, false] rfl ?_
      exact h
    · replace h := h.2 hc
      refine go_aload_n dX2_wrongPassings_37 rfl rfl ?_
      refine go_get (k := 0) (v := .ref (gd g 5)) dX2_wrongPassings_38 ob_3 (by decide) qf_X2_30 rfl ?_
      refine go_aload_n dX2_wrongPassings_41 rfl rfl ?_
      refine go_get (k := 7) (v := .ref (gd g 21)) dX2_wrongPassings_42 ob_3 (by decide) qf_X2_24 rfl ?_
      refine go_iload_n dX2_wrongPassings_45 rfl rfl ?_
      obtain ⟨hi, h⟩ := h
      refine go_ild (a := 21) (n := 60) dX2_wrongPassings_46 (by decide) (by decide) rfl hi ?_
      refine go_aload_n dX2_wrongPassings_47 rfl rfl ?_
      refine go_get (k := 4) (v := .ref (gd g 18)) dX2_wrongPassings_48 ob_3 (by decide) qf_X2_15 rfl ?_
      refine go_iload_n dX2_wrongPassings_51 rfl rfl ?_
      obtain ⟨hi, h⟩ := h
      refine go_ild (a := 18) (n := 60) dX2_wrongPassings_52 (by decide) (by decide) rfl hi ?_
      refine go_sipush (v := 1440) dX2_wrongPassings_53 (by decide) ?_
      refine go_irem dX2_wrongPassings_56 (by decide) ?_
      refine go_cVi (o := 5) (As := [.int (u.2 21 x3.toNatClampNeg), .int ((u.2 18 x3.toNatClampNeg) - (u.2 18 x3.toNatClampNeg) / 1440 * 1440)]) (st := []) (lc := [some (.ref (gd g 5)), some (.int (u.2 21 x3.toNatClampNeg)), some (.int ((u.2 18 x3.toNatClampNeg) - (u.2 18 x3.toNatClampNeg) / 1440 * 1440))]) dX2_wrongPassings_57 me_X4_isOpen rfl ob_5 qm_X2_68 rfl (Nat.le_of_ble_eq_true rfl) rfl ⟨Nat.le_of_ble_eq_true rfl, Nat.le_of_ble_eq_true rfl⟩ rfl (Nat.le_of_ble_eq_true rfl) h (fun r2 u2 h => ?_)
      refine go_if_ne (tgt := 66) dX2_wrongPassings_60 (by decide) (fun hc => ?_) (fun hc => ?_)
      · replace h := h.1 hc
        refine go_aload_n dX2_wrongPassings_66 rfl rfl ?_
        refine go_iload_n dX2_wrongPassings_67 rfl rfl ?_
        refine go_iload_n dX2_wrongPassings_68 rfl rfl ?_
        refine go_cVi (o := 3) (As := [.int x2, .int x3]) (st := []) (lc := [some (.ref (gd g 3)), some (.int x2), some (.int x3), none]) dX2_wrongPassings_69 me_X2_afterPassing rfl ob_3 qm_X2_72 rfl (Nat.le_of_ble_eq_true rfl) rfl ⟨Nat.le_of_ble_eq_true rfl, Nat.le_of_ble_eq_true rfl⟩ rfl (Nat.le_of_ble_eq_true rfl) h (fun r3 u3 h => ?_)
        refine go_istore_n (lm := [some (.ref (gd g 3)), some (.int x1), some (.int r3), some (.int x3), some (.int ((x2 >>> ((u.2 19 x3.toNatClampNeg) &&& 31)) &&& 1))]) dX2_wrongPassings_72 rfl (by decide) rfl rfl ?_
        refine go_iinc (v := x3 + 1) (lm := [some (.ref (gd g 3)), some (.int x1), some (.int r3), some (.int (x3 + 1)), some (.int ((x2 >>> ((u.2 19 x3.toNatClampNeg) &&& 31)) &&& 1))]) dX2_wrongPassings_73 rfl rfl (by decide) rfl rfl ?_
        refine go_goto (tgt := 6) dX2_wrongPassings_76 (by decide) ?_
        refine go_mask [true, true, true, true, false] rfl ?_
        exact h
      · replace h := h.2 hc
        refine go_iinc (v := x1 + 1) (lm := [some (.ref (gd g 3)), some (.int (x1 + 1)), some (.int x2), some (.int x3), some (.int ((x2 >>> ((u.2 19 x3.toNatClampNeg) &&& 31)) &&& 1))]) dX2_wrongPassings_63 rfl rfl (by decide) rfl rfl ?_
        refine go_aload_n dX2_wrongPassings_66 rfl rfl ?_
        refine go_iload_n dX2_wrongPassings_67 rfl rfl ?_
        refine go_iload_n dX2_wrongPassings_68 rfl rfl ?_
        refine go_cVi (o := 3) (As := [.int x2, .int x3]) (st := []) (lc := [some (.ref (gd g 3)), some (.int x2), some (.int x3), none]) dX2_wrongPassings_69 me_X2_afterPassing rfl ob_3 qm_X2_72 rfl (Nat.le_of_ble_eq_true rfl) rfl ⟨Nat.le_of_ble_eq_true rfl, Nat.le_of_ble_eq_true rfl⟩ rfl (Nat.le_of_ble_eq_true rfl) h (fun r4 u4 h => ?_)
        refine go_istore_n (lm := [some (.ref (gd g 3)), some (.int (x1 + 1)), some (.int r4), some (.int x3), some (.int ((x2 >>> ((u.2 19 x3.toNatClampNeg) &&& 31)) &&& 1))]) dX2_wrongPassings_72 rfl (by decide) rfl rfl ?_
        refine go_iinc (v := x3 + 1) (lm := [some (.ref (gd g 3)), some (.int (x1 + 1)), some (.int r4), some (.int (x3 + 1)), some (.int ((x2 >>> ((u.2 19 x3.toNatClampNeg) &&& 31)) &&& 1))]) dX2_wrongPassings_73 rfl rfl (by decide) rfl rfl ?_
        refine go_goto (tgt := 6) dX2_wrongPassings_76 (by decide) ?_
        refine go_mask [true, true, true, true, false] rfl ?_
        exact h
set_option maxRecDepth 100000 in
set_option maxHeartbeats 4000000 in
theorem B_X2_cartsInside_0 {g : gp} {u : sg} {Q : Option Value → sg → Prop}  (h : Go g iX2_cartsInside 4 [some (.ref (gd g 3)), some (.int 0), some (.int 0)] [] u Q) : Go g iX2_cartsInside 0 [some (.ref (gd g 3)), none, none] [] u Q := by
  refine go_iconst (v := 0) dX2_cartsInside_0 (by decide) ?_
  refine go_istore_n (lm := [some (.ref (gd g 3)), some (.int 0), none]) dX2_cartsInside_1 rfl (by decide) rfl rfl ?_
  refine go_iconst (v := 0) dX2_cartsInside_2 (by decide) ?_
  refine go_istore_n (lm := [some (.ref (gd g 3)), some (.int 0), some (.int 0)]) dX2_cartsInside_3 rfl (by decide) rfl rfl ?_
  exact h
set_option maxRecDepth 100000 in
set_option maxHeartbeats 4000000 in
theorem B_X2_cartsInside_4 {g : gp} {u : sg} {Q : Option Value → sg → Prop} (x1 : Int32) (x2 : Int32) (h : (((u.1 3 9) ≤ x2 → Go g iJ6_bitCount_0f7a4 0 [some (.int x1)] [] u (QI (fun r1 u1 => Q (some (.int r1)) u1))) ∧ (¬ (u.1 3 9) ≤ x2 → Go g iX2_afterPassing 0 [some (.ref (gd g 3)), some (.int x1), some (.int x2), none] [] u (QI (fun r2 u2 => Go g iX2_cartsInside 4 [some (.ref (gd g 3)), some (.int r2), some (.int (x2 + 1))] [] u2 Q))))) : Go g iX2_cartsInside 4 [some (.ref (gd g 3)), some (.int x1), some (.int x2)] [] u Q := by
  refine go_iload_n dX2_cartsInside_4 rfl rfl ?_
  refine go_aload_n dX2_cartsInside_5 rfl rfl ?_
  refine go_get (k := 9) (v := .int (u.1 3 9)) dX2_cartsInside_6 ob_3 (by decide) qf_X2_61 rfl ?_
  refine go_icmp_ge (tgt := 25) dX2_cartsInside_9 (by decide) (fun hc => ?_) (fun hc => ?_)
  · replace h := h.1 hc
    refine go_iload_n dX2_cartsInside_25 rfl rfl ?_
    refine go_cSi (As := [.int x1]) (st := []) (lc := [some (.int x1)]) dX2_cartsInside_26 me_J6_bitCount_0f7a4 qm_X2_75 rfl (Nat.le_of_ble_eq_true rfl) rfl ⟨Nat.le_of_ble_eq_true rfl, Nat.le_of_ble_eq_true rfl⟩ rfl (Nat.le_of_ble_eq_true rfl) h (fun r1 u1 h => ?_)
    exact go_iret dX2_cartsInside_29 rfl h
  · replace h := h.2 hc
    refine go_aload_n dX2_cartsInside_12 rfl rfl ?_
    refine go_iload_n dX2_cartsInside_13 rfl rfl ?_
    refine go_iload_n dX2_cartsInside_14 rfl rfl ?_
    refine go_cVi (o := 3) (As := [.int x1, .int x2]) (st := []) (lc := [some (.ref (gd g 3)), some (.int x1), some (.int x2), none]) dX2_cartsInside_15 me_X2_afterPassing rfl ob_3 qm_X2_72 rfl (Nat.le_of_ble_eq_true rfl) rfl ⟨Nat.le_of_ble_eq_true rfl, Nat.le_of_ble_eq_true rfl⟩ rfl (Nat.le_of_ble_eq_true rfl) h (fun r2 u2 h => ?_)
    refine go_istore_n (lm := [some (.ref (gd g 3)), some (.int r2), some (.int x2)]) dX2_cartsInside_18 rfl (by decide) rfl rfl ?_
    refine go_iinc (v := x2 + 1) (lm := [some (.ref (gd g 3)), some (.int r2), some (.int (x2 + 1))]) dX2_cartsInside_19 rfl rfl (by decide) rfl rfl ?_
    refine go_goto (tgt := 4) dX2_cartsInside_22 (by decide) ?_
    exact h
set_option maxRecDepth 100000 in
set_option maxHeartbeats 4000000 in
theorem B_X2_afterPassing_0 {g : gp} {u : sg} {Q : Option Value → sg → Prop} (x1 : Int32) (x2 : Int32) (h : (vp_in x2 60 ∧ (vp_in x2 60 ∧ ((¬ (u.2 20 x2.toNatClampNeg) = (1 : Int32) → Q (some (.int (x1 &&& ((1 <<< ((u.2 19 x2.toNatClampNeg) &&& 31)) ^^^ (-1))))) u) ∧ ((u.2 20 x2.toNatClampNeg) = (1 : Int32) → Q (some (.int (x1 ||| (1 <<< ((u.2 19 x2.toNatClampNeg) &&& 31))))) u))))) : Go g iX2_afterPassing 0 [some (.ref (gd g 3)), some (.int x1), some (.int x2), none] [] u Q := by
  refine go_iconst (v := 1) dX2_afterPassing_0 (by decide) ?_
  refine go_aload_n dX2_afterPassing_1 rfl rfl ?_
  refine go_get (k := 5) (v := .ref (gd g 19)) dX2_afterPassing_2 ob_3 (by decide) qf_X2_18 rfl ?_
  refine go_iload_n dX2_afterPassing_5 rfl rfl ?_
  obtain ⟨hi, h⟩ := h
  refine go_ild (a := 19) (n := 60) dX2_afterPassing_6 (by decide) (by decide) rfl hi ?_
  refine go_ishl dX2_afterPassing_7 ?_
  refine go_istore_n (lm := [some (.ref (gd g 3)), some (.int x1), some (.int x2), some (.int (1 <<< ((u.2 19 x2.toNatClampNeg) &&& 31)))]) dX2_afterPassing_8 rfl (by decide) rfl rfl ?_
  refine go_aload_n dX2_afterPassing_9 rfl rfl ?_
  refine go_get (k := 6) (v := .ref (gd g 20)) dX2_afterPassing_10 ob_3 (by decide) qf_X2_21 rfl ?_
  refine go_iload_n dX2_afterPassing_13 rfl rfl ?_
  obtain ⟨hi, h⟩ := h
  refine go_ild (a := 20) (n := 60) dX2_afterPassing_14 (by decide) (by decide) rfl hi ?_
  refine go_iconst (v := 1) dX2_afterPassing_15 (by decide) ?_
  refine go_icmp_ne (tgt := 25) dX2_afterPassing_16 (by decide) (fun hc => ?_) (fun hc => ?_)
  · replace h := h.1 hc
    refine go_iload_n dX2_afterPassing_25 rfl rfl ?_
    refine go_iload_n dX2_afterPassing_26 rfl rfl ?_
    refine go_iconst (v := (-1)) dX2_afterPassing_27 (by decide) ?_
    refine go_ixor dX2_afterPassing_28 ?_
    refine go_iand dX2_afterPassing_29 ?_
    exact go_iret dX2_afterPassing_30 rfl h
  · replace h := h.2 hc
    refine go_iload_n dX2_afterPassing_19 rfl rfl ?_
    refine go_iload_n dX2_afterPassing_20 rfl rfl ?_
    refine go_ior dX2_afterPassing_21 ?_
    refine go_goto (tgt := 30) dX2_afterPassing_22 (by decide) ?_
    exact go_iret dX2_afterPassing_30 rfl h
set_option maxRecDepth 100000 in
set_option maxHeartbeats 4000000 in
theorem B_X2_lostCarts_0 {g : gp} {u : sg} {Q : Option Value → sg → Prop}  (h : Go g iX2_lostCarts 4 [some (.ref (gd g 3)), some (.int 0), some (.int 0), none, none] [] u Q) : Go g iX2_lostCarts 0 [some (.ref (gd g 3)), none, none, none, none] [] u Q := by
  refine go_iconst (v := 0) dX2_lostCarts_0 (by decide) ?_
  refine go_istore_n (lm := [some (.ref (gd g 3)), some (.int 0), none, none, none]) dX2_lostCarts_1 rfl (by decide) rfl rfl ?_
  refine go_iconst (v := 0) dX2_lostCarts_2 (by decide) ?_
  refine go_istore_n (lm := [some (.ref (gd g 3)), some (.int 0), some (.int 0), none, none]) dX2_lostCarts_3 rfl (by decide) rfl rfl ?_
  exact h
set_option maxRecDepth 100000 in
set_option maxHeartbeats 4000000 in
theorem B_X2_lostCarts_4 {g : gp} {u : sg} {Q : Option Value → sg → Prop} (x1 : Int32) (x2 : Int32) (h : (((u.1 3 3) ≤ x2 → Q (some (.int x1)) u) ∧ (¬ (u.1 3 3) ≤ x2 → Go g iX2_lostCarts 17 [some (.ref (gd g 3)), some (.int x1), some (.int x2), some (.int 0), some (.int 0)] [] u Q))) : Go g iX2_lostCarts 4 [some (.ref (gd g 3)), some (.int x1), some (.int x2), none, none] [] u Q := by
  refine go_iload_n dX2_lostCarts_4 rfl rfl ?_
  refine go_aload_n dX2_lostCarts_5 rfl rfl ?_
  refine go_get (k := 3) (v := .int (u.1 3 3)) dX2_lostCarts_6 ob_3 (by decide) qf_X2_38 rfl ?_
  refine go_icmp_ge (tgt := 75) dX2_lostCarts_9 (by decide) (fun hc => ?_) (fun hc => ?_)
  · replace h := h.1 hc
    refine go_iload_n dX2_lostCarts_75 rfl rfl ?_
    exact go_iret dX2_lostCarts_76 rfl h
  · replace h := h.2 hc
    refine go_iconst (v := 0) dX2_lostCarts_12 (by decide) ?_
    refine go_istore_n (lm := [some (.ref (gd g 3)), some (.int x1), some (.int x2), some (.int 0), none]) dX2_lostCarts_13 rfl (by decide) rfl rfl ?_
    refine go_iconst (v := 0) dX2_lostCarts_14 (by decide) ?_
    refine go_istore (lm := [some (.ref (gd g 3)), some (.int x1), some (.int x2), some (.int 0), some (.int 0)]) dX2_lostCarts_15 (by decide) rfl rfl ?_
    exact h
set_option maxRecDepth 100000 in
set_option maxHeartbeats 4000000 in
theorem B_X2_lostCarts_17 {g : gp} {u : sg} {Q : Option Value → sg → Prop} (x1 : Int32) (x2 : Int32) (x3 : Int32) (x4 : Int32) (h : (((u.1 3 9) ≤ x4 → ((x3 ≤ (0 : Int32) → Go g iX2_lostCarts 4 [some (.ref (gd g 3)), some (.int x1), some (.int (x2 + 1)), none, none] [] u Q) ∧ (¬ x3 ≤ (0 : Int32) → Go g iX2_lostCarts 4 [some (.ref (gd g 3)), some (.int (x1 + 1)), some (.int (x2 + 1)), none, none] [] u Q))) ∧ (¬ (u.1 3 9) ≤ x4 → (vp_in x4 60 ∧ ((¬ (u.2 19 x4.toNatClampNeg) = x2 → Go g iX2_lostCarts 17 [some (.ref (gd g 3)), some (.int x1), some (.int x2), some (.int x3), some (.int (x4 + 1))] [] u Q) ∧ ((u.2 19 x4.toNatClampNeg) = x2 → (vp_in x4 60 ∧ ((¬ (u.2 20 x4.toNatClampNeg) = (1 : Int32) → Go g iX2_lostCarts 17 [some (.ref (gd g 3)), some (.int x1), some (.int x2), some (.int (x3 + 1)), some (.int (x4 + 1))] [] u Q) ∧ ((u.2 20 x4.toNatClampNeg) = (1 : Int32) → Go g iX2_lostCarts 17 [some (.ref (gd g 3)), some (.int x1), some (.int x2), some (.int (x3 + (-1))), some (.int (x4 + 1))] [] u Q))))))))) : Go g iX2_lostCarts 17 [some (.ref (gd g 3)), some (.int x1), some (.int x2), some (.int x3), some (.int x4)] [] u Q := by
  refine go_iload dX2_lostCarts_17 rfl ?_
  refine go_aload_n dX2_lostCarts_19 rfl rfl ?_
  refine go_get (k := 9) (v := .int (u.1 3 9)) dX2_lostCarts_20 ob_3 (by decide) qf_X2_61 rfl ?_
  refine go_icmp_ge (tgt := 62) dX2_lostCarts_23 (by decide) (fun hc => ?_) (fun hc => ?_)
  · replace h := h.1 hc
    refine go_iload_n dX2_lostCarts_62 rfl rfl ?_
    refine go_if_le (tgt := 69) dX2_lostCarts_63 (by decide) (fun hc => ?_) (fun hc => ?_)
    · replace h := h.1 hc
      refine go_iinc (v := x2 + 1) (lm := [some (.ref (gd g 3)), some (.int x1), some (.int (x2 + 1)), some (.int x3), some (.int x4)]) dX2_lostCarts_69 rfl rfl (by decide) rfl rfl ?_
      refine go_goto (tgt := 4) dX2_lostCarts_72 (by decide) ?_
      refine go_mask [true, true, true, false, false] rfl ?_
      exact h
    · replace h := h.2 hc
      refine go_iinc (v := x1 + 1) (lm := [some (.ref (gd g 3)), some (.int (x1 + 1)), some (.int x2), some (.int x3), some (.int x4)]) dX2_lostCarts_66 rfl rfl (by decide) rfl rfl ?_
      refine go_iinc (v := x2 + 1) (lm := [some (.ref (gd g 3)), some (.int (x1 + 1)), some (.int (x2 + 1)), some (.int x3), some (.int x4)]) dX2_lostCarts_69 rfl rfl (by decide) rfl rfl ?_
      refine go_goto (tgt := 4) dX2_lostCarts_72 (by decide) ?_
      refine go_mask [true, true, true, false, false] rfl ?_
      exact h
  · replace h := h.2 hc
    refine go_aload_n dX2_lostCarts_26 rfl rfl ?_
    refine go_get (k := 5) (v := .ref (gd g 19)) dX2_lostCarts_27 ob_3 (by decide) qf_X2_18 rfl ?_
    refine go_iload dX2_lostCarts_30 rfl ?_
    obtain ⟨hi, h⟩ := h
    refine go_ild (a := 19) (n := 60) dX2_lostCarts_32 (by decide) (by decide) rfl hi ?_
    refine go_iload_n dX2_lostCarts_33 rfl rfl ?_
    refine go_icmp_ne (tgt := 56) dX2_lostCarts_34 (by decide) (fun hc => ?_) (fun hc => ?_)
    · replace h := h.1 hc
      refine go_iinc (v := x4 + 1) (lm := [some (.ref (gd g 3)), some (.int x1), some (.int x2), some (.int x3), some (.int (x4 + 1))]) dX2_lostCarts_56 rfl rfl (by decide) rfl rfl ?_
      refine go_goto (tgt := 17) dX2_lostCarts_59 (by decide) ?_
      exact h
    · replace h := h.2 hc
      refine go_iload_n dX2_lostCarts_37 rfl rfl ?_
      refine go_aload_n dX2_lostCarts_38 rfl rfl ?_
      refine go_get (k := 6) (v := .ref (gd g 20)) dX2_lostCarts_39 ob_3 (by decide) qf_X2_21 rfl ?_
      refine go_iload dX2_lostCarts_42 rfl ?_
      obtain ⟨hi, h⟩ := h
      refine go_ild (a := 20) (n := 60) dX2_lostCarts_44 (by decide) (by decide) rfl hi ?_
      refine go_iconst (v := 1) dX2_lostCarts_45 (by decide) ?_
      refine go_icmp_ne (tgt := 53) dX2_lostCarts_46 (by decide) (fun hc => ?_) (fun hc => ?_)
      · replace h := h.1 hc
        refine go_iconst (v := 1) dX2_lostCarts_53 (by decide) ?_
        refine go_iadd dX2_lostCarts_54 ?_
        refine go_istore_n (lm := [some (.ref (gd g 3)), some (.int x1), some (.int x2), some (.int (x3 + 1)), some (.int x4)]) dX2_lostCarts_55 rfl (by decide) rfl rfl ?_
        refine go_iinc (v := x4 + 1) (lm := [some (.ref (gd g 3)), some (.int x1), some (.int x2), some (.int (x3 + 1)), some (.int (x4 + 1))]) dX2_lostCarts_56 rfl rfl (by decide) rfl rfl ?_
        refine go_goto (tgt := 17) dX2_lostCarts_59 (by decide) ?_
        exact h
      · replace h := h.2 hc
        refine go_iconst (v := (-1)) dX2_lostCarts_49 (by decide) ?_
        refine go_goto (tgt := 54) dX2_lostCarts_50 (by decide) ?_
        refine go_iadd dX2_lostCarts_54 ?_
        refine go_istore_n (lm := [some (.ref (gd g 3)), some (.int x1), some (.int x2), some (.int (x3 + (-1))), some (.int x4)]) dX2_lostCarts_55 rfl (by decide) rfl rfl ?_
        refine go_iinc (v := x4 + 1) (lm := [some (.ref (gd g 3)), some (.int x1), some (.int x2), some (.int (x3 + (-1))), some (.int (x4 + 1))]) dX2_lostCarts_56 rfl rfl (by decide) rfl rfl ?_
        refine go_goto (tgt := 17) dX2_lostCarts_59 (by decide) ?_
        exact h
set_option maxRecDepth 100000 in
set_option maxHeartbeats 4000000 in
theorem B_X2_shortOf_0 {g : gp} {u : sg} {Q : Option Value → sg → Prop} (x1 : Int32) (x2 : Int32) (x3 : Int32) (h : Go g iX2_shortOf 6 [some (.ref (gd g 3)), some (.int x1), some (.int x2), some (.int x3), some (.int 0), some (.int 0), none, none] [] u Q) : Go g iX2_shortOf 0 [some (.ref (gd g 3)), some (.int x1), some (.int x2), some (.int x3), none, none, none, none] [] u Q := by
  refine go_iconst (v := 0) dX2_shortOf_0 (by decide) ?_
  refine go_istore (lm := [some (.ref (gd g 3)), some (.int x1), some (.int x2), some (.int x3), some (.int 0), none, none, none]) dX2_shortOf_1 (by decide) rfl rfl ?_
  refine go_iconst (v := 0) dX2_shortOf_3 (by decide) ?_
  refine go_istore (lm := [some (.ref (gd g 3)), some (.int x1), some (.int x2), some (.int x3), some (.int 0), some (.int 0), none, none]) dX2_shortOf_4 (by decide) rfl rfl ?_
  exact h
set_option maxRecDepth 100000 in
set_option maxHeartbeats 4000000 in
theorem B_X2_shortOf_6 {g : gp} {u : sg} {Q : Option Value → sg → Prop} (x1 : Int32) (x2 : Int32) (x3 : Int32) (x4 : Int32) (x5 : Int32) (h : (((u.1 3 9) ≤ x5 → Q (some (.int x4)) u) ∧ (¬ (u.1 3 9) ≤ x5 → (vp_in x5 60 ∧ ((x1 = (-1000000 : Int32) → Go g iX2_shortOf 50 [some (.ref (gd g 3)), some (.int x1), some (.int x2), some (.int x3), some (.int x4), some (.int x5), some (.int ((u.2 18 x5.toNatClampNeg) / 1440)), none] [.int 1] u Q) ∧ (¬ x1 = (-1000000 : Int32) → (vp_in x5 60 ∧ ((¬ x1 = (u.2 21 x5.toNatClampNeg) → Go g iX2_shortOf 50 [some (.ref (gd g 3)), some (.int x1), some (.int x2), some (.int x3), some (.int x4), some (.int x5), some (.int ((u.2 18 x5.toNatClampNeg) / 1440)), none] [.int 0] u Q) ∧ (x1 = (u.2 21 x5.toNatClampNeg) → Go g iX2_shortOf 50 [some (.ref (gd g 3)), some (.int x1), some (.int x2), some (.int x3), some (.int x4), some (.int x5), some (.int ((u.2 18 x5.toNatClampNeg) / 1440)), none] [.int 1] u Q))))))))) : Go g iX2_shortOf 6 [some (.ref (gd g 3)), some (.int x1), some (.int x2), some (.int x3), some (.int x4), some (.int x5), none, none] [] u Q := by
  refine go_iload dX2_shortOf_6 rfl ?_
  refine go_aload_n dX2_shortOf_8 rfl rfl ?_
  refine go_get (k := 9) (v := .int (u.1 3 9)) dX2_shortOf_9 ob_3 (by decide) qf_X2_61 rfl ?_
  refine go_icmp_ge (tgt := 117) dX2_shortOf_12 (by decide) (fun hc => ?_) (fun hc => ?_)
  · replace h := h.1 hc
    refine go_iload dX2_shortOf_117 rfl ?_
    exact go_iret dX2_shortOf_119 rfl h
  · replace h := h.2 hc
    refine go_aload_n dX2_shortOf_15 rfl rfl ?_
    refine go_get (k := 4) (v := .ref (gd g 18)) dX2_shortOf_16 ob_3 (by decide) qf_X2_15 rfl ?_
    refine go_iload dX2_shortOf_19 rfl ?_
    obtain ⟨hi, h⟩ := h
    refine go_ild (a := 18) (n := 60) dX2_shortOf_21 (by decide) (by decide) rfl hi ?_
    refine go_sipush (v := 1440) dX2_shortOf_22 (by decide) ?_
    refine go_idiv dX2_shortOf_25 (by decide) ?_
    refine go_istore (lm := [some (.ref (gd g 3)), some (.int x1), some (.int x2), some (.int x3), some (.int x4), some (.int x5), some (.int ((u.2 18 x5.toNatClampNeg) / 1440)), none]) dX2_shortOf_26 (by decide) rfl rfl ?_
    refine go_iload_n dX2_shortOf_28 rfl rfl ?_
    refine go_ldc dX2_shortOf_29 qc_X2_81 ?_
    refine go_icmp_eq (tgt := 45) dX2_shortOf_31 (by decide) (fun hc => ?_) (fun hc => ?_)
    · replace h := h.1 hc
      refine go_iconst (v := 1) dX2_shortOf_45 (by decide) ?_
      refine go_goto (tgt := 50) dX2_shortOf_46 (by decide) ?_
      exact h
    · replace h := h.2 hc
      refine go_iload_n dX2_shortOf_34 rfl rfl ?_
      refine go_aload_n dX2_shortOf_35 rfl rfl ?_
      refine go_get (k := 7) (v := .ref (gd g 21)) dX2_shortOf_36 ob_3 (by decide) qf_X2_24 rfl ?_
      refine go_iload dX2_shortOf_39 rfl ?_
      obtain ⟨hi, h⟩ := h
      refine go_ild (a := 21) (n := 60) dX2_shortOf_41 (by decide) (by decide) rfl hi ?_
      refine go_icmp_ne (tgt := 49) dX2_shortOf_42 (by decide) (fun hc => ?_) (fun hc => ?_)
      · replace h := h.1 hc
        refine go_iconst (v := 0) dX2_shortOf_49 (by decide) ?_
        exact h
      · replace h := h.2 hc
        refine go_iconst (v := 1) dX2_shortOf_45 (by decide) ?_
        refine go_goto (tgt := 50) dX2_shortOf_46 (by decide) ?_
        exact h
set_option maxRecDepth 100000 in
set_option maxHeartbeats 4000000 in
theorem B_X2_shortOf_50 {g : gp} {u : sg} {Q : Option Value → sg → Prop} (x1 : Int32) (x2 : Int32) (x3 : Int32) (x4 : Int32) (x5 : Int32) (x6 : Int32) (t0 : Int32) (h : ((t0 = (0 : Int32) → Go g iX2_shortOf 6 [some (.ref (gd g 3)), some (.int x1), some (.int x2), some (.int x3), some (.int x4), some (.int (x5 + 1)), none, none] [] u Q) ∧ (¬ t0 = (0 : Int32) → (vp_in x5 60 ∧ ((¬ (u.2 20 x5.toNatClampNeg) = (1 : Int32) → Go g iX2_shortOf 6 [some (.ref (gd g 3)), some (.int x1), some (.int x2), some (.int x3), some (.int x4), some (.int (x5 + 1)), none, none] [] u Q) ∧ ((u.2 20 x5.toNatClampNeg) = (1 : Int32) → Go g iX11_within 0 [some (.int x6), some (.int x2), some (.int x3)] [] u (QI (fun r1 u1 => ((r1 = (0 : Int32) → Go g iX2_shortOf 6 [some (.ref (gd g 3)), some (.int x1), some (.int x2), some (.int x3), some (.int x4), some (.int (x5 + 1)), none, none] [] u1 Q) ∧ (¬ r1 = (0 : Int32) → (vp_in x5 60 ∧ (vp_in x5 60 ∧ Go g iX2_owedAt 0 [some (.ref (gd g 3)), some (.int (u1.2 19 x5.toNatClampNeg)), some (.int (u1.2 21 x5.toNatClampNeg)), some (.int x6)] [] u1 (QI (fun r2 u2 => (vp_in x5 60 ∧ Go g iX2_shortOf 6 [some (.ref (gd g 3)), some (.int x1), some (.int x2), some (.int x3), some (.int (x4 + (r2 - (u2.2 22 x5.toNatClampNeg)))), some (.int (x5 + 1)), none, none] [] u2 Q))))))))))))))) : Go g iX2_shortOf 50 [some (.ref (gd g 3)), some (.int x1), some (.int x2), some (.int x3), some (.int x4), some (.int x5), some (.int x6), none] [.int t0] u Q := by
  refine go_istore (lm := [some (.ref (gd g 3)), some (.int x1), some (.int x2), some (.int x3), some (.int x4), some (.int x5), some (.int x6), some (.int t0)]) dX2_shortOf_50 (by decide) rfl rfl ?_
  refine go_iload dX2_shortOf_52 rfl ?_
  refine go_if_eq (tgt := 111) dX2_shortOf_54 (by decide) (fun hc => ?_) (fun hc => ?_)
  · replace h := h.1 hc
    refine go_iinc (v := x5 + 1) (lm := [some (.ref (gd g 3)), some (.int x1), some (.int x2), some (.int x3), some (.int x4), some (.int (x5 + 1)), some (.int x6), some (.int t0)]) dX2_shortOf_111 rfl rfl (by decide) rfl rfl ?_
    refine go_goto (tgt := 6) dX2_shortOf_114 (by decide) ?_
    refine go_mask [true, true, true, true, true, true, false, false] rfl ?_
    exact h
  · replace h := h.2 hc
    refine go_aload_n dX2_shortOf_57 rfl rfl ?_
    refine go_get (k := 6) (v := .ref (gd g 20)) dX2_shortOf_58 ob_3 (by decide) qf_X2_21 rfl ?_
    refine go_iload dX2_shortOf_61 rfl ?_
    obtain ⟨hi, h⟩ := h
    refine go_ild (a := 20) (n := 60) dX2_shortOf_63 (by decide) (by decide) rfl hi ?_
    refine go_iconst (v := 1) dX2_shortOf_64 (by decide) ?_
    refine go_icmp_ne (tgt := 111) dX2_shortOf_65 (by decide) (fun hc => ?_) (fun hc => ?_)
    · replace h := h.1 hc
      refine go_iinc (v := x5 + 1) (lm := [some (.ref (gd g 3)), some (.int x1), some (.int x2), some (.int x3), some (.int x4), some (.int (x5 + 1)), some (.int x6), some (.int t0)]) dX2_shortOf_111 rfl rfl (by decide) rfl rfl ?_
      refine go_goto (tgt := 6) dX2_shortOf_114 (by decide) ?_
      refine go_mask [true, true, true, true, true, true, false, false] rfl ?_
      exact h
    · replace h := h.2 hc
      refine go_iload dX2_shortOf_68 rfl ?_
      refine go_iload_n dX2_shortOf_70 rfl rfl ?_
      refine go_iload_n dX2_shortOf_71 rfl rfl ?_
      refine go_cNi (As := [.int x6, .int x2, .int x3]) (st := []) (lc := [some (.int x6), some (.int x2), some (.int x3)]) dX2_shortOf_72 me_X11_within (List.mem_of_getElem? (i := 4) rfl) rfl (Nat.le_of_ble_eq_true rfl) rfl ⟨Nat.le_of_ble_eq_true rfl, Nat.le_of_ble_eq_true rfl⟩ rfl (Nat.le_of_ble_eq_true rfl) h (fun r1 u1 h => ?_)
      refine go_if_eq (tgt := 111) dX2_shortOf_75 (by decide) (fun hc => ?_) (fun hc => ?_)
      · replace h := h.1 hc
        refine go_iinc (v := x5 + 1) (lm := [some (.ref (gd g 3)), some (.int x1), some (.int x2), some (.int x3), some (.int x4), some (.int (x5 + 1)), some (.int x6), some (.int t0)]) dX2_shortOf_111 rfl rfl (by decide) rfl rfl ?_
        refine go_goto (tgt := 6) dX2_shortOf_114 (by decide) ?_
        refine go_mask [true, true, true, true, true, true, false, false] rfl ?_
        exact h
      · replace h := h.2 hc
        refine go_iload dX2_shortOf_78 rfl ?_
        refine go_aload_n dX2_shortOf_80 rfl rfl ?_
        refine go_aload_n dX2_shortOf_81 rfl rfl ?_
        refine go_get (k := 5) (v := .ref (gd g 19)) dX2_shortOf_82 ob_3 (by decide) qf_X2_18 rfl ?_
        refine go_iload dX2_shortOf_85 rfl ?_
        obtain ⟨hi, h⟩ := h
        refine go_ild (a := 19) (n := 60) dX2_shortOf_87 (by decide) (by decide) rfl hi ?_
        refine go_aload_n dX2_shortOf_88 rfl rfl ?_
        refine go_get (k := 7) (v := .ref (gd g 21)) dX2_shortOf_89 ob_3 (by decide) qf_X2_24 rfl ?_
        refine go_iload dX2_shortOf_92 rfl ?_
        obtain ⟨hi, h⟩ := h
        refine go_ild (a := 21) (n := 60) dX2_shortOf_94 (by decide) (by decide) rfl hi ?_
        refine go_iload dX2_shortOf_95 rfl ?_
        refine go_cVi (o := 3) (As := [.int (u1.2 19 x5.toNatClampNeg), .int (u1.2 21 x5.toNatClampNeg), .int x6]) (st := [.int x4]) (lc := [some (.ref (gd g 3)), some (.int (u1.2 19 x5.toNatClampNeg)), some (.int (u1.2 21 x5.toNatClampNeg)), some (.int x6)]) dX2_shortOf_97 me_X2_owedAt rfl ob_3 qm_X2_86 rfl (Nat.le_of_ble_eq_true rfl) rfl ⟨Nat.le_of_ble_eq_true rfl, Nat.le_of_ble_eq_true rfl⟩ rfl (Nat.le_of_ble_eq_true rfl) h (fun r2 u2 h => ?_)
        refine go_aload_n dX2_shortOf_100 rfl rfl ?_
        refine go_get (k := 8) (v := .ref (gd g 22)) dX2_shortOf_101 ob_3 (by decide) qf_X2_27 rfl ?_
        refine go_iload dX2_shortOf_104 rfl ?_
        obtain ⟨hi, h⟩ := h
        refine go_ild (a := 22) (n := 60) dX2_shortOf_106 (by decide) (by decide) rfl hi ?_
        refine go_isub dX2_shortOf_107 ?_
        refine go_iadd dX2_shortOf_108 ?_
        refine go_istore (lm := [some (.ref (gd g 3)), some (.int x1), some (.int x2), some (.int x3), some (.int (x4 + (r2 - (u2.2 22 x5.toNatClampNeg)))), some (.int x5), some (.int x6), some (.int t0)]) dX2_shortOf_109 (by decide) rfl rfl ?_
        refine go_iinc (v := x5 + 1) (lm := [some (.ref (gd g 3)), some (.int x1), some (.int x2), some (.int x3), some (.int (x4 + (r2 - (u2.2 22 x5.toNatClampNeg)))), some (.int (x5 + 1)), some (.int x6), some (.int t0)]) dX2_shortOf_111 rfl rfl (by decide) rfl rfl ?_
        refine go_goto (tgt := 6) dX2_shortOf_114 (by decide) ?_
        refine go_mask [true, true, true, true, true, true, false, false] rfl ?_
        exact h
