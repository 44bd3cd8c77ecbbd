theorem dX0_rowShift_0 : decode cX0_rowShift 0 = .ok (.iconst 5, 1) := by decide +kernel
theorem dX0_rowShift_1 : decode cX0_rowShift 1 = .ok (.iload_n 0, 1) := by decide +kernel
theorem dX0_rowShift_2 : decode cX0_rowShift 2 = .ok (.isub, 1) := by decide +kernel
theorem dX0_rowShift_3 : decode cX0_rowShift 3 = .ok (.bipush 6, 2) := by decide +kernel
theorem dX0_rowShift_5 : decode cX0_rowShift 5 = .ok (.imul, 1) := by decide +kernel
theorem dX0_rowShift_6 : decode cX0_rowShift 6 = .ok (.ireturn, 1) := by decide +kernel
theorem dX0_costIn_0 : decode cX0_costIn 0 = .ok (.lload_n 0, 1) := by decide +kernel
theorem dX0_costIn_1 : decode cX0_costIn 1 = .ok (.ldc2_w 30, 3) := by decide +kernel
theorem dX0_costIn_4 : decode cX0_costIn 4 = .ok (.lcmp, 1) := by decide +kernel
theorem dX0_costIn_5 : decode cX0_costIn 5 = .ok (.ifCond .ge 11, 3) := by decide +kernel
theorem dX0_costIn_8 : decode cX0_costIn 8 = .ok (.lload_n 0, 1) := by decide +kernel
theorem dX0_costIn_9 : decode cX0_costIn 9 = .ok (.bipush 36, 2) := by decide +kernel
theorem dX0_costIn_11 : decode cX0_costIn 11 = .ok (.lshr, 1) := by decide +kernel
theorem dX0_costIn_12 : decode cX0_costIn 12 = .ok (.l2i, 1) := by decide +kernel
theorem dX0_costIn_13 : decode cX0_costIn 13 = .ok (.goto 4, 3) := by decide +kernel
theorem dX0_costIn_16 : decode cX0_costIn 16 = .ok (.iconst (-1), 1) := by decide +kernel
theorem dX0_costIn_17 : decode cX0_costIn 17 = .ok (.ireturn, 1) := by decide +kernel
theorem dX0_behind_0 : decode cX0_behind 0 = .ok (.iload_n 1, 1) := by decide +kernel
theorem dX0_behind_1 : decode cX0_behind 1 = .ok (.aload_n 0, 1) := by decide +kernel
theorem dX0_behind_2 : decode cX0_behind 2 = .ok (.getfield 91, 3) := by decide +kernel
theorem dX0_behind_5 : decode cX0_behind 5 = .ok (.iload_n 3, 1) := by decide +kernel
theorem dX0_behind_6 : decode cX0_behind 6 = .ok (.iaload, 1) := by decide +kernel
theorem dX0_behind_7 : decode cX0_behind 7 = .ok (.iadd, 1) := by decide +kernel
theorem dX0_behind_8 : decode cX0_behind 8 = .ok (.bipush 64, 2) := by decide +kernel
theorem dX0_behind_10 : decode cX0_behind 10 = .ok (.imul, 1) := by decide +kernel
theorem dX0_behind_11 : decode cX0_behind 11 = .ok (.iload_n 2, 1) := by decide +kernel
theorem dX0_behind_12 : decode cX0_behind 12 = .ok (.iconst 1, 1) := by decide +kernel
theorem dX0_behind_13 : decode cX0_behind 13 = .ok (.iload_n 3, 1) := by decide +kernel
theorem dX0_behind_14 : decode cX0_behind 14 = .ok (.ishl, 1) := by decide +kernel
theorem dX0_behind_15 : decode cX0_behind 15 = .ok (.ior, 1) := by decide +kernel
theorem dX0_behind_16 : decode cX0_behind 16 = .ok (.iadd, 1) := by decide +kernel
theorem dX0_behind_17 : decode cX0_behind 17 = .ok (.ireturn, 1) := by decide +kernel
theorem dX0_lower_0 : decode cX0_lower 0 = .ok (.iload_n 1, 1) := by decide +kernel
theorem dX0_lower_1 : decode cX0_lower 1 = .ok (.ifCond .lt 21, 3) := by decide +kernel
theorem dX0_lower_4 : decode cX0_lower 4 = .ok (.iload_n 1, 1) := by decide +kernel
theorem dX0_lower_5 : decode cX0_lower 5 = .ok (.aload_n 0, 1) := by decide +kernel
theorem dX0_lower_6 : decode cX0_lower 6 = .ok (.arraylength, 1) := by decide +kernel
theorem dX0_lower_7 : decode cX0_lower 7 = .ok (.if_icmp .ge 15, 3) := by decide +kernel
theorem dX0_lower_10 : decode cX0_lower 10 = .ok (.lload_n 2, 1) := by decide +kernel
theorem dX0_lower_11 : decode cX0_lower 11 = .ok (.aload_n 0, 1) := by decide +kernel
theorem dX0_lower_12 : decode cX0_lower 12 = .ok (.iload_n 1, 1) := by decide +kernel
theorem dX0_lower_13 : decode cX0_lower 13 = .ok (.laload, 1) := by decide +kernel
theorem dX0_lower_14 : decode cX0_lower 14 = .ok (.lcmp, 1) := by decide +kernel
theorem dX0_lower_15 : decode cX0_lower 15 = .ok (.ifCond .ge 7, 3) := by decide +kernel
theorem dX0_lower_18 : decode cX0_lower 18 = .ok (.aload_n 0, 1) := by decide +kernel
theorem dX0_lower_19 : decode cX0_lower 19 = .ok (.iload_n 1, 1) := by decide +kernel
theorem dX0_lower_20 : decode cX0_lower 20 = .ok (.lload_n 2, 1) := by decide +kernel
theorem dX0_lower_21 : decode cX0_lower 21 = .ok (.lastore, 1) := by decide +kernel
theorem dX0_lower_22 : decode cX0_lower 22 = .ok (.return_, 1) := by decide +kernel
theorem dX0_lastUsed_0 : decode cX0_lastUsed 0 = .ok (.iload_n 2, 1) := by decide +kernel
theorem dX0_lastUsed_1 : decode cX0_lastUsed 1 = .ok (.ifCond .ne 5, 3) := by decide +kernel
theorem dX0_lastUsed_4 : decode cX0_lastUsed 4 = .ok (.iconst 0, 1) := by decide +kernel
theorem dX0_lastUsed_5 : decode cX0_lastUsed 5 = .ok (.ireturn, 1) := by decide +kernel
theorem dX0_lastUsed_6 : decode cX0_lastUsed 6 = .ok (.iconst 1, 1) := by decide +kernel
theorem dX0_lastUsed_7 : decode cX0_lastUsed 7 = .ok (.istore_n 3, 1) := by decide +kernel
theorem dX0_lastUsed_8 : decode cX0_lastUsed 8 = .ok (.iload_n 3, 1) := by decide +kernel
theorem dX0_lastUsed_9 : decode cX0_lastUsed 9 = .ok (.aload_n 1, 1) := by decide +kernel
theorem dX0_lastUsed_10 : decode cX0_lastUsed 10 = .ok (.getfield 27, 3) := by decide +kernel
theorem dX0_lastUsed_13 : decode cX0_lastUsed 13 = .ok (.if_icmp .gt 31, 3) := by decide +kernel
theorem dX0_lastUsed_16 : decode cX0_lastUsed 16 = .ok (.aload_n 0, 1) := by decide +kernel
theorem dX0_lastUsed_17 : decode cX0_lastUsed 17 = .ok (.getfield 15, 3) := by decide +kernel
theorem dX0_lastUsed_20 : decode cX0_lastUsed 20 = .ok (.iload_n 3, 1) := by decide +kernel
theorem dX0_lastUsed_21 : decode cX0_lastUsed 21 = .ok (.bipush 64, 2) := by decide +kernel
theorem dX0_lastUsed_23 : decode cX0_lastUsed 23 = .ok (.imul, 1) := by decide +kernel
theorem dX0_lastUsed_24 : decode cX0_lastUsed 24 = .ok (.iload_n 2, 1) := by decide +kernel
theorem dX0_lastUsed_25 : decode cX0_lastUsed 25 = .ok (.iadd, 1) := by decide +kernel
theorem dX0_lastUsed_26 : decode cX0_lastUsed 26 = .ok (.laload, 1) := by decide +kernel
theorem dX0_lastUsed_27 : decode cX0_lastUsed 27 = .ok (.ldc2_w 30, 3) := by decide +kernel
theorem dX0_lastUsed_30 : decode cX0_lastUsed 30 = .ok (.lcmp, 1) := by decide +kernel
theorem dX0_lastUsed_31 : decode cX0_lastUsed 31 = .ok (.ifCond .ge 7, 3) := by decide +kernel
theorem dX0_lastUsed_34 : decode cX0_lastUsed 34 = .ok (.iload_n 3, 1) := by decide +kernel
theorem dX0_lastUsed_35 : decode cX0_lastUsed 35 = .ok (.iconst 1, 1) := by decide +kernel
theorem dX0_lastUsed_36 : decode cX0_lastUsed 36 = .ok (.isub, 1) := by decide +kernel
theorem dX0_lastUsed_37 : decode cX0_lastUsed 37 = .ok (.ireturn, 1) := by decide +kernel
theorem dX0_lastUsed_38 : decode cX0_lastUsed 38 = .ok (.iinc 3 1, 3) := by decide +kernel
theorem dX0_lastUsed_41 : decode cX0_lastUsed 41 = .ok (.goto (-33), 3) := by decide +kernel
theorem dX0_lastUsed_44 : decode cX0_lastUsed 44 = .ok (.iconst (-1), 1) := by decide +kernel
theorem dX0_lastUsed_45 : decode cX0_lastUsed 45 = .ok (.ireturn, 1) := by decide +kernel
theorem dX0_firstNotHis_0 : decode cX0_firstNotHis 0 = .ok (.iconst 0, 1) := by decide +kernel
theorem dX0_firstNotHis_1 : decode cX0_firstNotHis 1 = .ok (.istore_n 2, 1) := by decide +kernel
theorem dX0_firstNotHis_2 : decode cX0_firstNotHis 2 = .ok (.iload_n 2, 1) := by decide +kernel
theorem dX0_firstNotHis_3 : decode cX0_firstNotHis 3 = .ok (.aload_n 0, 1) := by decide +kernel
theorem dX0_firstNotHis_4 : decode cX0_firstNotHis 4 = .ok (.getfield 27, 3) := by decide +kernel
theorem dX0_firstNotHis_7 : decode cX0_firstNotHis 7 = .ok (.if_icmp .ge 21, 3) := by decide +kernel
theorem dX0_firstNotHis_10 : decode cX0_firstNotHis 10 = .ok (.aload_n 0, 1) := by decide +kernel
theorem dX0_firstNotHis_11 : decode cX0_firstNotHis 11 = .ok (.getfield 144, 3) := by decide +kernel
theorem dX0_firstNotHis_14 : decode cX0_firstNotHis 14 = .ok (.iload_n 2, 1) := by decide +kernel
theorem dX0_firstNotHis_15 : decode cX0_firstNotHis 15 = .ok (.iaload, 1) := by decide +kernel
theorem dX0_firstNotHis_16 : decode cX0_firstNotHis 16 = .ok (.iload_n 1, 1) := by decide +kernel
theorem dX0_firstNotHis_17 : decode cX0_firstNotHis 17 = .ok (.if_icmp .eq 5, 3) := by decide +kernel
theorem dX0_firstNotHis_20 : decode cX0_firstNotHis 20 = .ok (.iload_n 2, 1) := by decide +kernel
theorem dX0_firstNotHis_21 : decode cX0_firstNotHis 21 = .ok (.ireturn, 1) := by decide +kernel
theorem dX0_firstNotHis_22 : decode cX0_firstNotHis 22 = .ok (.iinc 2 1, 3) := by decide +kernel
theorem dX0_firstNotHis_25 : decode cX0_firstNotHis 25 = .ok (.goto (-23), 3) := by decide +kernel
theorem dX0_firstNotHis_28 : decode cX0_firstNotHis 28 = .ok (.iconst (-1), 1) := by decide +kernel
theorem dX0_firstNotHis_29 : decode cX0_firstNotHis 29 = .ok (.ireturn, 1) := by decide +kernel
theorem dX0_dearestNotHis_0 : decode cX0_dearestNotHis 0 = .ok (.iconst (-1), 1) := by decide +kernel
theorem dX0_dearestNotHis_1 : decode cX0_dearestNotHis 1 = .ok (.istore 4, 2) := by decide +kernel
theorem dX0_dearestNotHis_3 : decode cX0_dearestNotHis 3 = .ok (.iconst (-1), 1) := by decide +kernel
theorem dX0_dearestNotHis_4 : decode cX0_dearestNotHis 4 = .ok (.istore 5, 2) := by decide +kernel
theorem dX0_dearestNotHis_6 : decode cX0_dearestNotHis 6 = .ok (.iload_n 3, 1) := by decide +kernel
theorem dX0_dearestNotHis_7 : decode cX0_dearestNotHis 7 = .ok (.istore 6, 2) := by decide +kernel
theorem dX0_dearestNotHis_9 : decode cX0_dearestNotHis 9 = .ok (.iload 6, 2) := by decide +kernel
theorem dX0_dearestNotHis_11 : decode cX0_dearestNotHis 11 = .ok (.iload_n 3, 1) := by decide +kernel
theorem dX0_dearestNotHis_12 : decode cX0_dearestNotHis 12 = .ok (.aload_n 0, 1) := by decide +kernel
theorem dX0_dearestNotHis_13 : decode cX0_dearestNotHis 13 = .ok (.getfield 91, 3) := by decide +kernel
theorem dX0_dearestNotHis_16 : decode cX0_dearestNotHis 16 = .ok (.iload_n 2, 1) := by decide +kernel
theorem dX0_dearestNotHis_17 : decode cX0_dearestNotHis 17 = .ok (.iaload, 1) := by decide +kernel
theorem dX0_dearestNotHis_18 : decode cX0_dearestNotHis 18 = .ok (.iadd, 1) := by decide +kernel
theorem dX0_dearestNotHis_19 : decode cX0_dearestNotHis 19 = .ok (.if_icmp .ge 54, 3) := by decide +kernel
theorem dX0_dearestNotHis_22 : decode cX0_dearestNotHis 22 = .ok (.iload 6, 2) := by decide +kernel
theorem dX0_dearestNotHis_24 : decode cX0_dearestNotHis 24 = .ok (.aload_n 0, 1) := by decide +kernel
theorem dX0_dearestNotHis_25 : decode cX0_dearestNotHis 25 = .ok (.getfield 27, 3) := by decide +kernel
theorem dX0_dearestNotHis_28 : decode cX0_dearestNotHis 28 = .ok (.if_icmp .ge 45, 3) := by decide +kernel
theorem dX0_dearestNotHis_31 : decode cX0_dearestNotHis 31 = .ok (.aload_n 0, 1) := by decide +kernel
theorem dX0_dearestNotHis_32 : decode cX0_dearestNotHis 32 = .ok (.getfield 144, 3) := by decide +kernel
theorem dX0_dearestNotHis_35 : decode cX0_dearestNotHis 35 = .ok (.iload 6, 2) := by decide +kernel
theorem dX0_dearestNotHis_37 : decode cX0_dearestNotHis 37 = .ok (.iaload, 1) := by decide +kernel
theorem dX0_dearestNotHis_38 : decode cX0_dearestNotHis 38 = .ok (.iload_n 1, 1) := by decide +kernel
theorem dX0_dearestNotHis_39 : decode cX0_dearestNotHis 39 = .ok (.if_icmp .eq 28, 3) := by decide +kernel
theorem dX0_dearestNotHis_42 : decode cX0_dearestNotHis 42 = .ok (.aload_n 0, 1) := by decide +kernel
theorem dX0_dearestNotHis_43 : decode cX0_dearestNotHis 43 = .ok (.getfield 154, 3) := by decide +kernel
theorem dX0_dearestNotHis_46 : decode cX0_dearestNotHis 46 = .ok (.iload 6, 2) := by decide +kernel
theorem dX0_dearestNotHis_48 : decode cX0_dearestNotHis 48 = .ok (.iaload, 1) := by decide +kernel
theorem dX0_dearestNotHis_49 : decode cX0_dearestNotHis 49 = .ok (.iload 5, 2) := by decide +kernel
theorem dX0_dearestNotHis_51 : decode cX0_dearestNotHis 51 = .ok (.if_icmp .le 16, 3) := by decide +kernel
theorem dX0_dearestNotHis_54 : decode cX0_dearestNotHis 54 = .ok (.aload_n 0, 1) := by decide +kernel
theorem dX0_dearestNotHis_55 : decode cX0_dearestNotHis 55 = .ok (.getfield 154, 3) := by decide +kernel
theorem dX0_dearestNotHis_58 : decode cX0_dearestNotHis 58 = .ok (.iload 6, 2) := by decide +kernel
theorem dX0_dearestNotHis_60 : decode cX0_dearestNotHis 60 = .ok (.iaload, 1) := by decide +kernel
theorem dX0_dearestNotHis_61 : decode cX0_dearestNotHis 61 = .ok (.istore 5, 2) := by decide +kernel
theorem dX0_dearestNotHis_63 : decode cX0_dearestNotHis 63 = .ok (.iload 6, 2) := by decide +kernel
theorem dX0_dearestNotHis_65 : decode cX0_dearestNotHis 65 = .ok (.istore 4, 2) := by decide +kernel
theorem dX0_dearestNotHis_67 : decode cX0_dearestNotHis 67 = .ok (.iinc 6 1, 3) := by decide +kernel
theorem dX0_dearestNotHis_70 : decode cX0_dearestNotHis 70 = .ok (.goto (-61), 3) := by decide +kernel
theorem dX0_dearestNotHis_73 : decode cX0_dearestNotHis 73 = .ok (.iload 4, 2) := by decide +kernel
theorem dX0_dearestNotHis_75 : decode cX0_dearestNotHis 75 = .ok (.ireturn, 1) := by decide +kernel
theorem dX1_answer_0 : decode cX1_answer 0 = .ok (.aload_n 0, 1) := by decide +kernel
theorem dX1_answer_1 : decode cX1_answer 1 = .ok (.getfield 22, 3) := by decide +kernel
theorem dX1_answer_4 : decode cX1_answer 4 = .ok (.iconst (-1), 1) := by decide +kernel
theorem dX1_answer_5 : decode cX1_answer 5 = .ok (.if_icmp .eq 8, 3) := by decide +kernel
theorem dX1_answer_8 : decode cX1_answer 8 = .ok (.iload_n 1, 1) := by decide +kernel
theorem dX1_answer_9 : decode cX1_answer 9 = .ok (.iconst (-1), 1) := by decide +kernel
theorem dX1_answer_10 : decode cX1_answer 10 = .ok (.if_icmp .ne 8, 3) := by decide +kernel
theorem dX1_answer_13 : decode cX1_answer 13 = .ok (.aload_n 0, 1) := by decide +kernel
theorem dX1_answer_14 : decode cX1_answer 14 = .ok (.getfield 22, 3) := by decide +kernel
theorem dX1_answer_17 : decode cX1_answer 17 = .ok (.ireturn, 1) := by decide +kernel
theorem dX1_answer_18 : decode cX1_answer 18 = .ok (.iload_n 1, 1) := by decide +kernel
theorem dX1_answer_19 : decode cX1_answer 19 = .ok (.ifCond .lt 20, 3) := by decide +kernel
theorem dX1_answer_22 : decode cX1_answer 22 = .ok (.iload_n 1, 1) := by decide +kernel
theorem dX1_answer_23 : decode cX1_answer 23 = .ok (.aload_n 0, 1) := by decide +kernel
theorem dX1_answer_24 : decode cX1_answer 24 = .ok (.getfield 22, 3) := by decide +kernel
theorem dX1_answer_27 : decode cX1_answer 27 = .ok (.if_icmp .ge 12, 3) := by decide +kernel
theorem dX1_answer_30 : decode cX1_answer 30 = .ok (.aload_n 0, 1) := by decide +kernel
theorem dX1_answer_31 : decode cX1_answer 31 = .ok (.getfield 15, 3) := by decide +kernel
theorem dX1_answer_34 : decode cX1_answer 34 = .ok (.iload_n 1, 1) := by decide +kernel
theorem dX1_answer_35 : decode cX1_answer 35 = .ok (.iaload, 1) := by decide +kernel
theorem dX1_answer_36 : decode cX1_answer 36 = .ok (.goto 4, 3) := by decide +kernel
theorem dX1_answer_39 : decode cX1_answer 39 = .ok (.iconst (-1), 1) := by decide +kernel
theorem dX1_answer_40 : decode cX1_answer 40 = .ok (.ireturn, 1) := by decide +kernel
theorem dX1_noteRun_0 : decode cX1_noteRun 0 = .ok (.iload_n 1, 1) := by decide +kernel
theorem dX1_noteRun_1 : decode cX1_noteRun 1 = .ok (.bipush 40, 2) := by decide +kernel
theorem dX1_noteRun_3 : decode cX1_noteRun 3 = .ok (.if_icmp .ge 29, 3) := by decide +kernel
theorem dX1_noteRun_6 : decode cX1_noteRun 6 = .ok (.aload_n 0, 1) := by decide +kernel
theorem dX1_noteRun_7 : decode cX1_noteRun 7 = .ok (.getfield 9, 3) := by decide +kernel
theorem dX1_noteRun_10 : decode cX1_noteRun 10 = .ok (.iload_n 1, 1) := by decide +kernel
theorem dX1_noteRun_11 : decode cX1_noteRun 11 = .ok (.iaload, 1) := by decide +kernel
theorem dX1_noteRun_12 : decode cX1_noteRun 12 = .ok (.ifCond .eq 13, 3) := by decide +kernel
theorem dX1_noteRun_15 : decode cX1_noteRun 15 = .ok (.iload_n 2, 1) := by decide +kernel
theorem dX1_noteRun_16 : decode cX1_noteRun 16 = .ok (.aload_n 0, 1) := by decide +kernel
theorem dX1_noteRun_17 : decode cX1_noteRun 17 = .ok (.getfield 9, 3) := by decide +kernel
theorem dX1_noteRun_20 : decode cX1_noteRun 20 = .ok (.iload_n 1, 1) := by decide +kernel
theorem dX1_noteRun_21 : decode cX1_noteRun 21 = .ok (.iaload, 1) := by decide +kernel
theorem dX1_noteRun_22 : decode cX1_noteRun 22 = .ok (.if_icmp .ge 10, 3) := by decide +kernel
theorem dX1_noteRun_25 : decode cX1_noteRun 25 = .ok (.aload_n 0, 1) := by decide +kernel
theorem dX1_noteRun_26 : decode cX1_noteRun 26 = .ok (.getfield 9, 3) := by decide +kernel
theorem dX1_noteRun_29 : decode cX1_noteRun 29 = .ok (.iload_n 1, 1) := by decide +kernel
theorem dX1_noteRun_30 : decode cX1_noteRun 30 = .ok (.iload_n 2, 1) := by decide +kernel
theorem dX1_noteRun_31 : decode cX1_noteRun 31 = .ok (.iastore, 1) := by decide +kernel
theorem dX1_noteRun_32 : decode cX1_noteRun 32 = .ok (.return_, 1) := by decide +kernel
theorem dX1_firstUncovered_0 : decode cX1_firstUncovered 0 = .ok (.iload_n 1, 1) := by decide +kernel
theorem dX1_firstUncovered_1 : decode cX1_firstUncovered 1 = .ok (.iconst 1, 1) := by decide +kernel
theorem dX1_firstUncovered_2 : decode cX1_firstUncovered 2 = .ok (.iadd, 1) := by decide +kernel
theorem dX1_firstUncovered_3 : decode cX1_firstUncovered 3 = .ok (.istore_n 2, 1) := by decide +kernel
theorem dX1_firstUncovered_4 : decode cX1_firstUncovered 4 = .ok (.iload_n 2, 1) := by decide +kernel
theorem dX1_firstUncovered_5 : decode cX1_firstUncovered 5 = .ok (.bipush 40, 2) := by decide +kernel
theorem dX1_firstUncovered_7 : decode cX1_firstUncovered 7 = .ok (.if_icmp .ge 34, 3) := by decide +kernel
theorem dX1_firstUncovered_10 : decode cX1_firstUncovered 10 = .ok (.aload_n 0, 1) := by decide +kernel
theorem dX1_firstUncovered_11 : decode cX1_firstUncovered 11 = .ok (.getfield 9, 3) := by decide +kernel
theorem dX1_firstUncovered_14 : decode cX1_firstUncovered 14 = .ok (.iload_n 2, 1) := by decide +kernel
theorem dX1_firstUncovered_15 : decode cX1_firstUncovered 15 = .ok (.iaload, 1) := by decide +kernel
theorem dX1_firstUncovered_16 : decode cX1_firstUncovered 16 = .ok (.ifCond .le 19, 3) := by decide +kernel
theorem dX1_firstUncovered_19 : decode cX1_firstUncovered 19 = .ok (.iload_n 2, 1) := by decide +kernel
theorem dX1_firstUncovered_20 : decode cX1_firstUncovered 20 = .ok (.aload_n 0, 1) := by decide +kernel
theorem dX1_firstUncovered_21 : decode cX1_firstUncovered 21 = .ok (.getfield 9, 3) := by decide +kernel
theorem dX1_firstUncovered_24 : decode cX1_firstUncovered 24 = .ok (.iload_n 2, 1) := by decide +kernel
theorem dX1_firstUncovered_25 : decode cX1_firstUncovered 25 = .ok (.iaload, 1) := by decide +kernel
theorem dX1_firstUncovered_26 : decode cX1_firstUncovered 26 = .ok (.isub, 1) := by decide +kernel
theorem dX1_firstUncovered_27 : decode cX1_firstUncovered 27 = .ok (.iconst 1, 1) := by decide +kernel
theorem dX1_firstUncovered_28 : decode cX1_firstUncovered 28 = .ok (.iadd, 1) := by decide +kernel
theorem dX1_firstUncovered_29 : decode cX1_firstUncovered 29 = .ok (.iload_n 1, 1) := by decide +kernel
theorem dX1_firstUncovered_30 : decode cX1_firstUncovered 30 = .ok (.if_icmp .le 5, 3) := by decide +kernel
theorem dX1_firstUncovered_33 : decode cX1_firstUncovered 33 = .ok (.iload_n 2, 1) := by decide +kernel
theorem dX1_firstUncovered_34 : decode cX1_firstUncovered 34 = .ok (.ireturn, 1) := by decide +kernel
theorem dX1_firstUncovered_35 : decode cX1_firstUncovered 35 = .ok (.iinc 2 1, 3) := by decide +kernel
theorem dX1_firstUncovered_38 : decode cX1_firstUncovered 38 = .ok (.goto (-34), 3) := by decide +kernel
theorem dX1_firstUncovered_41 : decode cX1_firstUncovered 41 = .ok (.iconst (-1), 1) := by decide +kernel
theorem dX1_firstUncovered_42 : decode cX1_firstUncovered 42 = .ok (.ireturn, 1) := by decide +kernel
theorem dX2_append_0 : decode cX2_append 0 = .ok (.aload_n 0, 1) := by decide +kernel
theorem dX2_append_1 : decode cX2_append 1 = .ok (.getfield 20, 3) := by decide +kernel
theorem dX2_append_4 : decode cX2_append 4 = .ok (.aload_n 0, 1) := by decide +kernel
theorem dX2_append_5 : decode cX2_append 5 = .ok (.getfield 7, 3) := by decide +kernel
theorem dX2_append_8 : decode cX2_append 8 = .ok (.if_icmp .lt 4, 3) := by decide +kernel
theorem dX2_append_11 : decode cX2_append 11 = .ok (.return_, 1) := by decide +kernel
theorem dX2_append_12 : decode cX2_append 12 = .ok (.aload_n 0, 1) := by decide +kernel
theorem dX2_append_13 : decode cX2_append 13 = .ok (.getfield 13, 3) := by decide +kernel
theorem dX2_append_16 : decode cX2_append 16 = .ok (.aload_n 0, 1) := by decide +kernel
theorem dX2_append_17 : decode cX2_append 17 = .ok (.getfield 20, 3) := by decide +kernel
theorem dX2_append_20 : decode cX2_append 20 = .ok (.iload_n 1, 1) := by decide +kernel
theorem dX2_append_21 : decode cX2_append 21 = .ok (.iastore, 1) := by decide +kernel
theorem dX2_append_22 : decode cX2_append 22 = .ok (.aload_n 0, 1) := by decide +kernel
theorem dX2_append_23 : decode cX2_append 23 = .ok (.getfield 17, 3) := by decide +kernel
theorem dX2_append_26 : decode cX2_append 26 = .ok (.aload_n 0, 1) := by decide +kernel
theorem dX2_append_27 : decode cX2_append 27 = .ok (.getfield 20, 3) := by decide +kernel
theorem dX2_append_30 : decode cX2_append 30 = .ok (.iconst 3, 1) := by decide +kernel
theorem dX2_append_31 : decode cX2_append 31 = .ok (.imul, 1) := by decide +kernel
theorem dX2_append_32 : decode cX2_append 32 = .ok (.iload_n 2, 1) := by decide +kernel
theorem dX2_append_33 : decode cX2_append 33 = .ok (.iastore, 1) := by decide +kernel
theorem dX2_append_34 : decode cX2_append 34 = .ok (.aload_n 0, 1) := by decide +kernel
theorem dX2_append_35 : decode cX2_append 35 = .ok (.getfield 17, 3) := by decide +kernel
theorem dX2_append_38 : decode cX2_append 38 = .ok (.aload_n 0, 1) := by decide +kernel
theorem dX2_append_39 : decode cX2_append 39 = .ok (.getfield 20, 3) := by decide +kernel
theorem dX2_append_42 : decode cX2_append 42 = .ok (.iconst 3, 1) := by decide +kernel
theorem dX2_append_43 : decode cX2_append 43 = .ok (.imul, 1) := by decide +kernel
theorem dX2_append_44 : decode cX2_append 44 = .ok (.iconst 1, 1) := by decide +kernel
theorem dX2_append_45 : decode cX2_append 45 = .ok (.iadd, 1) := by decide +kernel
theorem dX2_append_46 : decode cX2_append 46 = .ok (.iload_n 3, 1) := by decide +kernel
theorem dX2_append_47 : decode cX2_append 47 = .ok (.iastore, 1) := by decide +kernel
theorem dX2_append_48 : decode cX2_append 48 = .ok (.aload_n 0, 1) := by decide +kernel
theorem dX2_append_49 : decode cX2_append 49 = .ok (.getfield 17, 3) := by decide +kernel
theorem dX2_append_52 : decode cX2_append 52 = .ok (.aload_n 0, 1) := by decide +kernel
theorem dX2_append_53 : decode cX2_append 53 = .ok (.getfield 20, 3) := by decide +kernel
theorem dX2_append_56 : decode cX2_append 56 = .ok (.iconst 3, 1) := by decide +kernel
theorem dX2_append_57 : decode cX2_append 57 = .ok (.imul, 1) := by decide +kernel
theorem dX2_append_58 : decode cX2_append 58 = .ok (.iconst 2, 1) := by decide +kernel
theorem dX2_append_59 : decode cX2_append 59 = .ok (.iadd, 1) := by decide +kernel
theorem dX2_append_60 : decode cX2_append 60 = .ok (.iload 4, 2) := by decide +kernel
theorem dX2_append_62 : decode cX2_append 62 = .ok (.iastore, 1) := by decide +kernel
theorem dX2_append_63 : decode cX2_append 63 = .ok (.aload_n 0, 1) := by decide +kernel
theorem dX2_append_64 : decode cX2_append 64 = .ok (.dup, 1) := by decide +kernel
theorem dX2_append_65 : decode cX2_append 65 = .ok (.getfield 20, 3) := by decide +kernel
theorem dX2_append_68 : decode cX2_append 68 = .ok (.iconst 1, 1) := by decide +kernel
theorem dX2_append_69 : decode cX2_append 69 = .ok (.iadd, 1) := by decide +kernel
theorem dX2_append_70 : decode cX2_append 70 = .ok (.putfield 20, 3) := by decide +kernel
theorem dX2_append_73 : decode cX2_append 73 = .ok (.return_, 1) := by decide +kernel
theorem dX2_number_0 : decode cX2_number 0 = .ok (.aload_n 0, 1) := by decide +kernel
theorem dX2_number_1 : decode cX2_number 1 = .ok (.getfield 17, 3) := by decide +kernel
theorem dX2_number_4 : decode cX2_number 4 = .ok (.iload_n 1, 1) := by decide +kernel
theorem dX2_number_5 : decode cX2_number 5 = .ok (.iconst 3, 1) := by decide +kernel
theorem dX2_number_6 : decode cX2_number 6 = .ok (.imul, 1) := by decide +kernel
theorem dX2_number_7 : decode cX2_number 7 = .ok (.iload_n 2, 1) := by decide +kernel
theorem dX2_number_8 : decode cX2_number 8 = .ok (.iadd, 1) := by decide +kernel
theorem dX2_number_9 : decode cX2_number 9 = .ok (.iaload, 1) := by decide +kernel
theorem dX2_number_10 : decode cX2_number 10 = .ok (.ireturn, 1) := by decide +kernel
theorem dX3_isFreeOf_0 : decode cX3_isFreeOf 0 = .ok (.aload_n 0, 1) := by decide +kernel
theorem dX3_isFreeOf_1 : decode cX3_isFreeOf 1 = .ok (.getfield 12, 3) := by decide +kernel
theorem dX3_isFreeOf_4 : decode cX3_isFreeOf 4 = .ok (.getfield 92, 3) := by decide +kernel
theorem dX3_isFreeOf_7 : decode cX3_isFreeOf 7 = .ok (.iload_n 2, 1) := by decide +kernel
theorem dX3_isFreeOf_8 : decode cX3_isFreeOf 8 = .ok (.iaload, 1) := by decide +kernel
theorem dX3_isFreeOf_9 : decode cX3_isFreeOf 9 = .ok (.iload_n 1, 1) := by decide +kernel
theorem dX3_isFreeOf_10 : decode cX3_isFreeOf 10 = .ok (.if_icmp .ne 16, 3) := by decide +kernel
theorem dX3_isFreeOf_13 : decode cX3_isFreeOf 13 = .ok (.aload_n 0, 1) := by decide +kernel
theorem dX3_isFreeOf_14 : decode cX3_isFreeOf 14 = .ok (.getfield 18, 3) := by decide +kernel
theorem dX3_isFreeOf_17 : decode cX3_isFreeOf 17 = .ok (.iload_n 2, 1) := by decide +kernel
theorem dX3_isFreeOf_18 : decode cX3_isFreeOf 18 = .ok (.baload, 1) := by decide +kernel
theorem dX3_isFreeOf_19 : decode cX3_isFreeOf 19 = .ok (.ifCond .ne 7, 3) := by decide +kernel
theorem dX3_isFreeOf_22 : decode cX3_isFreeOf 22 = .ok (.iconst 1, 1) := by decide +kernel
theorem dX3_isFreeOf_23 : decode cX3_isFreeOf 23 = .ok (.goto 4, 3) := by decide +kernel
theorem dX3_isFreeOf_26 : decode cX3_isFreeOf 26 = .ok (.iconst 0, 1) := by decide +kernel
theorem dX3_isFreeOf_27 : decode cX3_isFreeOf 27 = .ok (.ireturn, 1) := by decide +kernel
theorem dX3_moveTo_0 : decode cX3_moveTo 0 = .ok (.aload_n 0, 1) := by decide +kernel
theorem dX3_moveTo_1 : decode cX3_moveTo 1 = .ok (.getfield 12, 3) := by decide +kernel
theorem dX3_moveTo_4 : decode cX3_moveTo 4 = .ok (.getfield 92, 3) := by decide +kernel
theorem dX3_moveTo_7 : decode cX3_moveTo 7 = .ok (.iload_n 1, 1) := by decide +kernel
theorem dX3_moveTo_8 : decode cX3_moveTo 8 = .ok (.iload_n 2, 1) := by decide +kernel
theorem dX3_moveTo_9 : decode cX3_moveTo 9 = .ok (.iastore, 1) := by decide +kernel
theorem dX3_moveTo_10 : decode cX3_moveTo 10 = .ok (.aload_n 0, 1) := by decide +kernel
theorem dX3_moveTo_11 : decode cX3_moveTo 11 = .ok (.getfield 29, 3) := by decide +kernel
theorem dX3_moveTo_14 : decode cX3_moveTo 14 = .ok (.iload_n 1, 1) := by decide +kernel
theorem dX3_moveTo_15 : decode cX3_moveTo 15 = .ok (.dup2, 1) := by decide +kernel
theorem dX3_moveTo_16 : decode cX3_moveTo 16 = .ok (.iaload, 1) := by decide +kernel
theorem dX3_moveTo_17 : decode cX3_moveTo 17 = .ok (.iconst 1, 1) := by decide +kernel
theorem dX3_moveTo_18 : decode cX3_moveTo 18 = .ok (.iadd, 1) := by decide +kernel
theorem dX3_moveTo_19 : decode cX3_moveTo 19 = .ok (.iastore, 1) := by decide +kernel
theorem dX3_moveTo_20 : decode cX3_moveTo 20 = .ok (.return_, 1) := by decide +kernel
theorem dX3_kindDrawn_0 : decode cX3_kindDrawn 0 = .ok (.iload_n 0, 1) := by decide +kernel
theorem dX3_kindDrawn_1 : decode cX3_kindDrawn 1 = .ok (.tableswitch 50 3 7 #[35, 38, 41, 44, 47], 35) := by decide +kernel
theorem dX3_kindDrawn_36 : decode cX3_kindDrawn 36 = .ok (.bipush 9, 2) := by decide +kernel
theorem dX3_kindDrawn_38 : decode cX3_kindDrawn 38 = .ok (.ireturn, 1) := by decide +kernel
theorem dX3_kindDrawn_39 : decode cX3_kindDrawn 39 = .ok (.bipush 8, 2) := by decide +kernel
theorem dX3_kindDrawn_41 : decode cX3_kindDrawn 41 = .ok (.ireturn, 1) := by decide +kernel
theorem dX3_kindDrawn_42 : decode cX3_kindDrawn 42 = .ok (.bipush 7, 2) := by decide +kernel
theorem dX3_kindDrawn_44 : decode cX3_kindDrawn 44 = .ok (.ireturn, 1) := by decide +kernel
theorem dX3_kindDrawn_45 : decode cX3_kindDrawn 45 = .ok (.bipush 10, 2) := by decide +kernel
theorem dX3_kindDrawn_47 : decode cX3_kindDrawn 47 = .ok (.ireturn, 1) := by decide +kernel
theorem dX3_kindDrawn_48 : decode cX3_kindDrawn 48 = .ok (.bipush 11, 2) := by decide +kernel
theorem dX3_kindDrawn_50 : decode cX3_kindDrawn 50 = .ok (.ireturn, 1) := by decide +kernel
theorem dX3_kindDrawn_51 : decode cX3_kindDrawn 51 = .ok (.bipush 6, 2) := by decide +kernel
theorem dX3_kindDrawn_53 : decode cX3_kindDrawn 53 = .ok (.ireturn, 1) := by decide +kernel
theorem dX3_draw_0 : decode cX3_draw 0 = .ok (.aload_n 0, 1) := by decide +kernel
theorem dX3_draw_1 : decode cX3_draw 1 = .ok (.aload_n 0, 1) := by decide +kernel
theorem dX3_draw_2 : decode cX3_draw 2 = .ok (.getfield 131, 3) := by decide +kernel
theorem dX3_draw_5 : decode cX3_draw 5 = .ok (.ldc 153, 2) := by decide +kernel
theorem dX3_draw_7 : decode cX3_draw 7 = .ok (.imul, 1) := by decide +kernel
theorem dX3_draw_8 : decode cX3_draw 8 = .ok (.sipush 12345, 3) := by decide +kernel
theorem dX3_draw_11 : decode cX3_draw 11 = .ok (.iadd, 1) := by decide +kernel
theorem dX3_draw_12 : decode cX3_draw 12 = .ok (.putfield 131, 3) := by decide +kernel
theorem dX3_draw_15 : decode cX3_draw 15 = .ok (.iload_n 1, 1) := by decide +kernel
theorem dX3_draw_16 : decode cX3_draw 16 = .ok (.ifCond .le 15, 3) := by decide +kernel
theorem dX3_draw_19 : decode cX3_draw 19 = .ok (.aload_n 0, 1) := by decide +kernel
theorem dX3_draw_20 : decode cX3_draw 20 = .ok (.getfield 131, 3) := by decide +kernel
theorem dX3_draw_23 : decode cX3_draw 23 = .ok (.bipush 16, 2) := by decide +kernel
theorem dX3_draw_25 : decode cX3_draw 25 = .ok (.iushr, 1) := by decide +kernel
theorem dX3_draw_26 : decode cX3_draw 26 = .ok (.iload_n 1, 1) := by decide +kernel
theorem dX3_draw_27 : decode cX3_draw 27 = .ok (.irem, 1) := by decide +kernel
theorem dX3_draw_28 : decode cX3_draw 28 = .ok (.goto 4, 3) := by decide +kernel
theorem dX3_draw_31 : decode cX3_draw 31 = .ok (.iconst 0, 1) := by decide +kernel
theorem dX3_draw_32 : decode cX3_draw 32 = .ok (.ireturn, 1) := by decide +kernel
theorem dX3_usedMinutes_0 : decode cX3_usedMinutes 0 = .ok (.iconst 0, 1) := by decide +kernel
theorem dX3_usedMinutes_1 : decode cX3_usedMinutes 1 = .ok (.istore_n 1, 1) := by decide +kernel
theorem dX3_usedMinutes_2 : decode cX3_usedMinutes 2 = .ok (.iconst 0, 1) := by decide +kernel
theorem dX3_usedMinutes_3 : decode cX3_usedMinutes 3 = .ok (.istore_n 2, 1) := by decide +kernel
theorem dX3_usedMinutes_4 : decode cX3_usedMinutes 4 = .ok (.iload_n 2, 1) := by decide +kernel
theorem dX3_usedMinutes_5 : decode cX3_usedMinutes 5 = .ok (.aload_n 0, 1) := by decide +kernel
theorem dX3_usedMinutes_6 : decode cX3_usedMinutes 6 = .ok (.getfield 12, 3) := by decide +kernel
theorem dX3_usedMinutes_9 : decode cX3_usedMinutes 9 = .ok (.getfield 128, 3) := by decide +kernel
theorem dX3_usedMinutes_12 : decode cX3_usedMinutes 12 = .ok (.if_icmp .ge 21, 3) := by decide +kernel
theorem dX3_usedMinutes_15 : decode cX3_usedMinutes 15 = .ok (.aload_n 0, 1) := by decide +kernel
theorem dX3_usedMinutes_16 : decode cX3_usedMinutes 16 = .ok (.getfield 18, 3) := by decide +kernel
theorem dX3_usedMinutes_19 : decode cX3_usedMinutes 19 = .ok (.iload_n 2, 1) := by decide +kernel
theorem dX3_usedMinutes_20 : decode cX3_usedMinutes 20 = .ok (.baload, 1) := by decide +kernel
theorem dX3_usedMinutes_21 : decode cX3_usedMinutes 21 = .ok (.ifCond .eq 6, 3) := by decide +kernel
theorem dX3_usedMinutes_24 : decode cX3_usedMinutes 24 = .ok (.iinc 1 1, 3) := by decide +kernel
theorem dX3_usedMinutes_27 : decode cX3_usedMinutes 27 = .ok (.iinc 2 1, 3) := by decide +kernel
theorem dX3_usedMinutes_30 : decode cX3_usedMinutes 30 = .ok (.goto (-26), 3) := by decide +kernel
theorem dX3_usedMinutes_33 : decode cX3_usedMinutes 33 = .ok (.iload_n 1, 1) := by decide +kernel
theorem dX3_usedMinutes_34 : decode cX3_usedMinutes 34 = .ok (.ireturn, 1) := by decide +kernel
theorem dX3_doneBusiness_0 : decode cX3_doneBusiness 0 = .ok (.iconst 0, 1) := by decide +kernel
theorem dX3_doneBusiness_1 : decode cX3_doneBusiness 1 = .ok (.istore_n 1, 1) := by decide +kernel
theorem dX3_doneBusiness_2 : decode cX3_doneBusiness 2 = .ok (.iconst 0, 1) := by decide +kernel
theorem dX3_doneBusiness_3 : decode cX3_doneBusiness 3 = .ok (.istore_n 2, 1) := by decide +kernel
theorem dX3_doneBusiness_4 : decode cX3_doneBusiness 4 = .ok (.iload_n 2, 1) := by decide +kernel
theorem dX3_doneBusiness_5 : decode cX3_doneBusiness 5 = .ok (.aload_n 0, 1) := by decide +kernel
theorem dX3_doneBusiness_6 : decode cX3_doneBusiness 6 = .ok (.getfield 12, 3) := by decide +kernel
theorem dX3_doneBusiness_9 : decode cX3_doneBusiness 9 = .ok (.getfield 150, 3) := by decide +kernel
theorem dX3_doneBusiness_12 : decode cX3_doneBusiness 12 = .ok (.if_icmp .ge 22, 3) := by decide +kernel
theorem dX3_doneBusiness_15 : decode cX3_doneBusiness 15 = .ok (.aload_n 0, 1) := by decide +kernel
theorem dX3_doneBusiness_16 : decode cX3_doneBusiness 16 = .ok (.getfield 22, 3) := by decide +kernel
theorem dX3_doneBusiness_19 : decode cX3_doneBusiness 19 = .ok (.iload_n 2, 1) := by decide +kernel
theorem dX3_doneBusiness_20 : decode cX3_doneBusiness 20 = .ok (.iaload, 1) := by decide +kernel
theorem dX3_doneBusiness_21 : decode cX3_doneBusiness 21 = .ok (.iconst (-1), 1) := by decide +kernel
theorem dX3_doneBusiness_22 : decode cX3_doneBusiness 22 = .ok (.if_icmp .eq 6, 3) := by decide +kernel
theorem dX3_doneBusiness_25 : decode cX3_doneBusiness 25 = .ok (.iinc 1 1, 3) := by decide +kernel
theorem dX3_doneBusiness_28 : decode cX3_doneBusiness 28 = .ok (.iinc 2 1, 3) := by decide +kernel
theorem dX3_doneBusiness_31 : decode cX3_doneBusiness 31 = .ok (.goto (-27), 3) := by decide +kernel
theorem dX3_doneBusiness_34 : decode cX3_doneBusiness 34 = .ok (.iload_n 1, 1) := by decide +kernel
theorem dX3_doneBusiness_35 : decode cX3_doneBusiness 35 = .ok (.ireturn, 1) := by decide +kernel
theorem dX3_allCoins_0 : decode cX3_allCoins 0 = .ok (.iconst 0, 1) := by decide +kernel
theorem dX3_allCoins_1 : decode cX3_allCoins 1 = .ok (.istore_n 1, 1) := by decide +kernel
theorem dX3_allCoins_2 : decode cX3_allCoins 2 = .ok (.iconst 0, 1) := by decide +kernel
theorem dX3_allCoins_3 : decode cX3_allCoins 3 = .ok (.istore_n 2, 1) := by decide +kernel
theorem dX3_allCoins_4 : decode cX3_allCoins 4 = .ok (.iload_n 2, 1) := by decide +kernel
theorem dX3_allCoins_5 : decode cX3_allCoins 5 = .ok (.aload_n 0, 1) := by decide +kernel
theorem dX3_allCoins_6 : decode cX3_allCoins 6 = .ok (.getfield 12, 3) := by decide +kernel
theorem dX3_allCoins_9 : decode cX3_allCoins 9 = .ok (.getfield 147, 3) := by decide +kernel
theorem dX3_allCoins_12 : decode cX3_allCoins 12 = .ok (.if_icmp .ge 21, 3) := by decide +kernel
theorem dX3_allCoins_15 : decode cX3_allCoins 15 = .ok (.iload_n 1, 1) := by decide +kernel
theorem dX3_allCoins_16 : decode cX3_allCoins 16 = .ok (.aload_n 0, 1) := by decide +kernel
theorem dX3_allCoins_17 : decode cX3_allCoins 17 = .ok (.getfield 12, 3) := by decide +kernel
theorem dX3_allCoins_20 : decode cX3_allCoins 20 = .ok (.getfield 101, 3) := by decide +kernel
theorem dX3_allCoins_23 : decode cX3_allCoins 23 = .ok (.iload_n 2, 1) := by decide +kernel
theorem dX3_allCoins_24 : decode cX3_allCoins 24 = .ok (.iaload, 1) := by decide +kernel
theorem dX3_allCoins_25 : decode cX3_allCoins 25 = .ok (.iadd, 1) := by decide +kernel
theorem dX3_allCoins_26 : decode cX3_allCoins 26 = .ok (.istore_n 1, 1) := by decide +kernel
theorem dX3_allCoins_27 : decode cX3_allCoins 27 = .ok (.iinc 2 1, 3) := by decide +kernel
theorem dX3_allCoins_30 : decode cX3_allCoins 30 = .ok (.goto (-26), 3) := by decide +kernel
theorem dX3_allCoins_33 : decode cX3_allCoins 33 = .ok (.iload_n 1, 1) := by decide +kernel
theorem dX3_allCoins_34 : decode cX3_allCoins 34 = .ok (.ireturn, 1) := by decide +kernel
theorem dX3_richest_0 : decode cX3_richest 0 = .ok (.iconst 0, 1) := by decide +kernel
theorem dX3_richest_1 : decode cX3_richest 1 = .ok (.istore_n 1, 1) := by decide +kernel
theorem dX3_richest_2 : decode cX3_richest 2 = .ok (.iconst 1, 1) := by decide +kernel
theorem dX3_richest_3 : decode cX3_richest 3 = .ok (.istore_n 2, 1) := by decide +kernel
theorem dX3_richest_4 : decode cX3_richest 4 = .ok (.iload_n 2, 1) := by decide +kernel
theorem dX3_richest_5 : decode cX3_richest 5 = .ok (.aload_n 0, 1) := by decide +kernel
theorem dX3_richest_6 : decode cX3_richest 6 = .ok (.getfield 12, 3) := by decide +kernel
theorem dX3_richest_9 : decode cX3_richest 9 = .ok (.getfield 147, 3) := by decide +kernel
theorem dX3_richest_12 : decode cX3_richest 12 = .ok (.if_icmp .ge 32, 3) := by decide +kernel
theorem dX3_richest_15 : decode cX3_richest 15 = .ok (.aload_n 0, 1) := by decide +kernel
theorem dX3_richest_16 : decode cX3_richest 16 = .ok (.getfield 12, 3) := by decide +kernel
theorem dX3_richest_19 : decode cX3_richest 19 = .ok (.getfield 101, 3) := by decide +kernel
theorem dX3_richest_22 : decode cX3_richest 22 = .ok (.iload_n 2, 1) := by decide +kernel
theorem dX3_richest_23 : decode cX3_richest 23 = .ok (.iaload, 1) := by decide +kernel
theorem dX3_richest_24 : decode cX3_richest 24 = .ok (.aload_n 0, 1) := by decide +kernel
theorem dX3_richest_25 : decode cX3_richest 25 = .ok (.getfield 12, 3) := by decide +kernel
theorem dX3_richest_28 : decode cX3_richest 28 = .ok (.getfield 101, 3) := by decide +kernel
theorem dX3_richest_31 : decode cX3_richest 31 = .ok (.iload_n 1, 1) := by decide +kernel
theorem dX3_richest_32 : decode cX3_richest 32 = .ok (.iaload, 1) := by decide +kernel
theorem dX3_richest_33 : decode cX3_richest 33 = .ok (.if_icmp .le 5, 3) := by decide +kernel
theorem dX3_richest_36 : decode cX3_richest 36 = .ok (.iload_n 2, 1) := by decide +kernel
theorem dX3_richest_37 : decode cX3_richest 37 = .ok (.istore_n 1, 1) := by decide +kernel
theorem dX3_richest_38 : decode cX3_richest 38 = .ok (.iinc 2 1, 3) := by decide +kernel
theorem dX3_richest_41 : decode cX3_richest 41 = .ok (.goto (-37), 3) := by decide +kernel
theorem dX3_richest_44 : decode cX3_richest 44 = .ok (.iload_n 1, 1) := by decide +kernel
theorem dX3_richest_45 : decode cX3_richest 45 = .ok (.ireturn, 1) := by decide +kernel
theorem dX3_victim_0 : decode cX3_victim 0 = .ok (.iconst (-1), 1) := by decide +kernel
theorem dX3_victim_1 : decode cX3_victim 1 = .ok (.istore_n 1, 1) := by decide +kernel
theorem dX3_victim_2 : decode cX3_victim 2 = .ok (.iconst 0, 1) := by decide +kernel
theorem dX3_victim_3 : decode cX3_victim 3 = .ok (.istore_n 2, 1) := by decide +kernel
theorem dX3_victim_4 : decode cX3_victim 4 = .ok (.iconst 0, 1) := by decide +kernel
theorem dX3_victim_5 : decode cX3_victim 5 = .ok (.istore_n 3, 1) := by decide +kernel
theorem dX3_victim_6 : decode cX3_victim 6 = .ok (.iload_n 3, 1) := by decide +kernel
theorem dX3_victim_7 : decode cX3_victim 7 = .ok (.aload_n 0, 1) := by decide +kernel
theorem dX3_victim_8 : decode cX3_victim 8 = .ok (.getfield 12, 3) := by decide +kernel
theorem dX3_victim_11 : decode cX3_victim 11 = .ok (.getfield 147, 3) := by decide +kernel
theorem dX3_victim_14 : decode cX3_victim 14 = .ok (.if_icmp .ge 28, 3) := by decide +kernel
theorem dX3_victim_17 : decode cX3_victim 17 = .ok (.aload_n 0, 1) := by decide +kernel
theorem dX3_victim_18 : decode cX3_victim 18 = .ok (.getfield 26, 3) := by decide +kernel
theorem dX3_victim_21 : decode cX3_victim 21 = .ok (.iload_n 3, 1) := by decide +kernel
theorem dX3_victim_22 : decode cX3_victim 22 = .ok (.iaload, 1) := by decide +kernel
theorem dX3_victim_23 : decode cX3_victim 23 = .ok (.iload_n 2, 1) := by decide +kernel
theorem dX3_victim_24 : decode cX3_victim 24 = .ok (.if_icmp .le 12, 3) := by decide +kernel
theorem dX3_victim_27 : decode cX3_victim 27 = .ok (.aload_n 0, 1) := by decide +kernel
theorem dX3_victim_28 : decode cX3_victim 28 = .ok (.getfield 26, 3) := by decide +kernel
theorem dX3_victim_31 : decode cX3_victim 31 = .ok (.iload_n 3, 1) := by decide +kernel
theorem dX3_victim_32 : decode cX3_victim 32 = .ok (.iaload, 1) := by decide +kernel
theorem dX3_victim_33 : decode cX3_victim 33 = .ok (.istore_n 2, 1) := by decide +kernel
theorem dX3_victim_34 : decode cX3_victim 34 = .ok (.iload_n 3, 1) := by decide +kernel
theorem dX3_victim_35 : decode cX3_victim 35 = .ok (.istore_n 1, 1) := by decide +kernel
theorem dX3_victim_36 : decode cX3_victim 36 = .ok (.iinc 3 1, 3) := by decide +kernel
theorem dX3_victim_39 : decode cX3_victim 39 = .ok (.goto (-33), 3) := by decide +kernel
theorem dX3_victim_42 : decode cX3_victim 42 = .ok (.iload_n 1, 1) := by decide +kernel
theorem dX3_victim_43 : decode cX3_victim 43 = .ok (.ireturn, 1) := by decide +kernel
theorem dX3_restless_0 : decode cX3_restless 0 = .ok (.iconst (-1), 1) := by decide +kernel
theorem dX3_restless_1 : decode cX3_restless 1 = .ok (.istore_n 1, 1) := by decide +kernel
theorem dX3_restless_2 : decode cX3_restless 2 = .ok (.iconst 0, 1) := by decide +kernel
theorem dX3_restless_3 : decode cX3_restless 3 = .ok (.istore_n 2, 1) := by decide +kernel
theorem dX3_restless_4 : decode cX3_restless 4 = .ok (.iconst 0, 1) := by decide +kernel
theorem dX3_restless_5 : decode cX3_restless 5 = .ok (.istore_n 3, 1) := by decide +kernel
theorem dX3_restless_6 : decode cX3_restless 6 = .ok (.iload_n 3, 1) := by decide +kernel
theorem dX3_restless_7 : decode cX3_restless 7 = .ok (.aload_n 0, 1) := by decide +kernel
theorem dX3_restless_8 : decode cX3_restless 8 = .ok (.getfield 12, 3) := by decide +kernel
theorem dX3_restless_11 : decode cX3_restless 11 = .ok (.getfield 128, 3) := by decide +kernel
theorem dX3_restless_14 : decode cX3_restless 14 = .ok (.if_icmp .ge 28, 3) := by decide +kernel
theorem dX3_restless_17 : decode cX3_restless 17 = .ok (.aload_n 0, 1) := by decide +kernel
theorem dX3_restless_18 : decode cX3_restless 18 = .ok (.getfield 29, 3) := by decide +kernel
theorem dX3_restless_21 : decode cX3_restless 21 = .ok (.iload_n 3, 1) := by decide +kernel
theorem dX3_restless_22 : decode cX3_restless 22 = .ok (.iaload, 1) := by decide +kernel
theorem dX3_restless_23 : decode cX3_restless 23 = .ok (.iload_n 2, 1) := by decide +kernel
theorem dX3_restless_24 : decode cX3_restless 24 = .ok (.if_icmp .le 12, 3) := by decide +kernel
theorem dX3_restless_27 : decode cX3_restless 27 = .ok (.aload_n 0, 1) := by decide +kernel
theorem dX3_restless_28 : decode cX3_restless 28 = .ok (.getfield 29, 3) := by decide +kernel
theorem dX3_restless_31 : decode cX3_restless 31 = .ok (.iload_n 3, 1) := by decide +kernel
theorem dX3_restless_32 : decode cX3_restless 32 = .ok (.iaload, 1) := by decide +kernel
theorem dX3_restless_33 : decode cX3_restless 33 = .ok (.istore_n 2, 1) := by decide +kernel
theorem dX3_restless_34 : decode cX3_restless 34 = .ok (.iload_n 3, 1) := by decide +kernel
theorem dX3_restless_35 : decode cX3_restless 35 = .ok (.istore_n 1, 1) := by decide +kernel
theorem dX3_restless_36 : decode cX3_restless 36 = .ok (.iinc 3 1, 3) := by decide +kernel
theorem dX3_restless_39 : decode cX3_restless 39 = .ok (.goto (-33), 3) := by decide +kernel
theorem dX3_restless_42 : decode cX3_restless 42 = .ok (.iload_n 1, 1) := by decide +kernel
theorem dX3_restless_43 : decode cX3_restless 43 = .ok (.ireturn, 1) := by decide +kernel
theorem dX4_tellsOfMissing_0 : decode cX4_tellsOfMissing 0 = .ok (.iload_n 1, 1) := by decide +kernel
theorem dX4_tellsOfMissing_1 : decode cX4_tellsOfMissing 1 = .ok (.ifCond .ne 37, 3) := by decide +kernel
theorem dX4_tellsOfMissing_4 : decode cX4_tellsOfMissing 4 = .ok (.aload_n 0, 1) := by decide +kernel
theorem dX4_tellsOfMissing_5 : decode cX4_tellsOfMissing 5 = .ok (.getfield 84, 3) := by decide +kernel
theorem dX4_tellsOfMissing_8 : decode cX4_tellsOfMissing 8 = .ok (.aload_n 0, 1) := by decide +kernel
theorem dX4_tellsOfMissing_9 : decode cX4_tellsOfMissing 9 = .ok (.getfield 21, 3) := by decide +kernel
theorem dX4_tellsOfMissing_12 : decode cX4_tellsOfMissing 12 = .ok (.getfield 90, 3) := by decide +kernel
theorem dX4_tellsOfMissing_15 : decode cX4_tellsOfMissing 15 = .ok (.if_icmp .ge 17, 3) := by decide +kernel
theorem dX4_tellsOfMissing_18 : decode cX4_tellsOfMissing 18 = .ok (.aload_n 0, 1) := by decide +kernel
theorem dX4_tellsOfMissing_19 : decode cX4_tellsOfMissing 19 = .ok (.getfield 87, 3) := by decide +kernel
theorem dX4_tellsOfMissing_22 : decode cX4_tellsOfMissing 22 = .ok (.aload_n 0, 1) := by decide +kernel
theorem dX4_tellsOfMissing_23 : decode cX4_tellsOfMissing 23 = .ok (.getfield 21, 3) := by decide +kernel
theorem dX4_tellsOfMissing_26 : decode cX4_tellsOfMissing 26 = .ok (.getfield 93, 3) := by decide +kernel
theorem dX4_tellsOfMissing_29 : decode cX4_tellsOfMissing 29 = .ok (.if_icmp .lt 7, 3) := by decide +kernel
theorem dX4_tellsOfMissing_32 : decode cX4_tellsOfMissing 32 = .ok (.iconst 1, 1) := by decide +kernel
theorem dX4_tellsOfMissing_33 : decode cX4_tellsOfMissing 33 = .ok (.goto 4, 3) := by decide +kernel
theorem dX4_tellsOfMissing_36 : decode cX4_tellsOfMissing 36 = .ok (.iconst 0, 1) := by decide +kernel
theorem dX4_tellsOfMissing_37 : decode cX4_tellsOfMissing 37 = .ok (.ireturn, 1) := by decide +kernel
theorem dX4_tellsOfMissing_38 : decode cX4_tellsOfMissing 38 = .ok (.iload_n 1, 1) := by decide +kernel
theorem dX4_tellsOfMissing_39 : decode cX4_tellsOfMissing 39 = .ok (.iconst 3, 1) := by decide +kernel
theorem dX4_tellsOfMissing_40 : decode cX4_tellsOfMissing 40 = .ok (.if_icmp .ne 21, 3) := by decide +kernel
theorem dX4_tellsOfMissing_43 : decode cX4_tellsOfMissing 43 = .ok (.aload_n 0, 1) := by decide +kernel
theorem dX4_tellsOfMissing_44 : decode cX4_tellsOfMissing 44 = .ok (.getfield 87, 3) := by decide +kernel
theorem dX4_tellsOfMissing_47 : decode cX4_tellsOfMissing 47 = .ok (.aload_n 0, 1) := by decide +kernel
theorem dX4_tellsOfMissing_48 : decode cX4_tellsOfMissing 48 = .ok (.getfield 40, 3) := by decide +kernel
theorem dX4_tellsOfMissing_51 : decode cX4_tellsOfMissing 51 = .ok (.getfield 96, 3) := by decide +kernel
theorem dX4_tellsOfMissing_54 : decode cX4_tellsOfMissing 54 = .ok (.if_icmp .lt 7, 3) := by decide +kernel
theorem dX4_tellsOfMissing_57 : decode cX4_tellsOfMissing 57 = .ok (.iconst 1, 1) := by decide +kernel
theorem dX4_tellsOfMissing_58 : decode cX4_tellsOfMissing 58 = .ok (.goto 4, 3) := by decide +kernel
theorem dX4_tellsOfMissing_61 : decode cX4_tellsOfMissing 61 = .ok (.iconst 0, 1) := by decide +kernel
theorem dX4_tellsOfMissing_62 : decode cX4_tellsOfMissing 62 = .ok (.ireturn, 1) := by decide +kernel
theorem dX4_note_0 : decode cX4_note 0 = .ok (.aload_n 0, 1) := by decide +kernel
theorem dX4_note_1 : decode cX4_note 1 = .ok (.getfield 59, 3) := by decide +kernel
theorem dX4_note_4 : decode cX4_note 4 = .ok (.ifCond .ne 13, 3) := by decide +kernel
theorem dX4_note_7 : decode cX4_note 7 = .ok (.aload_n 0, 1) := by decide +kernel
theorem dX4_note_8 : decode cX4_note 8 = .ok (.iload_n 1, 1) := by decide +kernel
theorem dX4_note_9 : decode cX4_note 9 = .ok (.putfield 59, 3) := by decide +kernel
theorem dX4_note_12 : decode cX4_note 12 = .ok (.aload_n 0, 1) := by decide +kernel
theorem dX4_note_13 : decode cX4_note 13 = .ok (.iload_n 2, 1) := by decide +kernel
theorem dX4_note_14 : decode cX4_note 14 = .ok (.putfield 78, 3) := by decide +kernel
theorem dX4_note_17 : decode cX4_note 17 = .ok (.return_, 1) := by decide +kernel
theorem dX4_stopReading_0 : decode cX4_stopReading 0 = .ok (.aload_n 0, 1) := by decide +kernel
theorem dX4_stopReading_1 : decode cX4_stopReading 1 = .ok (.iconst 1, 1) := by decide +kernel
theorem dX4_stopReading_2 : decode cX4_stopReading 2 = .ok (.putfield 59, 3) := by decide +kernel
theorem dX4_stopReading_5 : decode cX4_stopReading 5 = .ok (.aload_n 0, 1) := by decide +kernel
theorem dX4_stopReading_6 : decode cX4_stopReading 6 = .ok (.aload_n 0, 1) := by decide +kernel
theorem dX4_stopReading_7 : decode cX4_stopReading 7 = .ok (.getfield 12, 3) := by decide +kernel
theorem dX4_stopReading_10 : decode cX4_stopReading 10 = .ok (.getfield 99, 3) := by decide +kernel
theorem dX4_stopReading_13 : decode cX4_stopReading 13 = .ok (.putfield 78, 3) := by decide +kernel
theorem dX4_stopReading_16 : decode cX4_stopReading 16 = .ok (.iconst 0, 1) := by decide +kernel
theorem dX4_stopReading_17 : decode cX4_stopReading 17 = .ok (.ireturn, 1) := by decide +kernel
theorem dX4_wordOf_0 : decode cX4_wordOf 0 = .ok (.iload_n 0, 1) := by decide +kernel
theorem dX4_wordOf_1 : decode cX4_wordOf 1 = .ok (.tableswitch 127 0 15 #[79, 82, 85, 88, 91, 94, 97, 100, 103, 106, 109, 112, 115, 118, 121, 124], 79) := by decide +kernel
theorem dX4_wordOf_80 : decode cX4_wordOf 80 = .ok (.ldc 149, 2) := by decide +kernel
theorem dX4_wordOf_82 : decode cX4_wordOf 82 = .ok (.areturn, 1) := by decide +kernel
theorem dX4_wordOf_83 : decode cX4_wordOf 83 = .ok (.ldc 150, 2) := by decide +kernel
theorem dX4_wordOf_85 : decode cX4_wordOf 85 = .ok (.areturn, 1) := by decide +kernel
theorem dX4_wordOf_86 : decode cX4_wordOf 86 = .ok (.ldc 151, 2) := by decide +kernel
theorem dX4_wordOf_88 : decode cX4_wordOf 88 = .ok (.areturn, 1) := by decide +kernel
theorem dX4_wordOf_89 : decode cX4_wordOf 89 = .ok (.ldc 153, 2) := by decide +kernel
theorem dX4_wordOf_91 : decode cX4_wordOf 91 = .ok (.areturn, 1) := by decide +kernel
theorem dX4_wordOf_92 : decode cX4_wordOf 92 = .ok (.ldc 155, 2) := by decide +kernel
theorem dX4_wordOf_94 : decode cX4_wordOf 94 = .ok (.areturn, 1) := by decide +kernel
theorem dX4_wordOf_95 : decode cX4_wordOf 95 = .ok (.ldc 157, 2) := by decide +kernel
theorem dX4_wordOf_97 : decode cX4_wordOf 97 = .ok (.areturn, 1) := by decide +kernel
theorem dX4_wordOf_98 : decode cX4_wordOf 98 = .ok (.ldc 159, 2) := by decide +kernel
theorem dX4_wordOf_100 : decode cX4_wordOf 100 = .ok (.areturn, 1) := by decide +kernel
theorem dX4_wordOf_101 : decode cX4_wordOf 101 = .ok (.ldc 161, 2) := by decide +kernel
theorem dX4_wordOf_103 : decode cX4_wordOf 103 = .ok (.areturn, 1) := by decide +kernel
theorem dX4_wordOf_104 : decode cX4_wordOf 104 = .ok (.ldc 163, 2) := by decide +kernel
theorem dX4_wordOf_106 : decode cX4_wordOf 106 = .ok (.areturn, 1) := by decide +kernel
theorem dX4_wordOf_107 : decode cX4_wordOf 107 = .ok (.ldc 165, 2) := by decide +kernel
theorem dX4_wordOf_109 : decode cX4_wordOf 109 = .ok (.areturn, 1) := by decide +kernel
theorem dX4_wordOf_110 : decode cX4_wordOf 110 = .ok (.ldc 167, 2) := by decide +kernel
theorem dX4_wordOf_112 : decode cX4_wordOf 112 = .ok (.areturn, 1) := by decide +kernel
theorem dX4_wordOf_113 : decode cX4_wordOf 113 = .ok (.ldc 169, 2) := by decide +kernel
theorem dX4_wordOf_115 : decode cX4_wordOf 115 = .ok (.areturn, 1) := by decide +kernel
theorem dX4_wordOf_116 : decode cX4_wordOf 116 = .ok (.ldc 171, 2) := by decide +kernel
theorem dX4_wordOf_118 : decode cX4_wordOf 118 = .ok (.areturn, 1) := by decide +kernel
theorem dX4_wordOf_119 : decode cX4_wordOf 119 = .ok (.ldc 173, 2) := by decide +kernel
theorem dX4_wordOf_121 : decode cX4_wordOf 121 = .ok (.areturn, 1) := by decide +kernel
theorem dX4_wordOf_122 : decode cX4_wordOf 122 = .ok (.ldc 175, 2) := by decide +kernel
theorem dX4_wordOf_124 : decode cX4_wordOf 124 = .ok (.areturn, 1) := by decide +kernel
theorem dX4_wordOf_125 : decode cX4_wordOf 125 = .ok (.ldc 177, 2) := by decide +kernel
theorem dX4_wordOf_127 : decode cX4_wordOf 127 = .ok (.areturn, 1) := by decide +kernel
theorem dX4_wordOf_128 : decode cX4_wordOf 128 = .ok (.ldc 178, 2) := by decide +kernel
theorem dX4_wordOf_130 : decode cX4_wordOf 130 = .ok (.areturn, 1) := by decide +kernel
theorem dX4_mostFurther_0 : decode cX4_mostFurther 0 = .ok (.iload_n 0, 1) := by decide +kernel
theorem dX4_mostFurther_1 : decode cX4_mostFurther 1 = .ok (.iconst 1, 1) := by decide +kernel
theorem dX4_mostFurther_2 : decode cX4_mostFurther 2 = .ok (.if_icmp .ne 6, 3) := by decide +kernel
theorem dX4_mostFurther_5 : decode cX4_mostFurther 5 = .ok (.bipush 40, 2) := by decide +kernel
theorem dX4_mostFurther_7 : decode cX4_mostFurther 7 = .ok (.ireturn, 1) := by decide +kernel
theorem dX4_mostFurther_8 : decode cX4_mostFurther 8 = .ok (.iload_n 0, 1) := by decide +kernel
theorem dX4_mostFurther_9 : decode cX4_mostFurther 9 = .ok (.iconst 2, 1) := by decide +kernel
theorem dX4_mostFurther_10 : decode cX4_mostFurther 10 = .ok (.if_icmp .ne 6, 3) := by decide +kernel
theorem dX4_mostFurther_13 : decode cX4_mostFurther 13 = .ok (.bipush 8, 2) := by decide +kernel
theorem dX4_mostFurther_15 : decode cX4_mostFurther 15 = .ok (.ireturn, 1) := by decide +kernel
theorem dX4_mostFurther_16 : decode cX4_mostFurther 16 = .ok (.iload_n 1, 1) := by decide +kernel
theorem dX4_mostFurther_17 : decode cX4_mostFurther 17 = .ok (.iconst 5, 1) := by decide +kernel
theorem dX4_mostFurther_18 : decode cX4_mostFurther 18 = .ok (.if_icmp .ne 8, 3) := by decide +kernel
theorem dX4_mostFurther_21 : decode cX4_mostFurther 21 = .ok (.bipush 6, 2) := by decide +kernel
theorem dX4_mostFurther_23 : decode cX4_mostFurther 23 = .ok (.goto 4, 3) := by decide +kernel
theorem dX4_mostFurther_26 : decode cX4_mostFurther 26 = .ok (.iconst 0, 1) := by decide +kernel
theorem dX4_mostFurther_27 : decode cX4_mostFurther 27 = .ok (.ireturn, 1) := by decide +kernel
theorem dX4_shapeOf_0 : decode cX4_shapeOf 0 = .ok (.iload_n 0, 1) := by decide +kernel
theorem dX4_shapeOf_1 : decode cX4_shapeOf 1 = .ok (.tableswitch 113 0 16 #[83, 86, 89, 92, 95, 98, 101, 101, 101, 101, 104, 113, 113, 113, 113, 107, 110], 83) := by decide +kernel
theorem dX4_shapeOf_84 : decode cX4_shapeOf 84 = .ok (.ldc 194, 2) := by decide +kernel
theorem dX4_shapeOf_86 : decode cX4_shapeOf 86 = .ok (.areturn, 1) := by decide +kernel
theorem dX4_shapeOf_87 : decode cX4_shapeOf 87 = .ok (.ldc 196, 2) := by decide +kernel
theorem dX4_shapeOf_89 : decode cX4_shapeOf 89 = .ok (.areturn, 1) := by decide +kernel
theorem dX4_shapeOf_90 : decode cX4_shapeOf 90 = .ok (.ldc 198, 2) := by decide +kernel
theorem dX4_shapeOf_92 : decode cX4_shapeOf 92 = .ok (.areturn, 1) := by decide +kernel
theorem dX4_shapeOf_93 : decode cX4_shapeOf 93 = .ok (.ldc 200, 2) := by decide +kernel
theorem dX4_shapeOf_95 : decode cX4_shapeOf 95 = .ok (.areturn, 1) := by decide +kernel
theorem dX4_shapeOf_96 : decode cX4_shapeOf 96 = .ok (.ldc 202, 2) := by decide +kernel
theorem dX4_shapeOf_98 : decode cX4_shapeOf 98 = .ok (.areturn, 1) := by decide +kernel
theorem dX4_shapeOf_99 : decode cX4_shapeOf 99 = .ok (.ldc 204, 2) := by decide +kernel
theorem dX4_shapeOf_101 : decode cX4_shapeOf 101 = .ok (.areturn, 1) := by decide +kernel
theorem dX4_shapeOf_102 : decode cX4_shapeOf 102 = .ok (.ldc 206, 2) := by decide +kernel
theorem dX4_shapeOf_104 : decode cX4_shapeOf 104 = .ok (.areturn, 1) := by decide +kernel
theorem dX4_shapeOf_105 : decode cX4_shapeOf 105 = .ok (.ldc 208, 2) := by decide +kernel
theorem dX4_shapeOf_107 : decode cX4_shapeOf 107 = .ok (.areturn, 1) := by decide +kernel
theorem dX4_shapeOf_108 : decode cX4_shapeOf 108 = .ok (.ldc 210, 2) := by decide +kernel
theorem dX4_shapeOf_110 : decode cX4_shapeOf 110 = .ok (.areturn, 1) := by decide +kernel
theorem dX4_shapeOf_111 : decode cX4_shapeOf 111 = .ok (.ldc 212, 2) := by decide +kernel
theorem dX4_shapeOf_113 : decode cX4_shapeOf 113 = .ok (.areturn, 1) := by decide +kernel
theorem dX4_shapeOf_114 : decode cX4_shapeOf 114 = .ok (.ldc 214, 2) := by decide +kernel
theorem dX4_shapeOf_116 : decode cX4_shapeOf 116 = .ok (.areturn, 1) := by decide +kernel
theorem dX4_leastOf_0 : decode cX4_leastOf 0 = .ok (.iload_n 0, 1) := by decide +kernel
theorem dX4_leastOf_1 : decode cX4_leastOf 1 = .ok (.tableswitch 55 72 80 #[53, 55, 55, 55, 51, 51, 55, 55, 51], 51) := by decide +kernel
theorem dX4_leastOf_52 : decode cX4_leastOf 52 = .ok (.iconst 1, 1) := by decide +kernel
theorem dX4_leastOf_53 : decode cX4_leastOf 53 = .ok (.ireturn, 1) := by decide +kernel
theorem dX4_leastOf_54 : decode cX4_leastOf 54 = .ok (.iconst 2, 1) := by decide +kernel
theorem dX4_leastOf_55 : decode cX4_leastOf 55 = .ok (.ireturn, 1) := by decide +kernel
theorem dX4_leastOf_56 : decode cX4_leastOf 56 = .ok (.iconst 0, 1) := by decide +kernel
theorem dX4_leastOf_57 : decode cX4_leastOf 57 = .ok (.ireturn, 1) := by decide +kernel
theorem dX4_mostOf_0 : decode cX4_mostOf 0 = .ok (.iload_n 0, 1) := by decide +kernel
theorem dX4_mostOf_1 : decode cX4_mostOf 1 = .ok (.lookupswitch 111 #[(72, 96), (76, 108), (77, 91), (80, 94), (98, 104), (104, 106), (109, 101), (112, 99), (116, 101), (120, 108)], 91) := by decide +kernel
theorem dX4_mostOf_92 : decode cX4_mostOf 92 = .ok (.bipush 40, 2) := by decide +kernel
theorem dX4_mostOf_94 : decode cX4_mostOf 94 = .ok (.ireturn, 1) := by decide +kernel
theorem dX4_mostOf_95 : decode cX4_mostOf 95 = .ok (.iconst 4, 1) := by decide +kernel
theorem dX4_mostOf_96 : decode cX4_mostOf 96 = .ok (.ireturn, 1) := by decide +kernel
theorem dX4_mostOf_97 : decode cX4_mostOf 97 = .ok (.bipush 6, 2) := by decide +kernel
theorem dX4_mostOf_99 : decode cX4_mostOf 99 = .ok (.ireturn, 1) := by decide +kernel
theorem dX4_mostOf_100 : decode cX4_mostOf 100 = .ok (.iconst 3, 1) := by decide +kernel
theorem dX4_mostOf_101 : decode cX4_mostOf 101 = .ok (.ireturn, 1) := by decide +kernel
theorem dX4_mostOf_102 : decode cX4_mostOf 102 = .ok (.bipush 39, 2) := by decide +kernel
theorem dX4_mostOf_104 : decode cX4_mostOf 104 = .ok (.ireturn, 1) := by decide +kernel
theorem dX4_mostOf_105 : decode cX4_mostOf 105 = .ok (.iconst 5, 1) := by decide +kernel
theorem dX4_mostOf_106 : decode cX4_mostOf 106 = .ok (.ireturn, 1) := by decide +kernel
theorem dX4_mostOf_107 : decode cX4_mostOf 107 = .ok (.iconst 5, 1) := by decide +kernel
theorem dX4_mostOf_108 : decode cX4_mostOf 108 = .ok (.ireturn, 1) := by decide +kernel
theorem dX4_mostOf_109 : decode cX4_mostOf 109 = .ok (.bipush 9, 2) := by decide +kernel
theorem dX4_mostOf_111 : decode cX4_mostOf 111 = .ok (.ireturn, 1) := by decide +kernel
theorem dX4_mostOf_112 : decode cX4_mostOf 112 = .ok (.bipush 99, 2) := by decide +kernel
theorem dX4_mostOf_114 : decode cX4_mostOf 114 = .ok (.ireturn, 1) := by decide +kernel
theorem dX5_hasPerson_0 : decode cX5_hasPerson 0 = .ok (.iload_n 1, 1) := by decide +kernel
theorem dX5_hasPerson_1 : decode cX5_hasPerson 1 = .ok (.ifCond .lt 15, 3) := by decide +kernel
theorem dX5_hasPerson_4 : decode cX5_hasPerson 4 = .ok (.iload_n 1, 1) := by decide +kernel
theorem dX5_hasPerson_5 : decode cX5_hasPerson 5 = .ok (.aload_n 0, 1) := by decide +kernel
theorem dX5_hasPerson_6 : decode cX5_hasPerson 6 = .ok (.getfield 37, 3) := by decide +kernel
theorem dX5_hasPerson_9 : decode cX5_hasPerson 9 = .ok (.if_icmp .ge 7, 3) := by decide +kernel
theorem dX5_hasPerson_12 : decode cX5_hasPerson 12 = .ok (.iconst 1, 1) := by decide +kernel
theorem dX5_hasPerson_13 : decode cX5_hasPerson 13 = .ok (.goto 4, 3) := by decide +kernel
theorem dX5_hasPerson_16 : decode cX5_hasPerson 16 = .ok (.iconst 0, 1) := by decide +kernel
theorem dX5_hasPerson_17 : decode cX5_hasPerson 17 = .ok (.ireturn, 1) := by decide +kernel
theorem dX5_hasMinute_0 : decode cX5_hasMinute 0 = .ok (.iload_n 1, 1) := by decide +kernel
theorem dX5_hasMinute_1 : decode cX5_hasMinute 1 = .ok (.ifCond .lt 15, 3) := by decide +kernel
theorem dX5_hasMinute_4 : decode cX5_hasMinute 4 = .ok (.iload_n 1, 1) := by decide +kernel
theorem dX5_hasMinute_5 : decode cX5_hasMinute 5 = .ok (.aload_n 0, 1) := by decide +kernel
theorem dX5_hasMinute_6 : decode cX5_hasMinute 6 = .ok (.getfield 33, 3) := by decide +kernel
theorem dX5_hasMinute_9 : decode cX5_hasMinute 9 = .ok (.if_icmp .ge 7, 3) := by decide +kernel
theorem dX5_hasMinute_12 : decode cX5_hasMinute 12 = .ok (.iconst 1, 1) := by decide +kernel
theorem dX5_hasMinute_13 : decode cX5_hasMinute 13 = .ok (.goto 4, 3) := by decide +kernel
theorem dX5_hasMinute_16 : decode cX5_hasMinute 16 = .ok (.iconst 0, 1) := by decide +kernel
theorem dX5_hasMinute_17 : decode cX5_hasMinute 17 = .ok (.ireturn, 1) := by decide +kernel
theorem dX5_hasBusiness_0 : decode cX5_hasBusiness 0 = .ok (.iload_n 1, 1) := by decide +kernel
theorem dX5_hasBusiness_1 : decode cX5_hasBusiness 1 = .ok (.ifCond .lt 15, 3) := by decide +kernel
theorem dX5_hasBusiness_4 : decode cX5_hasBusiness 4 = .ok (.iload_n 1, 1) := by decide +kernel
theorem dX5_hasBusiness_5 : decode cX5_hasBusiness 5 = .ok (.aload_n 0, 1) := by decide +kernel
theorem dX5_hasBusiness_6 : decode cX5_hasBusiness 6 = .ok (.getfield 40, 3) := by decide +kernel
theorem dX5_hasBusiness_9 : decode cX5_hasBusiness 9 = .ok (.if_icmp .ge 7, 3) := by decide +kernel
theorem dX5_hasBusiness_12 : decode cX5_hasBusiness 12 = .ok (.iconst 1, 1) := by decide +kernel
theorem dX5_hasBusiness_13 : decode cX5_hasBusiness 13 = .ok (.goto 4, 3) := by decide +kernel
theorem dX5_hasBusiness_16 : decode cX5_hasBusiness 16 = .ok (.iconst 0, 1) := by decide +kernel
theorem dX5_hasBusiness_17 : decode cX5_hasBusiness 17 = .ok (.ireturn, 1) := by decide +kernel
theorem dX5_subsets_0 : decode cX5_subsets 0 = .ok (.iconst 1, 1) := by decide +kernel
theorem dX5_subsets_1 : decode cX5_subsets 1 = .ok (.aload_n 0, 1) := by decide +kernel
theorem dX5_subsets_2 : decode cX5_subsets 2 = .ok (.getfield 40, 3) := by decide +kernel
theorem dX5_subsets_5 : decode cX5_subsets 5 = .ok (.ishl, 1) := by decide +kernel
theorem dX5_subsets_6 : decode cX5_subsets 6 = .ok (.ireturn, 1) := by decide +kernel
theorem dX5_minutesMask_0 : decode cX5_minutesMask 0 = .ok (.lconst 1, 1) := by decide +kernel
theorem dX5_minutesMask_1 : decode cX5_minutesMask 1 = .ok (.aload_n 0, 1) := by decide +kernel
theorem dX5_minutesMask_2 : decode cX5_minutesMask 2 = .ok (.getfield 33, 3) := by decide +kernel
theorem dX5_minutesMask_5 : decode cX5_minutesMask 5 = .ok (.lshl, 1) := by decide +kernel
theorem dX5_minutesMask_6 : decode cX5_minutesMask 6 = .ok (.lconst 1, 1) := by decide +kernel
theorem dX5_minutesMask_7 : decode cX5_minutesMask 7 = .ok (.lsub, 1) := by decide +kernel
theorem dX5_minutesMask_8 : decode cX5_minutesMask 8 = .ok (.lreturn, 1) := by decide +kernel
theorem dX5_held_0 : decode cX5_held 0 = .ok (.lconst 0, 1) := by decide +kernel
theorem dX5_held_1 : decode cX5_held 1 = .ok (.lstore_n 2, 1) := by decide +kernel
theorem dX5_held_2 : decode cX5_held 2 = .ok (.iconst 0, 1) := by decide +kernel
theorem dX5_held_3 : decode cX5_held 3 = .ok (.istore 4, 2) := by decide +kernel
theorem dX5_held_5 : decode cX5_held 5 = .ok (.iload 4, 2) := by decide +kernel
theorem dX5_held_7 : decode cX5_held 7 = .ok (.aload_n 0, 1) := by decide +kernel
theorem dX5_held_8 : decode cX5_held 8 = .ok (.getfield 33, 3) := by decide +kernel
theorem dX5_held_11 : decode cX5_held 11 = .ok (.if_icmp .ge 27, 3) := by decide +kernel
theorem dX5_held_14 : decode cX5_held 14 = .ok (.aload_n 0, 1) := by decide +kernel
theorem dX5_held_15 : decode cX5_held 15 = .ok (.getfield 18, 3) := by decide +kernel
theorem dX5_held_18 : decode cX5_held 18 = .ok (.iload 4, 2) := by decide +kernel
theorem dX5_held_20 : decode cX5_held 20 = .ok (.iaload, 1) := by decide +kernel
theorem dX5_held_21 : decode cX5_held 21 = .ok (.iload_n 1, 1) := by decide +kernel
theorem dX5_held_22 : decode cX5_held 22 = .ok (.if_icmp .ne 10, 3) := by decide +kernel
theorem dX5_held_25 : decode cX5_held 25 = .ok (.lload_n 2, 1) := by decide +kernel
theorem dX5_held_26 : decode cX5_held 26 = .ok (.lconst 1, 1) := by decide +kernel
theorem dX5_held_27 : decode cX5_held 27 = .ok (.iload 4, 2) := by decide +kernel
theorem dX5_held_29 : decode cX5_held 29 = .ok (.lshl, 1) := by decide +kernel
theorem dX5_held_30 : decode cX5_held 30 = .ok (.lor, 1) := by decide +kernel
theorem dX5_held_31 : decode cX5_held 31 = .ok (.lstore_n 2, 1) := by decide +kernel
theorem dX5_held_32 : decode cX5_held 32 = .ok (.iinc 4 1, 3) := by decide +kernel
theorem dX5_held_35 : decode cX5_held 35 = .ok (.goto (-30), 3) := by decide +kernel
theorem dX5_held_38 : decode cX5_held 38 = .ok (.lload_n 2, 1) := by decide +kernel
theorem dX5_held_39 : decode cX5_held 39 = .ok (.lreturn, 1) := by decide +kernel
theorem dX5_goesIn_0 : decode cX5_goesIn 0 = .ok (.iload_n 2, 1) := by decide +kernel
theorem dX5_goesIn_1 : decode cX5_goesIn 1 = .ok (.aload_n 0, 1) := by decide +kernel
theorem dX5_goesIn_2 : decode cX5_goesIn 2 = .ok (.getfield 24, 3) := by decide +kernel
theorem dX5_goesIn_5 : decode cX5_goesIn 5 = .ok (.iload_n 1, 1) := by decide +kernel
theorem dX5_goesIn_6 : decode cX5_goesIn 6 = .ok (.iaload, 1) := by decide +kernel
theorem dX5_goesIn_7 : decode cX5_goesIn 7 = .ok (.if_icmp .lt 22, 3) := by decide +kernel
theorem dX5_goesIn_10 : decode cX5_goesIn 10 = .ok (.iload_n 2, 1) := by decide +kernel
theorem dX5_goesIn_11 : decode cX5_goesIn 11 = .ok (.aload_n 0, 1) := by decide +kernel
theorem dX5_goesIn_12 : decode cX5_goesIn 12 = .ok (.getfield 21, 3) := by decide +kernel
theorem dX5_goesIn_15 : decode cX5_goesIn 15 = .ok (.iload_n 1, 1) := by decide +kernel
theorem dX5_goesIn_16 : decode cX5_goesIn 16 = .ok (.iaload, 1) := by decide +kernel
theorem dX5_goesIn_17 : decode cX5_goesIn 17 = .ok (.iadd, 1) := by decide +kernel
theorem dX5_goesIn_18 : decode cX5_goesIn 18 = .ok (.iconst 1, 1) := by decide +kernel
theorem dX5_goesIn_19 : decode cX5_goesIn 19 = .ok (.isub, 1) := by decide +kernel
theorem dX5_goesIn_20 : decode cX5_goesIn 20 = .ok (.aload_n 0, 1) := by decide +kernel
theorem dX5_goesIn_21 : decode cX5_goesIn 21 = .ok (.getfield 27, 3) := by decide +kernel
theorem dX5_goesIn_24 : decode cX5_goesIn 24 = .ok (.iload_n 1, 1) := by decide +kernel
theorem dX5_goesIn_25 : decode cX5_goesIn 25 = .ok (.iaload, 1) := by decide +kernel
theorem dX5_goesIn_26 : decode cX5_goesIn 26 = .ok (.if_icmp .le 5, 3) := by decide +kernel
theorem dX5_goesIn_29 : decode cX5_goesIn 29 = .ok (.iconst 0, 1) := by decide +kernel
theorem dX5_goesIn_30 : decode cX5_goesIn 30 = .ok (.ireturn, 1) := by decide +kernel
theorem dX5_goesIn_31 : decode cX5_goesIn 31 = .ok (.lconst 1, 1) := by decide +kernel
theorem dX5_goesIn_32 : decode cX5_goesIn 32 = .ok (.aload_n 0, 1) := by decide +kernel
theorem dX5_goesIn_33 : decode cX5_goesIn 33 = .ok (.getfield 21, 3) := by decide +kernel
theorem dX5_goesIn_36 : decode cX5_goesIn 36 = .ok (.iload_n 1, 1) := by decide +kernel
theorem dX5_goesIn_37 : decode cX5_goesIn 37 = .ok (.iaload, 1) := by decide +kernel
theorem dX5_goesIn_38 : decode cX5_goesIn 38 = .ok (.lshl, 1) := by decide +kernel
theorem dX5_goesIn_39 : decode cX5_goesIn 39 = .ok (.lconst 1, 1) := by decide +kernel
theorem dX5_goesIn_40 : decode cX5_goesIn 40 = .ok (.lsub, 1) := by decide +kernel
theorem dX5_goesIn_41 : decode cX5_goesIn 41 = .ok (.iload_n 2, 1) := by decide +kernel
theorem dX5_goesIn_42 : decode cX5_goesIn 42 = .ok (.lshl, 1) := by decide +kernel
theorem dX5_goesIn_43 : decode cX5_goesIn 43 = .ok (.lstore 5, 2) := by decide +kernel
theorem dX5_goesIn_45 : decode cX5_goesIn 45 = .ok (.lload 5, 2) := by decide +kernel
theorem dX5_goesIn_47 : decode cX5_goesIn 47 = .ok (.lload_n 3, 1) := by decide +kernel
theorem dX5_goesIn_48 : decode cX5_goesIn 48 = .ok (.ldc2_w 59, 3) := by decide +kernel
theorem dX5_goesIn_51 : decode cX5_goesIn 51 = .ok (.lxor, 1) := by decide +kernel
theorem dX5_goesIn_52 : decode cX5_goesIn 52 = .ok (.land, 1) := by decide +kernel
theorem dX5_goesIn_53 : decode cX5_goesIn 53 = .ok (.lconst 0, 1) := by decide +kernel
theorem dX5_goesIn_54 : decode cX5_goesIn 54 = .ok (.lcmp, 1) := by decide +kernel
theorem dX5_goesIn_55 : decode cX5_goesIn 55 = .ok (.ifCond .ne 7, 3) := by decide +kernel
theorem dX5_goesIn_58 : decode cX5_goesIn 58 = .ok (.iconst 1, 1) := by decide +kernel
theorem dX5_goesIn_59 : decode cX5_goesIn 59 = .ok (.goto 4, 3) := by decide +kernel
theorem dX5_goesIn_62 : decode cX5_goesIn 62 = .ok (.iconst 0, 1) := by decide +kernel
theorem dX5_goesIn_63 : decode cX5_goesIn 63 = .ok (.ireturn, 1) := by decide +kernel
theorem dX5_costOfRun_0 : decode cX5_costOfRun 0 = .ok (.iconst 0, 1) := by decide +kernel
theorem dX5_costOfRun_1 : decode cX5_costOfRun 1 = .ok (.istore 4, 2) := by decide +kernel
theorem dX5_costOfRun_3 : decode cX5_costOfRun 3 = .ok (.iload_n 3, 1) := by decide +kernel
theorem dX5_costOfRun_4 : decode cX5_costOfRun 4 = .ok (.istore 5, 2) := by decide +kernel
theorem dX5_costOfRun_6 : decode cX5_costOfRun 6 = .ok (.iload 5, 2) := by decide +kernel
theorem dX5_costOfRun_8 : decode cX5_costOfRun 8 = .ok (.iload_n 3, 1) := by decide +kernel
theorem dX5_costOfRun_9 : decode cX5_costOfRun 9 = .ok (.aload_n 0, 1) := by decide +kernel
theorem dX5_costOfRun_10 : decode cX5_costOfRun 10 = .ok (.getfield 21, 3) := by decide +kernel
theorem dX5_costOfRun_13 : decode cX5_costOfRun 13 = .ok (.iload_n 2, 1) := by decide +kernel
theorem dX5_costOfRun_14 : decode cX5_costOfRun 14 = .ok (.iaload, 1) := by decide +kernel
theorem dX5_costOfRun_15 : decode cX5_costOfRun 15 = .ok (.iadd, 1) := by decide +kernel
theorem dX5_costOfRun_16 : decode cX5_costOfRun 16 = .ok (.if_icmp .ge 41, 3) := by decide +kernel
theorem dX5_costOfRun_19 : decode cX5_costOfRun 19 = .ok (.iload 5, 2) := by decide +kernel
theorem dX5_costOfRun_21 : decode cX5_costOfRun 21 = .ok (.aload_n 0, 1) := by decide +kernel
theorem dX5_costOfRun_22 : decode cX5_costOfRun 22 = .ok (.getfield 33, 3) := by decide +kernel
theorem dX5_costOfRun_25 : decode cX5_costOfRun 25 = .ok (.if_icmp .ge 32, 3) := by decide +kernel
theorem dX5_costOfRun_28 : decode cX5_costOfRun 28 = .ok (.aload_n 0, 1) := by decide +kernel
theorem dX5_costOfRun_29 : decode cX5_costOfRun 29 = .ok (.getfield 18, 3) := by decide +kernel
theorem dX5_costOfRun_32 : decode cX5_costOfRun 32 = .ok (.iload 5, 2) := by decide +kernel
theorem dX5_costOfRun_34 : decode cX5_costOfRun 34 = .ok (.iaload, 1) := by decide +kernel
theorem dX5_costOfRun_35 : decode cX5_costOfRun 35 = .ok (.iload_n 1, 1) := by decide +kernel
theorem dX5_costOfRun_36 : decode cX5_costOfRun 36 = .ok (.if_icmp .eq 15, 3) := by decide +kernel
theorem dX5_costOfRun_39 : decode cX5_costOfRun 39 = .ok (.iload 4, 2) := by decide +kernel
theorem dX5_costOfRun_41 : decode cX5_costOfRun 41 = .ok (.aload_n 0, 1) := by decide +kernel
theorem dX5_costOfRun_42 : decode cX5_costOfRun 42 = .ok (.getfield 15, 3) := by decide +kernel
theorem dX5_costOfRun_45 : decode cX5_costOfRun 45 = .ok (.iload 5, 2) := by decide +kernel
theorem dX5_costOfRun_47 : decode cX5_costOfRun 47 = .ok (.iaload, 1) := by decide +kernel
theorem dX5_costOfRun_48 : decode cX5_costOfRun 48 = .ok (.iadd, 1) := by decide +kernel
theorem dX5_costOfRun_49 : decode cX5_costOfRun 49 = .ok (.istore 4, 2) := by decide +kernel
theorem dX5_costOfRun_51 : decode cX5_costOfRun 51 = .ok (.iinc 5 1, 3) := by decide +kernel
theorem dX5_costOfRun_54 : decode cX5_costOfRun 54 = .ok (.goto (-48), 3) := by decide +kernel
theorem dX5_costOfRun_57 : decode cX5_costOfRun 57 = .ok (.iload 4, 2) := by decide +kernel
theorem dX5_costOfRun_59 : decode cX5_costOfRun 59 = .ok (.ireturn, 1) := by decide +kernel
theorem dX5_worthOfSet_0 : decode cX5_worthOfSet 0 = .ok (.iconst 0, 1) := by decide +kernel
theorem dX5_worthOfSet_1 : decode cX5_worthOfSet 1 = .ok (.istore_n 2, 1) := by decide +kernel
theorem dX5_worthOfSet_2 : decode cX5_worthOfSet 2 = .ok (.iconst 0, 1) := by decide +kernel
theorem dX5_worthOfSet_3 : decode cX5_worthOfSet 3 = .ok (.istore_n 3, 1) := by decide +kernel
theorem dX5_worthOfSet_4 : decode cX5_worthOfSet 4 = .ok (.iload_n 3, 1) := by decide +kernel
theorem dX5_worthOfSet_5 : decode cX5_worthOfSet 5 = .ok (.aload_n 0, 1) := by decide +kernel
theorem dX5_worthOfSet_6 : decode cX5_worthOfSet 6 = .ok (.getfield 40, 3) := by decide +kernel
theorem dX5_worthOfSet_9 : decode cX5_worthOfSet 9 = .ok (.if_icmp .ge 27, 3) := by decide +kernel
theorem dX5_worthOfSet_12 : decode cX5_worthOfSet 12 = .ok (.iload_n 1, 1) := by decide +kernel
theorem dX5_worthOfSet_13 : decode cX5_worthOfSet 13 = .ok (.iload_n 3, 1) := by decide +kernel
theorem dX5_worthOfSet_14 : decode cX5_worthOfSet 14 = .ok (.ishr, 1) := by decide +kernel
theorem dX5_worthOfSet_15 : decode cX5_worthOfSet 15 = .ok (.iconst 1, 1) := by decide +kernel
theorem dX5_worthOfSet_16 : decode cX5_worthOfSet 16 = .ok (.iand, 1) := by decide +kernel
theorem dX5_worthOfSet_17 : decode cX5_worthOfSet 17 = .ok (.iconst 1, 1) := by decide +kernel
theorem dX5_worthOfSet_18 : decode cX5_worthOfSet 18 = .ok (.if_icmp .ne 12, 3) := by decide +kernel
theorem dX5_worthOfSet_21 : decode cX5_worthOfSet 21 = .ok (.iload_n 2, 1) := by decide +kernel
theorem dX5_worthOfSet_22 : decode cX5_worthOfSet 22 = .ok (.aload_n 0, 1) := by decide +kernel
theorem dX5_worthOfSet_23 : decode cX5_worthOfSet 23 = .ok (.getfield 30, 3) := by decide +kernel
theorem dX5_worthOfSet_26 : decode cX5_worthOfSet 26 = .ok (.iload_n 3, 1) := by decide +kernel
theorem dX5_worthOfSet_27 : decode cX5_worthOfSet 27 = .ok (.iaload, 1) := by decide +kernel
theorem dX5_worthOfSet_28 : decode cX5_worthOfSet 28 = .ok (.iadd, 1) := by decide +kernel
theorem dX5_worthOfSet_29 : decode cX5_worthOfSet 29 = .ok (.istore_n 2, 1) := by decide +kernel
theorem dX5_worthOfSet_30 : decode cX5_worthOfSet 30 = .ok (.iinc 3 1, 3) := by decide +kernel
theorem dX5_worthOfSet_33 : decode cX5_worthOfSet 33 = .ok (.goto (-29), 3) := by decide +kernel
theorem dX5_worthOfSet_36 : decode cX5_worthOfSet 36 = .ok (.iload_n 2, 1) := by decide +kernel
theorem dX5_worthOfSet_37 : decode cX5_worthOfSet 37 = .ok (.ireturn, 1) := by decide +kernel
theorem dX6_worthTo_0 : decode cX6_worthTo 0 = .ok (.aload_n 0, 1) := by decide +kernel
theorem dX6_worthTo_1 : decode cX6_worthTo 1 = .ok (.getfield 9, 3) := by decide +kernel
theorem dX6_worthTo_4 : decode cX6_worthTo 4 = .ok (.iload_n 1, 1) := by decide +kernel
theorem dX6_worthTo_5 : decode cX6_worthTo 5 = .ok (.bipush 6, 2) := by decide +kernel
theorem dX6_worthTo_7 : decode cX6_worthTo 7 = .ok (.imul, 1) := by decide +kernel
theorem dX6_worthTo_8 : decode cX6_worthTo 8 = .ok (.iload_n 2, 1) := by decide +kernel
theorem dX6_worthTo_9 : decode cX6_worthTo 9 = .ok (.iadd, 1) := by decide +kernel
theorem dX6_worthTo_10 : decode cX6_worthTo 10 = .ok (.iaload, 1) := by decide +kernel
theorem dX6_worthTo_11 : decode cX6_worthTo 11 = .ok (.ireturn, 1) := by decide +kernel
theorem dX7_agrees_0 : decode cX7_agrees 0 = .ok (.lconst 1, 1) := by decide +kernel
theorem dX7_agrees_1 : decode cX7_agrees 1 = .ok (.iload_n 2, 1) := by decide +kernel
theorem dX7_agrees_2 : decode cX7_agrees 2 = .ok (.iload_n 1, 1) := by decide +kernel
theorem dX7_agrees_3 : decode cX7_agrees 3 = .ok (.isub, 1) := by decide +kernel
theorem dX7_agrees_4 : decode cX7_agrees 4 = .ok (.iconst 1, 1) := by decide +kernel
theorem dX7_agrees_5 : decode cX7_agrees 5 = .ok (.iadd, 1) := by decide +kernel
theorem dX7_agrees_6 : decode cX7_agrees 6 = .ok (.lshl, 1) := by decide +kernel
theorem dX7_agrees_7 : decode cX7_agrees 7 = .ok (.lconst 1, 1) := by decide +kernel
theorem dX7_agrees_8 : decode cX7_agrees 8 = .ok (.lsub, 1) := by decide +kernel
theorem dX7_agrees_9 : decode cX7_agrees 9 = .ok (.iload_n 1, 1) := by decide +kernel
theorem dX7_agrees_10 : decode cX7_agrees 10 = .ok (.lshl, 1) := by decide +kernel
theorem dX7_agrees_11 : decode cX7_agrees 11 = .ok (.lstore_n 3, 1) := by decide +kernel
theorem dX7_agrees_12 : decode cX7_agrees 12 = .ok (.aload_n 0, 1) := by decide +kernel
theorem dX7_agrees_13 : decode cX7_agrees 13 = .ok (.getfield 49, 3) := by decide +kernel
theorem dX7_agrees_16 : decode cX7_agrees 16 = .ok (.lload_n 3, 1) := by decide +kernel
theorem dX7_agrees_17 : decode cX7_agrees 17 = .ok (.ldc2_w 66, 3) := by decide +kernel
theorem dX7_agrees_20 : decode cX7_agrees 20 = .ok (.lxor, 1) := by decide +kernel
theorem dX7_agrees_21 : decode cX7_agrees 21 = .ok (.land, 1) := by decide +kernel
theorem dX7_agrees_22 : decode cX7_agrees 22 = .ok (.lconst 0, 1) := by decide +kernel
theorem dX7_agrees_23 : decode cX7_agrees 23 = .ok (.lcmp, 1) := by decide +kernel
theorem dX7_agrees_24 : decode cX7_agrees 24 = .ok (.ifCond .ne 18, 3) := by decide +kernel
theorem dX7_agrees_27 : decode cX7_agrees 27 = .ok (.aload_n 0, 1) := by decide +kernel
theorem dX7_agrees_28 : decode cX7_agrees 28 = .ok (.getfield 53, 3) := by decide +kernel
theorem dX7_agrees_31 : decode cX7_agrees 31 = .ok (.lload_n 3, 1) := by decide +kernel
theorem dX7_agrees_32 : decode cX7_agrees 32 = .ok (.land, 1) := by decide +kernel
theorem dX7_agrees_33 : decode cX7_agrees 33 = .ok (.lconst 0, 1) := by decide +kernel
theorem dX7_agrees_34 : decode cX7_agrees 34 = .ok (.lcmp, 1) := by decide +kernel
theorem dX7_agrees_35 : decode cX7_agrees 35 = .ok (.ifCond .ne 7, 3) := by decide +kernel
theorem dX7_agrees_38 : decode cX7_agrees 38 = .ok (.iconst 1, 1) := by decide +kernel
theorem dX7_agrees_39 : decode cX7_agrees 39 = .ok (.goto 4, 3) := by decide +kernel
theorem dX7_agrees_42 : decode cX7_agrees 42 = .ok (.iconst 0, 1) := by decide +kernel
theorem dX7_agrees_43 : decode cX7_agrees 43 = .ok (.ireturn, 1) := by decide +kernel
theorem dX7_minutesIn_0 : decode cX7_minutesIn 0 = .ok (.iconst 0, 1) := by decide +kernel
theorem dX7_minutesIn_1 : decode cX7_minutesIn 1 = .ok (.istore_n 2, 1) := by decide +kernel
theorem dX7_minutesIn_2 : decode cX7_minutesIn 2 = .ok (.iconst 0, 1) := by decide +kernel
theorem dX7_minutesIn_3 : decode cX7_minutesIn 3 = .ok (.istore_n 3, 1) := by decide +kernel
theorem dX7_minutesIn_4 : decode cX7_minutesIn 4 = .ok (.iload_n 3, 1) := by decide +kernel
theorem dX7_minutesIn_5 : decode cX7_minutesIn 5 = .ok (.bipush 40, 2) := by decide +kernel
theorem dX7_minutesIn_7 : decode cX7_minutesIn 7 = .ok (.if_icmp .ge 22, 3) := by decide +kernel
theorem dX7_minutesIn_10 : decode cX7_minutesIn 10 = .ok (.aload_n 0, 1) := by decide +kernel
theorem dX7_minutesIn_11 : decode cX7_minutesIn 11 = .ok (.getfield 9, 3) := by decide +kernel
theorem dX7_minutesIn_14 : decode cX7_minutesIn 14 = .ok (.iload_n 3, 1) := by decide +kernel
theorem dX7_minutesIn_15 : decode cX7_minutesIn 15 = .ok (.iaload, 1) := by decide +kernel
theorem dX7_minutesIn_16 : decode cX7_minutesIn 16 = .ok (.iload_n 1, 1) := by decide +kernel
theorem dX7_minutesIn_17 : decode cX7_minutesIn 17 = .ok (.if_icmp .ne 6, 3) := by decide +kernel
theorem dX7_minutesIn_20 : decode cX7_minutesIn 20 = .ok (.iinc 2 1, 3) := by decide +kernel
theorem dX7_minutesIn_23 : decode cX7_minutesIn 23 = .ok (.iinc 3 1, 3) := by decide +kernel
theorem dX7_minutesIn_26 : decode cX7_minutesIn 26 = .ok (.goto (-22), 3) := by decide +kernel
theorem dX7_minutesIn_29 : decode cX7_minutesIn 29 = .ok (.iload_n 2, 1) := by decide +kernel
theorem dX7_minutesIn_30 : decode cX7_minutesIn 30 = .ok (.ireturn, 1) := by decide +kernel
theorem dX8_isLetter_0 : decode cX8_isLetter 0 = .ok (.iload_n 0, 1) := by decide +kernel
theorem dX8_isLetter_1 : decode cX8_isLetter 1 = .ok (.bipush 97, 2) := by decide +kernel
theorem dX8_isLetter_3 : decode cX8_isLetter 3 = .ok (.if_icmp .lt 13, 3) := by decide +kernel
theorem dX8_isLetter_6 : decode cX8_isLetter 6 = .ok (.iload_n 0, 1) := by decide +kernel
theorem dX8_isLetter_7 : decode cX8_isLetter 7 = .ok (.bipush 122, 2) := by decide +kernel
theorem dX8_isLetter_9 : decode cX8_isLetter 9 = .ok (.if_icmp .gt 7, 3) := by decide +kernel
theorem dX8_isLetter_12 : decode cX8_isLetter 12 = .ok (.iconst 1, 1) := by decide +kernel
theorem dX8_isLetter_13 : decode cX8_isLetter 13 = .ok (.goto 4, 3) := by decide +kernel
theorem dX8_isLetter_16 : decode cX8_isLetter 16 = .ok (.iconst 0, 1) := by decide +kernel
theorem dX8_isLetter_17 : decode cX8_isLetter 17 = .ok (.ireturn, 1) := by decide +kernel
theorem dX8_isDigit_0 : decode cX8_isDigit 0 = .ok (.iload_n 0, 1) := by decide +kernel
theorem dX8_isDigit_1 : decode cX8_isDigit 1 = .ok (.bipush 48, 2) := by decide +kernel
theorem dX8_isDigit_3 : decode cX8_isDigit 3 = .ok (.if_icmp .lt 13, 3) := by decide +kernel
theorem dX8_isDigit_6 : decode cX8_isDigit 6 = .ok (.iload_n 0, 1) := by decide +kernel
theorem dX8_isDigit_7 : decode cX8_isDigit 7 = .ok (.bipush 57, 2) := by decide +kernel
theorem dX8_isDigit_9 : decode cX8_isDigit 9 = .ok (.if_icmp .gt 7, 3) := by decide +kernel
theorem dX8_isDigit_12 : decode cX8_isDigit 12 = .ok (.iconst 1, 1) := by decide +kernel
theorem dX8_isDigit_13 : decode cX8_isDigit 13 = .ok (.goto 4, 3) := by decide +kernel
theorem dX8_isDigit_16 : decode cX8_isDigit 16 = .ok (.iconst 0, 1) := by decide +kernel
theorem dX8_isDigit_17 : decode cX8_isDigit 17 = .ok (.ireturn, 1) := by decide +kernel
theorem dX9_putNumber_0 : decode cX9_putNumber 0 = .ok (.bipush 24, 2) := by decide +kernel
theorem dX9_putNumber_2 : decode cX9_putNumber 2 = .ok (.istore_n 2, 1) := by decide +kernel
theorem dX9_putNumber_3 : decode cX9_putNumber 3 = .ok (.iload_n 2, 1) := by decide +kernel
theorem dX9_putNumber_4 : decode cX9_putNumber 4 = .ok (.ifCond .lt 42, 3) := by decide +kernel
theorem dX9_putNumber_7 : decode cX9_putNumber 7 = .ok (.aload_n 0, 1) := by decide +kernel
theorem dX9_putNumber_8 : decode cX9_putNumber 8 = .ok (.getfield 65, 3) := by decide +kernel
theorem dX9_putNumber_11 : decode cX9_putNumber 11 = .ok (.sipush 600, 3) := by decide +kernel
theorem dX9_putNumber_14 : decode cX9_putNumber 14 = .ok (.if_icmp .ge 32, 3) := by decide +kernel
theorem dX9_putNumber_17 : decode cX9_putNumber 17 = .ok (.aload_n 0, 1) := by decide +kernel
theorem dX9_putNumber_18 : decode cX9_putNumber 18 = .ok (.getfield 36, 3) := by decide +kernel
theorem dX9_putNumber_21 : decode cX9_putNumber 21 = .ok (.aload_n 0, 1) := by decide +kernel
theorem dX9_putNumber_22 : decode cX9_putNumber 22 = .ok (.getfield 65, 3) := by decide +kernel
theorem dX9_putNumber_25 : decode cX9_putNumber 25 = .ok (.iload_n 1, 1) := by decide +kernel
theorem dX9_putNumber_26 : decode cX9_putNumber 26 = .ok (.iload_n 2, 1) := by decide +kernel
theorem dX9_putNumber_27 : decode cX9_putNumber 27 = .ok (.ishr, 1) := by decide +kernel
theorem dX9_putNumber_28 : decode cX9_putNumber 28 = .ok (.i2b, 1) := by decide +kernel
theorem dX9_putNumber_29 : decode cX9_putNumber 29 = .ok (.bastore, 1) := by decide +kernel
theorem dX9_putNumber_30 : decode cX9_putNumber 30 = .ok (.aload_n 0, 1) := by decide +kernel
theorem dX9_putNumber_31 : decode cX9_putNumber 31 = .ok (.dup, 1) := by decide +kernel
theorem dX9_putNumber_32 : decode cX9_putNumber 32 = .ok (.getfield 65, 3) := by decide +kernel
theorem dX9_putNumber_35 : decode cX9_putNumber 35 = .ok (.iconst 1, 1) := by decide +kernel
theorem dX9_putNumber_36 : decode cX9_putNumber 36 = .ok (.iadd, 1) := by decide +kernel
theorem dX9_putNumber_37 : decode cX9_putNumber 37 = .ok (.putfield 65, 3) := by decide +kernel
theorem dX9_putNumber_40 : decode cX9_putNumber 40 = .ok (.iinc 2 (-8), 3) := by decide +kernel
theorem dX9_putNumber_43 : decode cX9_putNumber 43 = .ok (.goto (-40), 3) := by decide +kernel
theorem dX9_putNumber_46 : decode cX9_putNumber 46 = .ok (.return_, 1) := by decide +kernel
theorem dX10_isInRing_0 : decode cX10_isInRing 0 = .ok (.aload_n 0, 1) := by decide +kernel
theorem dX10_isInRing_1 : decode cX10_isInRing 1 = .ok (.getfield 18, 3) := by decide +kernel
theorem dX10_isInRing_4 : decode cX10_isInRing 4 = .ok (.iload_n 1, 1) := by decide +kernel
theorem dX10_isInRing_5 : decode cX10_isInRing 5 = .ok (.iaload, 1) := by decide +kernel
theorem dX10_isInRing_6 : decode cX10_isInRing 6 = .ok (.istore_n 2, 1) := by decide +kernel
theorem dX10_isInRing_7 : decode cX10_isInRing 7 = .ok (.iconst 0, 1) := by decide +kernel
theorem dX10_isInRing_8 : decode cX10_isInRing 8 = .ok (.istore_n 3, 1) := by decide +kernel
theorem dX10_isInRing_9 : decode cX10_isInRing 9 = .ok (.iload_n 3, 1) := by decide +kernel
theorem dX10_isInRing_10 : decode cX10_isInRing 10 = .ok (.bipush 6, 2) := by decide +kernel
theorem dX10_isInRing_12 : decode cX10_isInRing 12 = .ok (.if_icmp .ge 21, 3) := by decide +kernel
theorem dX10_isInRing_15 : decode cX10_isInRing 15 = .ok (.iload_n 2, 1) := by decide +kernel
theorem dX10_isInRing_16 : decode cX10_isInRing 16 = .ok (.iload_n 1, 1) := by decide +kernel
theorem dX10_isInRing_17 : decode cX10_isInRing 17 = .ok (.if_icmp .eq 16, 3) := by decide +kernel
theorem dX10_isInRing_20 : decode cX10_isInRing 20 = .ok (.aload_n 0, 1) := by decide +kernel
theorem dX10_isInRing_21 : decode cX10_isInRing 21 = .ok (.getfield 18, 3) := by decide +kernel
theorem dX10_isInRing_24 : decode cX10_isInRing 24 = .ok (.iload_n 2, 1) := by decide +kernel
theorem dX10_isInRing_25 : decode cX10_isInRing 25 = .ok (.iaload, 1) := by decide +kernel
theorem dX10_isInRing_26 : decode cX10_isInRing 26 = .ok (.istore_n 2, 1) := by decide +kernel
theorem dX10_isInRing_27 : decode cX10_isInRing 27 = .ok (.iinc 3 1, 3) := by decide +kernel
theorem dX10_isInRing_30 : decode cX10_isInRing 30 = .ok (.goto (-21), 3) := by decide +kernel
theorem dX10_isInRing_33 : decode cX10_isInRing 33 = .ok (.iload_n 2, 1) := by decide +kernel
theorem dX10_isInRing_34 : decode cX10_isInRing 34 = .ok (.iload_n 1, 1) := by decide +kernel
theorem dX10_isInRing_35 : decode cX10_isInRing 35 = .ok (.if_icmp .ne 7, 3) := by decide +kernel
theorem dX10_isInRing_38 : decode cX10_isInRing 38 = .ok (.iconst 1, 1) := by decide +kernel
theorem dX10_isInRing_39 : decode cX10_isInRing 39 = .ok (.goto 4, 3) := by decide +kernel
theorem dX10_isInRing_42 : decode cX10_isInRing 42 = .ok (.iconst 0, 1) := by decide +kernel
theorem dX10_isInRing_43 : decode cX10_isInRing 43 = .ok (.ireturn, 1) := by decide +kernel
theorem dX11_end_0 : decode cX11_end 0 = .ok (.iload_n 1, 1) := by decide +kernel
theorem dX11_end_1 : decode cX11_end 1 = .ok (.ifCond .lt 14, 3) := by decide +kernel
theorem dX11_end_4 : decode cX11_end 4 = .ok (.iload_n 1, 1) := by decide +kernel
theorem dX11_end_5 : decode cX11_end 5 = .ok (.aload_n 0, 1) := by decide +kernel
theorem dX11_end_6 : decode cX11_end 6 = .ok (.getfield 12, 3) := by decide +kernel
theorem dX11_end_9 : decode cX11_end 9 = .ok (.getfield 70, 3) := by decide +kernel
theorem dX11_end_12 : decode cX11_end 12 = .ok (.if_icmp .le 5, 3) := by decide +kernel
theorem dX11_end_15 : decode cX11_end 15 = .ok (.iconst (-1), 1) := by decide +kernel
theorem dX11_end_16 : decode cX11_end 16 = .ok (.ireturn, 1) := by decide +kernel
theorem dX11_end_17 : decode cX11_end 17 = .ok (.aload_n 0, 1) := by decide +kernel
theorem dX11_end_18 : decode cX11_end 18 = .ok (.getfield 12, 3) := by decide +kernel
theorem dX11_end_21 : decode cX11_end 21 = .ok (.iload_n 1, 1) := by decide +kernel
theorem dX11_end_22 : decode cX11_end 22 = .ok (.putfield 70, 3) := by decide +kernel
theorem dX11_end_25 : decode cX11_end 25 = .ok (.iload_n 1, 1) := by decide +kernel
theorem dX11_end_26 : decode cX11_end 26 = .ok (.ireturn, 1) := by decide +kernel
theorem dX11_placeFor_0 : decode cX11_placeFor 0 = .ok (.iload_n 1, 1) := by decide +kernel
theorem dX11_placeFor_1 : decode cX11_placeFor 1 = .ok (.ifCond .lt 8, 3) := by decide +kernel
theorem dX11_placeFor_4 : decode cX11_placeFor 4 = .ok (.iload_n 1, 1) := by decide +kernel
theorem dX11_placeFor_5 : decode cX11_placeFor 5 = .ok (.iconst 4, 1) := by decide +kernel
theorem dX11_placeFor_6 : decode cX11_placeFor 6 = .ok (.if_icmp .lt 5, 3) := by decide +kernel
theorem dX11_placeFor_9 : decode cX11_placeFor 9 = .ok (.iconst (-1), 1) := by decide +kernel
theorem dX11_placeFor_10 : decode cX11_placeFor 10 = .ok (.ireturn, 1) := by decide +kernel
theorem dX11_placeFor_11 : decode cX11_placeFor 11 = .ok (.aload_n 0, 1) := by decide +kernel
theorem dX11_placeFor_12 : decode cX11_placeFor 12 = .ok (.getfield 12, 3) := by decide +kernel
theorem dX11_placeFor_15 : decode cX11_placeFor 15 = .ok (.getfield 98, 3) := by decide +kernel
theorem dX11_placeFor_18 : decode cX11_placeFor 18 = .ok (.iload_n 1, 1) := by decide +kernel
theorem dX11_placeFor_19 : decode cX11_placeFor 19 = .ok (.iaload, 1) := by decide +kernel
theorem dX11_placeFor_20 : decode cX11_placeFor 20 = .ok (.istore_n 3, 1) := by decide +kernel
theorem dX11_placeFor_21 : decode cX11_placeFor 21 = .ok (.iload_n 2, 1) := by decide +kernel
theorem dX11_placeFor_22 : decode cX11_placeFor 22 = .ok (.iconst (-1), 1) := by decide +kernel
theorem dX11_placeFor_23 : decode cX11_placeFor 23 = .ok (.if_icmp .ne 14, 3) := by decide +kernel
theorem dX11_placeFor_26 : decode cX11_placeFor 26 = .ok (.iload_n 3, 1) := by decide +kernel
theorem dX11_placeFor_27 : decode cX11_placeFor 27 = .ok (.iconst 2, 1) := by decide +kernel
theorem dX11_placeFor_28 : decode cX11_placeFor 28 = .ok (.if_icmp .ge 7, 3) := by decide +kernel
theorem dX11_placeFor_31 : decode cX11_placeFor 31 = .ok (.iload_n 3, 1) := by decide +kernel
theorem dX11_placeFor_32 : decode cX11_placeFor 32 = .ok (.goto 4, 3) := by decide +kernel
theorem dX11_placeFor_35 : decode cX11_placeFor 35 = .ok (.iconst (-1), 1) := by decide +kernel
theorem dX11_placeFor_36 : decode cX11_placeFor 36 = .ok (.ireturn, 1) := by decide +kernel
theorem dX11_placeFor_37 : decode cX11_placeFor 37 = .ok (.iload_n 2, 1) := by decide +kernel
theorem dX11_placeFor_38 : decode cX11_placeFor 38 = .ok (.ifCond .lt 12, 3) := by decide +kernel
theorem dX11_placeFor_41 : decode cX11_placeFor 41 = .ok (.iload_n 2, 1) := by decide +kernel
theorem dX11_placeFor_42 : decode cX11_placeFor 42 = .ok (.iload_n 3, 1) := by decide +kernel
theorem dX11_placeFor_43 : decode cX11_placeFor 43 = .ok (.if_icmp .ge 7, 3) := by decide +kernel
theorem dX11_placeFor_46 : decode cX11_placeFor 46 = .ok (.iload_n 2, 1) := by decide +kernel
theorem dX11_placeFor_47 : decode cX11_placeFor 47 = .ok (.goto 4, 3) := by decide +kernel
theorem dX11_placeFor_50 : decode cX11_placeFor 50 = .ok (.iconst (-1), 1) := by decide +kernel
theorem dX11_placeFor_51 : decode cX11_placeFor 51 = .ok (.ireturn, 1) := by decide +kernel
theorem dX11_fault_0 : decode cX11_fault 0 = .ok (.iload_n 1, 1) := by decide +kernel
theorem dX11_fault_1 : decode cX11_fault 1 = .ok (.ifCond .ne 11, 3) := by decide +kernel
theorem dX11_fault_4 : decode cX11_fault 4 = .ok (.aload_n 0, 1) := by decide +kernel
theorem dX11_fault_5 : decode cX11_fault 5 = .ok (.getfield 12, 3) := by decide +kernel
theorem dX11_fault_8 : decode cX11_fault 8 = .ok (.getfield 82, 3) := by decide +kernel
theorem dX11_fault_11 : decode cX11_fault 11 = .ok (.ireturn, 1) := by decide +kernel
theorem dX11_fault_12 : decode cX11_fault 12 = .ok (.iload_n 1, 1) := by decide +kernel
theorem dX11_fault_13 : decode cX11_fault 13 = .ok (.iconst 1, 1) := by decide +kernel
theorem dX11_fault_14 : decode cX11_fault 14 = .ok (.if_icmp .ne 13, 3) := by decide +kernel
theorem dX11_fault_17 : decode cX11_fault 17 = .ok (.aload_n 0, 1) := by decide +kernel
theorem dX11_fault_18 : decode cX11_fault 18 = .ok (.getfield 12, 3) := by decide +kernel
theorem dX11_fault_21 : decode cX11_fault 21 = .ok (.getfield 85, 3) := by decide +kernel
theorem dX11_fault_24 : decode cX11_fault 24 = .ok (.goto 4, 3) := by decide +kernel
theorem dX11_fault_27 : decode cX11_fault 27 = .ok (.iconst (-1), 1) := by decide +kernel
theorem dX11_fault_28 : decode cX11_fault 28 = .ok (.ireturn, 1) := by decide +kernel
theorem dX11_count_0 : decode cX11_count 0 = .ok (.iload_n 1, 1) := by decide +kernel
theorem dX11_count_1 : decode cX11_count 1 = .ok (.ifCond .lt 20, 3) := by decide +kernel
theorem dX11_count_4 : decode cX11_count 4 = .ok (.iload_n 1, 1) := by decide +kernel
theorem dX11_count_5 : decode cX11_count 5 = .ok (.iconst 4, 1) := by decide +kernel
theorem dX11_count_6 : decode cX11_count 6 = .ok (.if_icmp .ge 15, 3) := by decide +kernel
theorem dX11_count_9 : decode cX11_count 9 = .ok (.aload_n 0, 1) := by decide +kernel
theorem dX11_count_10 : decode cX11_count 10 = .ok (.getfield 12, 3) := by decide +kernel
theorem dX11_count_13 : decode cX11_count 13 = .ok (.getfield 98, 3) := by decide +kernel
theorem dX11_count_16 : decode cX11_count 16 = .ok (.iload_n 1, 1) := by decide +kernel
theorem dX11_count_17 : decode cX11_count 17 = .ok (.iaload, 1) := by decide +kernel
theorem dX11_count_18 : decode cX11_count 18 = .ok (.goto 5, 3) := by decide +kernel
theorem dX11_count_21 : decode cX11_count 21 = .ok (.bipush (-2), 2) := by decide +kernel
theorem dX11_count_23 : decode cX11_count 23 = .ok (.ireturn, 1) := by decide +kernel
theorem dX11_hasStreet_0 : decode cX11_hasStreet 0 = .ok (.iload_n 1, 1) := by decide +kernel
theorem dX11_hasStreet_1 : decode cX11_hasStreet 1 = .ok (.ifCond .lt 20, 3) := by decide +kernel
theorem dX11_hasStreet_4 : decode cX11_hasStreet 4 = .ok (.iload_n 1, 1) := by decide +kernel
theorem dX11_hasStreet_5 : decode cX11_hasStreet 5 = .ok (.aload_n 0, 1) := by decide +kernel
theorem dX11_hasStreet_6 : decode cX11_hasStreet 6 = .ok (.getfield 12, 3) := by decide +kernel
theorem dX11_hasStreet_9 : decode cX11_hasStreet 9 = .ok (.getfield 98, 3) := by decide +kernel
theorem dX11_hasStreet_12 : decode cX11_hasStreet 12 = .ok (.iconst 0, 1) := by decide +kernel
theorem dX11_hasStreet_13 : decode cX11_hasStreet 13 = .ok (.iaload, 1) := by decide +kernel
theorem dX11_hasStreet_14 : decode cX11_hasStreet 14 = .ok (.if_icmp .ge 7, 3) := by decide +kernel
theorem dX11_hasStreet_17 : decode cX11_hasStreet 17 = .ok (.iconst 1, 1) := by decide +kernel
theorem dX11_hasStreet_18 : decode cX11_hasStreet 18 = .ok (.goto 4, 3) := by decide +kernel
theorem dX11_hasStreet_21 : decode cX11_hasStreet 21 = .ok (.iconst 0, 1) := by decide +kernel
theorem dX11_hasStreet_22 : decode cX11_hasStreet 22 = .ok (.ireturn, 1) := by decide +kernel
theorem dX11_hasYear_0 : decode cX11_hasYear 0 = .ok (.iload_n 1, 1) := by decide +kernel
theorem dX11_hasYear_1 : decode cX11_hasYear 1 = .ok (.ifCond .lt 20, 3) := by decide +kernel
theorem dX11_hasYear_4 : decode cX11_hasYear 4 = .ok (.iload_n 1, 1) := by decide +kernel
theorem dX11_hasYear_5 : decode cX11_hasYear 5 = .ok (.aload_n 0, 1) := by decide +kernel
theorem dX11_hasYear_6 : decode cX11_hasYear 6 = .ok (.getfield 12, 3) := by decide +kernel
theorem dX11_hasYear_9 : decode cX11_hasYear 9 = .ok (.getfield 98, 3) := by decide +kernel
theorem dX11_hasYear_12 : decode cX11_hasYear 12 = .ok (.iconst 1, 1) := by decide +kernel
theorem dX11_hasYear_13 : decode cX11_hasYear 13 = .ok (.iaload, 1) := by decide +kernel
theorem dX11_hasYear_14 : decode cX11_hasYear 14 = .ok (.if_icmp .ge 7, 3) := by decide +kernel
theorem dX11_hasYear_17 : decode cX11_hasYear 17 = .ok (.iconst 1, 1) := by decide +kernel
theorem dX11_hasYear_18 : decode cX11_hasYear 18 = .ok (.goto 4, 3) := by decide +kernel
theorem dX11_hasYear_21 : decode cX11_hasYear 21 = .ok (.iconst 0, 1) := by decide +kernel
theorem dX11_hasYear_22 : decode cX11_hasYear 22 = .ok (.ireturn, 1) := by decide +kernel
theorem dX11_hasLog_0 : decode cX11_hasLog 0 = .ok (.iload_n 1, 1) := by decide +kernel
theorem dX11_hasLog_1 : decode cX11_hasLog 1 = .ok (.ifCond .lt 20, 3) := by decide +kernel
theorem dX11_hasLog_4 : decode cX11_hasLog 4 = .ok (.iload_n 1, 1) := by decide +kernel
theorem dX11_hasLog_5 : decode cX11_hasLog 5 = .ok (.aload_n 0, 1) := by decide +kernel
theorem dX11_hasLog_6 : decode cX11_hasLog 6 = .ok (.getfield 12, 3) := by decide +kernel
theorem dX11_hasLog_9 : decode cX11_hasLog 9 = .ok (.getfield 98, 3) := by decide +kernel
theorem dX11_hasLog_12 : decode cX11_hasLog 12 = .ok (.iconst 2, 1) := by decide +kernel
theorem dX11_hasLog_13 : decode cX11_hasLog 13 = .ok (.iaload, 1) := by decide +kernel
theorem dX11_hasLog_14 : decode cX11_hasLog 14 = .ok (.if_icmp .ge 7, 3) := by decide +kernel
theorem dX11_hasLog_17 : decode cX11_hasLog 17 = .ok (.iconst 1, 1) := by decide +kernel
theorem dX11_hasLog_18 : decode cX11_hasLog 18 = .ok (.goto 4, 3) := by decide +kernel
theorem dX11_hasLog_21 : decode cX11_hasLog 21 = .ok (.iconst 0, 1) := by decide +kernel
theorem dX11_hasLog_22 : decode cX11_hasLog 22 = .ok (.ireturn, 1) := by decide +kernel
theorem dX11_hasSwaps_0 : decode cX11_hasSwaps 0 = .ok (.iload_n 1, 1) := by decide +kernel
theorem dX11_hasSwaps_1 : decode cX11_hasSwaps 1 = .ok (.ifCond .lt 20, 3) := by decide +kernel
theorem dX11_hasSwaps_4 : decode cX11_hasSwaps 4 = .ok (.iload_n 1, 1) := by decide +kernel
theorem dX11_hasSwaps_5 : decode cX11_hasSwaps 5 = .ok (.aload_n 0, 1) := by decide +kernel
theorem dX11_hasSwaps_6 : decode cX11_hasSwaps 6 = .ok (.getfield 12, 3) := by decide +kernel
theorem dX11_hasSwaps_9 : decode cX11_hasSwaps 9 = .ok (.getfield 98, 3) := by decide +kernel
theorem dX11_hasSwaps_12 : decode cX11_hasSwaps 12 = .ok (.iconst 3, 1) := by decide +kernel
theorem dX11_hasSwaps_13 : decode cX11_hasSwaps 13 = .ok (.iaload, 1) := by decide +kernel
theorem dX11_hasSwaps_14 : decode cX11_hasSwaps 14 = .ok (.if_icmp .ge 7, 3) := by decide +kernel
theorem dX11_hasSwaps_17 : decode cX11_hasSwaps 17 = .ok (.iconst 1, 1) := by decide +kernel
theorem dX11_hasSwaps_18 : decode cX11_hasSwaps 18 = .ok (.goto 4, 3) := by decide +kernel
theorem dX11_hasSwaps_21 : decode cX11_hasSwaps 21 = .ok (.iconst 0, 1) := by decide +kernel
theorem dX11_hasSwaps_22 : decode cX11_hasSwaps 22 = .ok (.ireturn, 1) := by decide +kernel
theorem dX11_isAmong_0 : decode cX11_isAmong 0 = .ok (.iload_n 0, 1) := by decide +kernel
theorem dX11_isAmong_1 : decode cX11_isAmong 1 = .ok (.iload_n 1, 1) := by decide +kernel
theorem dX11_isAmong_2 : decode cX11_isAmong 2 = .ok (.if_icmp .lt 14, 3) := by decide +kernel
theorem dX11_isAmong_5 : decode cX11_isAmong 5 = .ok (.iload_n 0, 1) := by decide +kernel
theorem dX11_isAmong_6 : decode cX11_isAmong 6 = .ok (.iload_n 1, 1) := by decide +kernel
theorem dX11_isAmong_7 : decode cX11_isAmong 7 = .ok (.iload_n 2, 1) := by decide +kernel
theorem dX11_isAmong_8 : decode cX11_isAmong 8 = .ok (.iadd, 1) := by decide +kernel
theorem dX11_isAmong_9 : decode cX11_isAmong 9 = .ok (.if_icmp .ge 7, 3) := by decide +kernel
theorem dX11_isAmong_12 : decode cX11_isAmong 12 = .ok (.iconst 1, 1) := by decide +kernel
theorem dX11_isAmong_13 : decode cX11_isAmong 13 = .ok (.goto 4, 3) := by decide +kernel
theorem dX11_isAmong_16 : decode cX11_isAmong 16 = .ok (.iconst 0, 1) := by decide +kernel
theorem dX11_isAmong_17 : decode cX11_isAmong 17 = .ok (.ireturn, 1) := by decide +kernel
theorem dX11_marginOf_0 : decode cX11_marginOf 0 = .ok (.iconst 0, 1) := by decide +kernel
theorem dX11_marginOf_1 : decode cX11_marginOf 1 = .ok (.istore 4, 2) := by decide +kernel
theorem dX11_marginOf_3 : decode cX11_marginOf 3 = .ok (.iload_n 2, 1) := by decide +kernel
theorem dX11_marginOf_4 : decode cX11_marginOf 4 = .ok (.istore 5, 2) := by decide +kernel
theorem dX11_marginOf_6 : decode cX11_marginOf 6 = .ok (.iload 5, 2) := by decide +kernel
theorem dX11_marginOf_8 : decode cX11_marginOf 8 = .ok (.iload_n 2, 1) := by decide +kernel
theorem dX11_marginOf_9 : decode cX11_marginOf 9 = .ok (.iload_n 3, 1) := by decide +kernel
theorem dX11_marginOf_10 : decode cX11_marginOf 10 = .ok (.iadd, 1) := by decide +kernel
theorem dX11_marginOf_11 : decode cX11_marginOf 11 = .ok (.if_icmp .ge 21, 3) := by decide +kernel
theorem dX11_marginOf_14 : decode cX11_marginOf 14 = .ok (.iload 4, 2) := by decide +kernel
theorem dX11_marginOf_16 : decode cX11_marginOf 16 = .ok (.aload_n 1, 1) := by decide +kernel
theorem dX11_marginOf_17 : decode cX11_marginOf 17 = .ok (.getfield 155, 3) := by decide +kernel
theorem dX11_marginOf_20 : decode cX11_marginOf 20 = .ok (.iload 5, 2) := by decide +kernel
theorem dX11_marginOf_22 : decode cX11_marginOf 22 = .ok (.iaload, 1) := by decide +kernel
theorem dX11_marginOf_23 : decode cX11_marginOf 23 = .ok (.iadd, 1) := by decide +kernel
theorem dX11_marginOf_24 : decode cX11_marginOf 24 = .ok (.istore 4, 2) := by decide +kernel
theorem dX11_marginOf_26 : decode cX11_marginOf 26 = .ok (.iinc 5 1, 3) := by decide +kernel
theorem dX11_marginOf_29 : decode cX11_marginOf 29 = .ok (.goto (-23), 3) := by decide +kernel
theorem dX11_marginOf_32 : decode cX11_marginOf 32 = .ok (.iload 4, 2) := by decide +kernel
theorem dX11_marginOf_34 : decode cX11_marginOf 34 = .ok (.aload_n 0, 1) := by decide +kernel
theorem dX11_marginOf_35 : decode cX11_marginOf 35 = .ok (.getfield 66, 3) := by decide +kernel
theorem dX11_marginOf_38 : decode cX11_marginOf 38 = .ok (.iload_n 2, 1) := by decide +kernel
theorem dX11_marginOf_39 : decode cX11_marginOf 39 = .ok (.iload_n 3, 1) := by decide +kernel
theorem dX11_marginOf_40 : decode cX11_marginOf 40 = .ok (.iadd, 1) := by decide +kernel
theorem dX11_marginOf_41 : decode cX11_marginOf 41 = .ok (.iaload, 1) := by decide +kernel
theorem dX11_marginOf_42 : decode cX11_marginOf 42 = .ok (.isub, 1) := by decide +kernel
theorem dX11_marginOf_43 : decode cX11_marginOf 43 = .ok (.ireturn, 1) := by decide +kernel
theorem dX11_picks_0 : decode cX11_picks 0 = .ok (.lconst 1, 1) := by decide +kernel
theorem dX11_picks_1 : decode cX11_picks 1 = .ok (.lstore_n 2, 1) := by decide +kernel
theorem dX11_picks_2 : decode cX11_picks 2 = .ok (.iconst 1, 1) := by decide +kernel
theorem dX11_picks_3 : decode cX11_picks 3 = .ok (.istore 4, 2) := by decide +kernel
theorem dX11_picks_5 : decode cX11_picks 5 = .ok (.iload 4, 2) := by decide +kernel
theorem dX11_picks_7 : decode cX11_picks 7 = .ok (.iload_n 1, 1) := by decide +kernel
theorem dX11_picks_8 : decode cX11_picks 8 = .ok (.if_icmp .gt 23, 3) := by decide +kernel
theorem dX11_picks_11 : decode cX11_picks 11 = .ok (.lload_n 2, 1) := by decide +kernel
theorem dX11_picks_12 : decode cX11_picks 12 = .ok (.iload_n 0, 1) := by decide +kernel
theorem dX11_picks_13 : decode cX11_picks 13 = .ok (.iload_n 1, 1) := by decide +kernel
theorem dX11_picks_14 : decode cX11_picks 14 = .ok (.isub, 1) := by decide +kernel
theorem dX11_picks_15 : decode cX11_picks 15 = .ok (.iload 4, 2) := by decide +kernel
theorem dX11_picks_17 : decode cX11_picks 17 = .ok (.iadd, 1) := by decide +kernel
theorem dX11_picks_18 : decode cX11_picks 18 = .ok (.i2l, 1) := by decide +kernel
theorem dX11_picks_19 : decode cX11_picks 19 = .ok (.lmul, 1) := by decide +kernel
theorem dX11_picks_20 : decode cX11_picks 20 = .ok (.iload 4, 2) := by decide +kernel
theorem dX11_picks_22 : decode cX11_picks 22 = .ok (.i2l, 1) := by decide +kernel
theorem dX11_picks_23 : decode cX11_picks 23 = .ok (.ldiv, 1) := by decide +kernel
theorem dX11_picks_24 : decode cX11_picks 24 = .ok (.lstore_n 2, 1) := by decide +kernel
theorem dX11_picks_25 : decode cX11_picks 25 = .ok (.iinc 4 1, 3) := by decide +kernel
theorem dX11_picks_28 : decode cX11_picks 28 = .ok (.goto (-23), 3) := by decide +kernel
theorem dX11_picks_31 : decode cX11_picks 31 = .ok (.lload_n 2, 1) := by decide +kernel
theorem dX11_picks_32 : decode cX11_picks 32 = .ok (.lreturn, 1) := by decide +kernel
theorem dX11_power_0 : decode cX11_power 0 = .ok (.lconst 1, 1) := by decide +kernel
theorem dX11_power_1 : decode cX11_power 1 = .ok (.lstore_n 3, 1) := by decide +kernel
theorem dX11_power_2 : decode cX11_power 2 = .ok (.iconst 0, 1) := by decide +kernel
theorem dX11_power_3 : decode cX11_power 3 = .ok (.istore 5, 2) := by decide +kernel
theorem dX11_power_5 : decode cX11_power 5 = .ok (.iload 5, 2) := by decide +kernel
theorem dX11_power_7 : decode cX11_power 7 = .ok (.iload_n 2, 1) := by decide +kernel
theorem dX11_power_8 : decode cX11_power 8 = .ok (.if_icmp .ge 13, 3) := by decide +kernel
theorem dX11_power_11 : decode cX11_power 11 = .ok (.lload_n 3, 1) := by decide +kernel
theorem dX11_power_12 : decode cX11_power 12 = .ok (.lload_n 0, 1) := by decide +kernel
theorem dX11_power_13 : decode cX11_power 13 = .ok (.lmul, 1) := by decide +kernel
theorem dX11_power_14 : decode cX11_power 14 = .ok (.lstore_n 3, 1) := by decide +kernel
theorem dX11_power_15 : decode cX11_power 15 = .ok (.iinc 5 1, 3) := by decide +kernel
theorem dX11_power_18 : decode cX11_power 18 = .ok (.goto (-13), 3) := by decide +kernel
theorem dX11_power_21 : decode cX11_power 21 = .ok (.lload_n 3, 1) := by decide +kernel
theorem dX11_power_22 : decode cX11_power 22 = .ok (.lreturn, 1) := by decide +kernel
theorem dX11_commonDivisor_0 : decode cX11_commonDivisor 0 = .ok (.lload_n 0, 1) := by decide +kernel
theorem dX11_commonDivisor_1 : decode cX11_commonDivisor 1 = .ok (.lstore 4, 2) := by decide +kernel
theorem dX11_commonDivisor_3 : decode cX11_commonDivisor 3 = .ok (.lload_n 2, 1) := by decide +kernel
theorem dX11_commonDivisor_4 : decode cX11_commonDivisor 4 = .ok (.lstore 6, 2) := by decide +kernel
theorem dX11_commonDivisor_6 : decode cX11_commonDivisor 6 = .ok (.iconst 0, 1) := by decide +kernel
theorem dX11_commonDivisor_7 : decode cX11_commonDivisor 7 = .ok (.istore 8, 2) := by decide +kernel
theorem dX11_commonDivisor_9 : decode cX11_commonDivisor 9 = .ok (.iload 8, 2) := by decide +kernel
theorem dX11_commonDivisor_11 : decode cX11_commonDivisor 11 = .ok (.sipush 200, 3) := by decide +kernel
theorem dX11_commonDivisor_14 : decode cX11_commonDivisor 14 = .ok (.if_icmp .ge 31, 3) := by decide +kernel
theorem dX11_commonDivisor_17 : decode cX11_commonDivisor 17 = .ok (.lload 6, 2) := by decide +kernel
theorem dX11_commonDivisor_19 : decode cX11_commonDivisor 19 = .ok (.lconst 0, 1) := by decide +kernel
theorem dX11_commonDivisor_20 : decode cX11_commonDivisor 20 = .ok (.lcmp, 1) := by decide +kernel
theorem dX11_commonDivisor_21 : decode cX11_commonDivisor 21 = .ok (.ifCond .eq 24, 3) := by decide +kernel
theorem dX11_commonDivisor_24 : decode cX11_commonDivisor 24 = .ok (.lload 4, 2) := by decide +kernel
theorem dX11_commonDivisor_26 : decode cX11_commonDivisor 26 = .ok (.lload 6, 2) := by decide +kernel
theorem dX11_commonDivisor_28 : decode cX11_commonDivisor 28 = .ok (.lrem, 1) := by decide +kernel
theorem dX11_commonDivisor_29 : decode cX11_commonDivisor 29 = .ok (.lstore 9, 2) := by decide +kernel
theorem dX11_commonDivisor_31 : decode cX11_commonDivisor 31 = .ok (.lload 6, 2) := by decide +kernel
theorem dX11_commonDivisor_33 : decode cX11_commonDivisor 33 = .ok (.lstore 4, 2) := by decide +kernel
theorem dX11_commonDivisor_35 : decode cX11_commonDivisor 35 = .ok (.lload 9, 2) := by decide +kernel
theorem dX11_commonDivisor_37 : decode cX11_commonDivisor 37 = .ok (.lstore 6, 2) := by decide +kernel
theorem dX11_commonDivisor_39 : decode cX11_commonDivisor 39 = .ok (.iinc 8 1, 3) := by decide +kernel
theorem dX11_commonDivisor_42 : decode cX11_commonDivisor 42 = .ok (.goto (-33), 3) := by decide +kernel
theorem dX11_commonDivisor_45 : decode cX11_commonDivisor 45 = .ok (.lload 4, 2) := by decide +kernel
theorem dX11_commonDivisor_47 : decode cX11_commonDivisor 47 = .ok (.lreturn, 1) := by decide +kernel
theorem dX11_leastTaken_0 : decode cX11_leastTaken 0 = .ok (.iconst 0, 1) := by decide +kernel
theorem dX11_leastTaken_1 : decode cX11_leastTaken 1 = .ok (.istore 4, 2) := by decide +kernel
theorem dX11_leastTaken_3 : decode cX11_leastTaken 3 = .ok (.iload 4, 2) := by decide +kernel
theorem dX11_leastTaken_5 : decode cX11_leastTaken 5 = .ok (.bipush 9, 2) := by decide +kernel
theorem dX11_leastTaken_7 : decode cX11_leastTaken 7 = .ok (.if_icmp .ge 19, 3) := by decide +kernel
theorem dX11_leastTaken_10 : decode cX11_leastTaken 10 = .ok (.iload 4, 2) := by decide +kernel
theorem dX11_leastTaken_12 : decode cX11_leastTaken 12 = .ok (.i2l, 1) := by decide +kernel
theorem dX11_leastTaken_13 : decode cX11_leastTaken 13 = .ok (.lload_n 2, 1) := by decide +kernel
theorem dX11_leastTaken_14 : decode cX11_leastTaken 14 = .ok (.lmul, 1) := by decide +kernel
theorem dX11_leastTaken_15 : decode cX11_leastTaken 15 = .ok (.lload_n 0, 1) := by decide +kernel
theorem dX11_leastTaken_16 : decode cX11_leastTaken 16 = .ok (.lcmp, 1) := by decide +kernel
theorem dX11_leastTaken_17 : decode cX11_leastTaken 17 = .ok (.ifCond .ge 9, 3) := by decide +kernel
theorem dX11_leastTaken_20 : decode cX11_leastTaken 20 = .ok (.iinc 4 1, 3) := by decide +kernel
theorem dX11_leastTaken_23 : decode cX11_leastTaken 23 = .ok (.goto (-20), 3) := by decide +kernel
theorem dX11_leastTaken_26 : decode cX11_leastTaken 26 = .ok (.iload 4, 2) := by decide +kernel
theorem dX11_leastTaken_28 : decode cX11_leastTaken 28 = .ok (.ireturn, 1) := by decide +kernel
theorem dJ6_bitCount_0f7a4_0 : decode cJ6_bitCount_0f7a4 0 = .ok (.iload_n 0, 1) := by decide +kernel
theorem dJ6_bitCount_0f7a4_1 : decode cJ6_bitCount_0f7a4 1 = .ok (.iload_n 0, 1) := by decide +kernel
theorem dJ6_bitCount_0f7a4_2 : decode cJ6_bitCount_0f7a4 2 = .ok (.iconst 1, 1) := by decide +kernel
theorem dJ6_bitCount_0f7a4_3 : decode cJ6_bitCount_0f7a4 3 = .ok (.iushr, 1) := by decide +kernel
theorem dJ6_bitCount_0f7a4_4 : decode cJ6_bitCount_0f7a4 4 = .ok (.ldc_w 265, 3) := by decide +kernel
theorem dJ6_bitCount_0f7a4_7 : decode cJ6_bitCount_0f7a4 7 = .ok (.iand, 1) := by decide +kernel
theorem dJ6_bitCount_0f7a4_8 : decode cJ6_bitCount_0f7a4 8 = .ok (.isub, 1) := by decide +kernel
theorem dJ6_bitCount_0f7a4_9 : decode cJ6_bitCount_0f7a4 9 = .ok (.istore_n 0, 1) := by decide +kernel
theorem dJ6_bitCount_0f7a4_10 : decode cJ6_bitCount_0f7a4 10 = .ok (.iload_n 0, 1) := by decide +kernel
theorem dJ6_bitCount_0f7a4_11 : decode cJ6_bitCount_0f7a4 11 = .ok (.ldc_w 266, 3) := by decide +kernel
theorem dJ6_bitCount_0f7a4_14 : decode cJ6_bitCount_0f7a4 14 = .ok (.iand, 1) := by decide +kernel
theorem dJ6_bitCount_0f7a4_15 : decode cJ6_bitCount_0f7a4 15 = .ok (.iload_n 0, 1) := by decide +kernel
theorem dJ6_bitCount_0f7a4_16 : decode cJ6_bitCount_0f7a4 16 = .ok (.iconst 2, 1) := by decide +kernel
theorem dJ6_bitCount_0f7a4_17 : decode cJ6_bitCount_0f7a4 17 = .ok (.iushr, 1) := by decide +kernel
theorem dJ6_bitCount_0f7a4_18 : decode cJ6_bitCount_0f7a4 18 = .ok (.ldc_w 266, 3) := by decide +kernel
theorem dJ6_bitCount_0f7a4_21 : decode cJ6_bitCount_0f7a4 21 = .ok (.iand, 1) := by decide +kernel
theorem dJ6_bitCount_0f7a4_22 : decode cJ6_bitCount_0f7a4 22 = .ok (.iadd, 1) := by decide +kernel
theorem dJ6_bitCount_0f7a4_23 : decode cJ6_bitCount_0f7a4 23 = .ok (.istore_n 0, 1) := by decide +kernel
theorem dJ6_bitCount_0f7a4_24 : decode cJ6_bitCount_0f7a4 24 = .ok (.iload_n 0, 1) := by decide +kernel
theorem dJ6_bitCount_0f7a4_25 : decode cJ6_bitCount_0f7a4 25 = .ok (.iload_n 0, 1) := by decide +kernel
theorem dJ6_bitCount_0f7a4_26 : decode cJ6_bitCount_0f7a4 26 = .ok (.iconst 4, 1) := by decide +kernel
theorem dJ6_bitCount_0f7a4_27 : decode cJ6_bitCount_0f7a4 27 = .ok (.iushr, 1) := by decide +kernel
theorem dJ6_bitCount_0f7a4_28 : decode cJ6_bitCount_0f7a4 28 = .ok (.iadd, 1) := by decide +kernel
theorem dJ6_bitCount_0f7a4_29 : decode cJ6_bitCount_0f7a4 29 = .ok (.ldc_w 267, 3) := by decide +kernel
theorem dJ6_bitCount_0f7a4_32 : decode cJ6_bitCount_0f7a4 32 = .ok (.iand, 1) := by decide +kernel
theorem dJ6_bitCount_0f7a4_33 : decode cJ6_bitCount_0f7a4 33 = .ok (.istore_n 0, 1) := by decide +kernel
theorem dJ6_bitCount_0f7a4_34 : decode cJ6_bitCount_0f7a4 34 = .ok (.iload_n 0, 1) := by decide +kernel
theorem dJ6_bitCount_0f7a4_35 : decode cJ6_bitCount_0f7a4 35 = .ok (.iload_n 0, 1) := by decide +kernel
theorem dJ6_bitCount_0f7a4_36 : decode cJ6_bitCount_0f7a4 36 = .ok (.bipush 8, 2) := by decide +kernel
theorem dJ6_bitCount_0f7a4_38 : decode cJ6_bitCount_0f7a4 38 = .ok (.iushr, 1) := by decide +kernel
theorem dJ6_bitCount_0f7a4_39 : decode cJ6_bitCount_0f7a4 39 = .ok (.iadd, 1) := by decide +kernel
theorem dJ6_bitCount_0f7a4_40 : decode cJ6_bitCount_0f7a4 40 = .ok (.istore_n 0, 1) := by decide +kernel
theorem dJ6_bitCount_0f7a4_41 : decode cJ6_bitCount_0f7a4 41 = .ok (.iload_n 0, 1) := by decide +kernel
theorem dJ6_bitCount_0f7a4_42 : decode cJ6_bitCount_0f7a4 42 = .ok (.iload_n 0, 1) := by decide +kernel
theorem dJ6_bitCount_0f7a4_43 : decode cJ6_bitCount_0f7a4 43 = .ok (.bipush 16, 2) := by decide +kernel
theorem dJ6_bitCount_0f7a4_45 : decode cJ6_bitCount_0f7a4 45 = .ok (.iushr, 1) := by decide +kernel
theorem dJ6_bitCount_0f7a4_46 : decode cJ6_bitCount_0f7a4 46 = .ok (.iadd, 1) := by decide +kernel
theorem dJ6_bitCount_0f7a4_47 : decode cJ6_bitCount_0f7a4 47 = .ok (.istore_n 0, 1) := by decide +kernel
theorem dJ6_bitCount_0f7a4_48 : decode cJ6_bitCount_0f7a4 48 = .ok (.iload_n 0, 1) := by decide +kernel
theorem dJ6_bitCount_0f7a4_49 : decode cJ6_bitCount_0f7a4 49 = .ok (.bipush 63, 2) := by decide +kernel
theorem dJ6_bitCount_0f7a4_51 : decode cJ6_bitCount_0f7a4 51 = .ok (.iand, 1) := by decide +kernel
theorem dJ6_bitCount_0f7a4_52 : decode cJ6_bitCount_0f7a4 52 = .ok (.ireturn, 1) := by decide +kernel
theorem dJ13_bitCount_95d88_0 : decode cJ13_bitCount_95d88 0 = .ok (.lload_n 0, 1) := by decide +kernel
theorem dJ13_bitCount_95d88_1 : decode cJ13_bitCount_95d88 1 = .ok (.lload_n 0, 1) := by decide +kernel
theorem dJ13_bitCount_95d88_2 : decode cJ13_bitCount_95d88 2 = .ok (.iconst 1, 1) := by decide +kernel
theorem dJ13_bitCount_95d88_3 : decode cJ13_bitCount_95d88 3 = .ok (.lushr, 1) := by decide +kernel
theorem dJ13_bitCount_95d88_4 : decode cJ13_bitCount_95d88 4 = .ok (.ldc2_w 314, 3) := by decide +kernel
theorem dJ13_bitCount_95d88_7 : decode cJ13_bitCount_95d88 7 = .ok (.land, 1) := by decide +kernel
theorem dJ13_bitCount_95d88_8 : decode cJ13_bitCount_95d88 8 = .ok (.lsub, 1) := by decide +kernel
theorem dJ13_bitCount_95d88_9 : decode cJ13_bitCount_95d88 9 = .ok (.lstore_n 0, 1) := by decide +kernel
theorem dJ13_bitCount_95d88_10 : decode cJ13_bitCount_95d88 10 = .ok (.lload_n 0, 1) := by decide +kernel
theorem dJ13_bitCount_95d88_11 : decode cJ13_bitCount_95d88 11 = .ok (.ldc2_w 316, 3) := by decide +kernel
theorem dJ13_bitCount_95d88_14 : decode cJ13_bitCount_95d88 14 = .ok (.land, 1) := by decide +kernel
theorem dJ13_bitCount_95d88_15 : decode cJ13_bitCount_95d88 15 = .ok (.lload_n 0, 1) := by decide +kernel
theorem dJ13_bitCount_95d88_16 : decode cJ13_bitCount_95d88 16 = .ok (.iconst 2, 1) := by decide +kernel
theorem dJ13_bitCount_95d88_17 : decode cJ13_bitCount_95d88 17 = .ok (.lushr, 1) := by decide +kernel
theorem dJ13_bitCount_95d88_18 : decode cJ13_bitCount_95d88 18 = .ok (.ldc2_w 316, 3) := by decide +kernel
theorem dJ13_bitCount_95d88_21 : decode cJ13_bitCount_95d88 21 = .ok (.land, 1) := by decide +kernel
theorem dJ13_bitCount_95d88_22 : decode cJ13_bitCount_95d88 22 = .ok (.ladd, 1) := by decide +kernel
theorem dJ13_bitCount_95d88_23 : decode cJ13_bitCount_95d88 23 = .ok (.lstore_n 0, 1) := by decide +kernel
theorem dJ13_bitCount_95d88_24 : decode cJ13_bitCount_95d88 24 = .ok (.lload_n 0, 1) := by decide +kernel
theorem dJ13_bitCount_95d88_25 : decode cJ13_bitCount_95d88 25 = .ok (.lload_n 0, 1) := by decide +kernel
theorem dJ13_bitCount_95d88_26 : decode cJ13_bitCount_95d88 26 = .ok (.iconst 4, 1) := by decide +kernel
theorem dJ13_bitCount_95d88_27 : decode cJ13_bitCount_95d88 27 = .ok (.lushr, 1) := by decide +kernel
theorem dJ13_bitCount_95d88_28 : decode cJ13_bitCount_95d88 28 = .ok (.ladd, 1) := by decide +kernel
theorem dJ13_bitCount_95d88_29 : decode cJ13_bitCount_95d88 29 = .ok (.ldc2_w 318, 3) := by decide +kernel
theorem dJ13_bitCount_95d88_32 : decode cJ13_bitCount_95d88 32 = .ok (.land, 1) := by decide +kernel
theorem dJ13_bitCount_95d88_33 : decode cJ13_bitCount_95d88 33 = .ok (.lstore_n 0, 1) := by decide +kernel
theorem dJ13_bitCount_95d88_34 : decode cJ13_bitCount_95d88 34 = .ok (.lload_n 0, 1) := by decide +kernel
theorem dJ13_bitCount_95d88_35 : decode cJ13_bitCount_95d88 35 = .ok (.lload_n 0, 1) := by decide +kernel
theorem dJ13_bitCount_95d88_36 : decode cJ13_bitCount_95d88 36 = .ok (.bipush 8, 2) := by decide +kernel
theorem dJ13_bitCount_95d88_38 : decode cJ13_bitCount_95d88 38 = .ok (.lushr, 1) := by decide +kernel
theorem dJ13_bitCount_95d88_39 : decode cJ13_bitCount_95d88 39 = .ok (.ladd, 1) := by decide +kernel
theorem dJ13_bitCount_95d88_40 : decode cJ13_bitCount_95d88 40 = .ok (.lstore_n 0, 1) := by decide +kernel
theorem dJ13_bitCount_95d88_41 : decode cJ13_bitCount_95d88 41 = .ok (.lload_n 0, 1) := by decide +kernel
theorem dJ13_bitCount_95d88_42 : decode cJ13_bitCount_95d88 42 = .ok (.lload_n 0, 1) := by decide +kernel
theorem dJ13_bitCount_95d88_43 : decode cJ13_bitCount_95d88 43 = .ok (.bipush 16, 2) := by decide +kernel
theorem dJ13_bitCount_95d88_45 : decode cJ13_bitCount_95d88 45 = .ok (.lushr, 1) := by decide +kernel
theorem dJ13_bitCount_95d88_46 : decode cJ13_bitCount_95d88 46 = .ok (.ladd, 1) := by decide +kernel
theorem dJ13_bitCount_95d88_47 : decode cJ13_bitCount_95d88 47 = .ok (.lstore_n 0, 1) := by decide +kernel
theorem dJ13_bitCount_95d88_48 : decode cJ13_bitCount_95d88 48 = .ok (.lload_n 0, 1) := by decide +kernel
theorem dJ13_bitCount_95d88_49 : decode cJ13_bitCount_95d88 49 = .ok (.lload_n 0, 1) := by decide +kernel
theorem dJ13_bitCount_95d88_50 : decode cJ13_bitCount_95d88 50 = .ok (.bipush 32, 2) := by decide +kernel
theorem dJ13_bitCount_95d88_52 : decode cJ13_bitCount_95d88 52 = .ok (.lushr, 1) := by decide +kernel
theorem dJ13_bitCount_95d88_53 : decode cJ13_bitCount_95d88 53 = .ok (.ladd, 1) := by decide +kernel
theorem dJ13_bitCount_95d88_54 : decode cJ13_bitCount_95d88 54 = .ok (.lstore_n 0, 1) := by decide +kernel
theorem dJ13_bitCount_95d88_55 : decode cJ13_bitCount_95d88 55 = .ok (.lload_n 0, 1) := by decide +kernel
theorem dJ13_bitCount_95d88_56 : decode cJ13_bitCount_95d88 56 = .ok (.l2i, 1) := by decide +kernel
theorem dJ13_bitCount_95d88_57 : decode cJ13_bitCount_95d88 57 = .ok (.bipush 127, 2) := by decide +kernel
theorem dJ13_bitCount_95d88_59 : decode cJ13_bitCount_95d88 59 = .ok (.iand, 1) := by decide +kernel
theorem dJ13_bitCount_95d88_60 : decode cJ13_bitCount_95d88 60 = .ok (.ireturn, 1) := by decide +kernel
theorem dJ0_coder_7d493_0 : decode cJ0_coder_7d493 0 = .ok (.getstatic 38, 3) := by decide +kernel
theorem dJ0_coder_7d493_3 : decode cJ0_coder_7d493 3 = .ok (.ifCond .eq 10, 3) := by decide +kernel
theorem dJ0_coder_7d493_6 : decode cJ0_coder_7d493 6 = .ok (.aload_n 0, 1) := by decide +kernel
theorem dJ0_coder_7d493_7 : decode cJ0_coder_7d493 7 = .ok (.getfield 15, 3) := by decide +kernel
theorem dJ0_coder_7d493_10 : decode cJ0_coder_7d493 10 = .ok (.goto 4, 3) := by decide +kernel
theorem dJ0_coder_7d493_13 : decode cJ0_coder_7d493 13 = .ok (.iconst 1, 1) := by decide +kernel
theorem dJ0_coder_7d493_14 : decode cJ0_coder_7d493 14 = .ok (.ireturn, 1) := by decide +kernel
theorem dJ0_isLatin1_aae02_0 : decode cJ0_isLatin1_aae02 0 = .ok (.getstatic 38, 3) := by decide +kernel
theorem dJ0_isLatin1_aae02_3 : decode cJ0_isLatin1_aae02 3 = .ok (.ifCond .eq 14, 3) := by decide +kernel
theorem dJ0_isLatin1_aae02_6 : decode cJ0_isLatin1_aae02 6 = .ok (.aload_n 0, 1) := by decide +kernel
theorem dJ0_isLatin1_aae02_7 : decode cJ0_isLatin1_aae02 7 = .ok (.getfield 15, 3) := by decide +kernel
theorem dJ0_isLatin1_aae02_10 : decode cJ0_isLatin1_aae02 10 = .ok (.ifCond .ne 7, 3) := by decide +kernel
theorem dJ0_isLatin1_aae02_13 : decode cJ0_isLatin1_aae02 13 = .ok (.iconst 1, 1) := by decide +kernel
theorem dJ0_isLatin1_aae02_14 : decode cJ0_isLatin1_aae02 14 = .ok (.goto 4, 3) := by decide +kernel
theorem dJ0_isLatin1_aae02_17 : decode cJ0_isLatin1_aae02 17 = .ok (.iconst 0, 1) := by decide +kernel
theorem dJ0_isLatin1_aae02_18 : decode cJ0_isLatin1_aae02 18 = .ok (.ireturn, 1) := by decide +kernel
theorem dJ7_rangeCheck_23922_0 : decode cJ7_rangeCheck_23922 0 = .ok (.iload_n 1, 1) := by decide +kernel
theorem dJ7_rangeCheck_23922_1 : decode cJ7_rangeCheck_23922 1 = .ok (.iload_n 2, 1) := by decide +kernel
theorem dJ7_rangeCheck_23922_2 : decode cJ7_rangeCheck_23922 2 = .ok (.if_icmp .le 44, 3) := by decide +kernel
theorem dJ7_rangeCheck_23922_5 : decode cJ7_rangeCheck_23922 5 = .ok (.new 43, 3) := by decide +kernel
theorem dJ7_rangeCheck_23922_8 : decode cJ7_rangeCheck_23922 8 = .ok (.dup, 1) := by decide +kernel
theorem dJ7_rangeCheck_23922_9 : decode cJ7_rangeCheck_23922 9 = .ok (.new 45, 3) := by decide +kernel
theorem dJ7_rangeCheck_23922_12 : decode cJ7_rangeCheck_23922 12 = .ok (.dup, 1) := by decide +kernel
theorem dJ7_rangeCheck_23922_13 : decode cJ7_rangeCheck_23922 13 = .ok (.invokespecial 47, 3) := by decide +kernel
theorem dJ7_rangeCheck_23922_16 : decode cJ7_rangeCheck_23922 16 = .ok (.ldc 48, 2) := by decide +kernel
theorem dJ7_rangeCheck_23922_18 : decode cJ7_rangeCheck_23922 18 = .ok (.invokevirtual 50, 3) := by decide +kernel
theorem dJ7_rangeCheck_23922_21 : decode cJ7_rangeCheck_23922 21 = .ok (.iload_n 1, 1) := by decide +kernel
theorem dJ7_rangeCheck_23922_22 : decode cJ7_rangeCheck_23922 22 = .ok (.invokevirtual 54, 3) := by decide +kernel
theorem dJ7_rangeCheck_23922_25 : decode cJ7_rangeCheck_23922 25 = .ok (.ldc 57, 2) := by decide +kernel
theorem dJ7_rangeCheck_23922_27 : decode cJ7_rangeCheck_23922 27 = .ok (.invokevirtual 50, 3) := by decide +kernel
theorem dJ7_rangeCheck_23922_30 : decode cJ7_rangeCheck_23922 30 = .ok (.iload_n 2, 1) := by decide +kernel
theorem dJ7_rangeCheck_23922_31 : decode cJ7_rangeCheck_23922 31 = .ok (.invokevirtual 54, 3) := by decide +kernel
theorem dJ7_rangeCheck_23922_34 : decode cJ7_rangeCheck_23922 34 = .ok (.ldc 59, 2) := by decide +kernel
theorem dJ7_rangeCheck_23922_36 : decode cJ7_rangeCheck_23922 36 = .ok (.invokevirtual 50, 3) := by decide +kernel
theorem dJ7_rangeCheck_23922_39 : decode cJ7_rangeCheck_23922 39 = .ok (.invokevirtual 61, 3) := by decide +kernel
theorem dJ7_rangeCheck_23922_42 : decode cJ7_rangeCheck_23922 42 = .ok (.invokespecial 65, 3) := by decide +kernel
theorem dJ7_rangeCheck_23922_45 : decode cJ7_rangeCheck_23922 45 = .ok (.athrow, 1) := by decide +kernel
theorem dJ7_rangeCheck_23922_46 : decode cJ7_rangeCheck_23922 46 = .ok (.iload_n 1, 1) := by decide +kernel
theorem dJ7_rangeCheck_23922_47 : decode cJ7_rangeCheck_23922 47 = .ok (.ifCond .ge 12, 3) := by decide +kernel
theorem dJ7_rangeCheck_23922_50 : decode cJ7_rangeCheck_23922 50 = .ok (.new 68, 3) := by decide +kernel
theorem dJ7_rangeCheck_23922_53 : decode cJ7_rangeCheck_23922 53 = .ok (.dup, 1) := by decide +kernel
theorem dJ7_rangeCheck_23922_54 : decode cJ7_rangeCheck_23922 54 = .ok (.iload_n 1, 1) := by decide +kernel
theorem dJ7_rangeCheck_23922_55 : decode cJ7_rangeCheck_23922 55 = .ok (.invokespecial 70, 3) := by decide +kernel
theorem dJ7_rangeCheck_23922_58 : decode cJ7_rangeCheck_23922 58 = .ok (.athrow, 1) := by decide +kernel
theorem dJ7_rangeCheck_23922_59 : decode cJ7_rangeCheck_23922 59 = .ok (.iload_n 2, 1) := by decide +kernel
theorem dJ7_rangeCheck_23922_60 : decode cJ7_rangeCheck_23922 60 = .ok (.iload_n 0, 1) := by decide +kernel
theorem dJ7_rangeCheck_23922_61 : decode cJ7_rangeCheck_23922 61 = .ok (.if_icmp .le 12, 3) := by decide +kernel
theorem dJ7_rangeCheck_23922_64 : decode cJ7_rangeCheck_23922 64 = .ok (.new 68, 3) := by decide +kernel
theorem dJ7_rangeCheck_23922_67 : decode cJ7_rangeCheck_23922 67 = .ok (.dup, 1) := by decide +kernel
theorem dJ7_rangeCheck_23922_68 : decode cJ7_rangeCheck_23922 68 = .ok (.iload_n 2, 1) := by decide +kernel
theorem dJ7_rangeCheck_23922_69 : decode cJ7_rangeCheck_23922 69 = .ok (.invokespecial 70, 3) := by decide +kernel
theorem dJ7_rangeCheck_23922_72 : decode cJ7_rangeCheck_23922 72 = .ok (.athrow, 1) := by decide +kernel
theorem dJ7_rangeCheck_23922_73 : decode cJ7_rangeCheck_23922 73 = .ok (.return_, 1) := by decide +kernel
theorem dJ7_fill_d0a16_0 : decode cJ7_fill_d0a16 0 = .ok (.iconst 0, 1) := by decide +kernel
theorem dJ7_fill_d0a16_1 : decode cJ7_fill_d0a16 1 = .ok (.istore_n 3, 1) := by decide +kernel
theorem dJ7_fill_d0a16_2 : decode cJ7_fill_d0a16 2 = .ok (.aload_n 0, 1) := by decide +kernel
theorem dJ7_fill_d0a16_3 : decode cJ7_fill_d0a16 3 = .ok (.arraylength, 1) := by decide +kernel
theorem dJ7_fill_d0a16_4 : decode cJ7_fill_d0a16 4 = .ok (.istore 4, 2) := by decide +kernel
theorem dJ7_fill_d0a16_6 : decode cJ7_fill_d0a16 6 = .ok (.iload_n 3, 1) := by decide +kernel
theorem dJ7_fill_d0a16_7 : decode cJ7_fill_d0a16 7 = .ok (.iload 4, 2) := by decide +kernel
theorem dJ7_fill_d0a16_9 : decode cJ7_fill_d0a16 9 = .ok (.if_icmp .ge 13, 3) := by decide +kernel
theorem dJ7_fill_d0a16_12 : decode cJ7_fill_d0a16 12 = .ok (.aload_n 0, 1) := by decide +kernel
theorem dJ7_fill_d0a16_13 : decode cJ7_fill_d0a16 13 = .ok (.iload_n 3, 1) := by decide +kernel
theorem dJ7_fill_d0a16_14 : decode cJ7_fill_d0a16 14 = .ok (.lload_n 1, 1) := by decide +kernel
theorem dJ7_fill_d0a16_15 : decode cJ7_fill_d0a16 15 = .ok (.lastore, 1) := by decide +kernel
theorem dJ7_fill_d0a16_16 : decode cJ7_fill_d0a16 16 = .ok (.iinc 3 1, 3) := by decide +kernel
theorem dJ7_fill_d0a16_19 : decode cJ7_fill_d0a16 19 = .ok (.goto (-13), 3) := by decide +kernel
theorem dJ7_fill_d0a16_22 : decode cJ7_fill_d0a16 22 = .ok (.return_, 1) := by decide +kernel
theorem dJ7_fill_53178_0 : decode cJ7_fill_53178 0 = .ok (.iconst 0, 1) := by decide +kernel
theorem dJ7_fill_53178_1 : decode cJ7_fill_53178 1 = .ok (.istore_n 2, 1) := by decide +kernel
theorem dJ7_fill_53178_2 : decode cJ7_fill_53178 2 = .ok (.aload_n 0, 1) := by decide +kernel
theorem dJ7_fill_53178_3 : decode cJ7_fill_53178 3 = .ok (.arraylength, 1) := by decide +kernel
theorem dJ7_fill_53178_4 : decode cJ7_fill_53178 4 = .ok (.istore_n 3, 1) := by decide +kernel
theorem dJ7_fill_53178_5 : decode cJ7_fill_53178 5 = .ok (.iload_n 2, 1) := by decide +kernel
theorem dJ7_fill_53178_6 : decode cJ7_fill_53178 6 = .ok (.iload_n 3, 1) := by decide +kernel
theorem dJ7_fill_53178_7 : decode cJ7_fill_53178 7 = .ok (.if_icmp .ge 13, 3) := by decide +kernel
theorem dJ7_fill_53178_10 : decode cJ7_fill_53178 10 = .ok (.aload_n 0, 1) := by decide +kernel
theorem dJ7_fill_53178_11 : decode cJ7_fill_53178 11 = .ok (.iload_n 2, 1) := by decide +kernel
theorem dJ7_fill_53178_12 : decode cJ7_fill_53178 12 = .ok (.iload_n 1, 1) := by decide +kernel
theorem dJ7_fill_53178_13 : decode cJ7_fill_53178 13 = .ok (.iastore, 1) := by decide +kernel
theorem dJ7_fill_53178_14 : decode cJ7_fill_53178 14 = .ok (.iinc 2 1, 3) := by decide +kernel
theorem dJ7_fill_53178_17 : decode cJ7_fill_53178 17 = .ok (.goto (-12), 3) := by decide +kernel
theorem dJ7_fill_53178_20 : decode cJ7_fill_53178 20 = .ok (.return_, 1) := by decide +kernel
theorem dJ3_checkIndex_8e157_0 : decode cJ3_checkIndex_8e157 0 = .ok (.iload_n 0, 1) := by decide +kernel
theorem dJ3_checkIndex_8e157_1 : decode cJ3_checkIndex_8e157 1 = .ok (.ifCond .lt 8, 3) := by decide +kernel
theorem dJ3_checkIndex_8e157_4 : decode cJ3_checkIndex_8e157 4 = .ok (.iload_n 0, 1) := by decide +kernel
theorem dJ3_checkIndex_8e157_5 : decode cJ3_checkIndex_8e157 5 = .ok (.iload_n 1, 1) := by decide +kernel
theorem dJ3_checkIndex_8e157_6 : decode cJ3_checkIndex_8e157 6 = .ok (.if_icmp .lt 10, 3) := by decide +kernel
theorem dJ3_checkIndex_8e157_9 : decode cJ3_checkIndex_8e157 9 = .ok (.aload_n 2, 1) := by decide +kernel
theorem dJ3_checkIndex_8e157_10 : decode cJ3_checkIndex_8e157 10 = .ok (.iload_n 0, 1) := by decide +kernel
theorem dJ3_checkIndex_8e157_11 : decode cJ3_checkIndex_8e157 11 = .ok (.iload_n 1, 1) := by decide +kernel
theorem dJ3_checkIndex_8e157_12 : decode cJ3_checkIndex_8e157 12 = .ok (.invokestatic 95, 3) := by decide +kernel
theorem dJ3_checkIndex_8e157_15 : decode cJ3_checkIndex_8e157 15 = .ok (.athrow, 1) := by decide +kernel
theorem dJ3_checkIndex_8e157_16 : decode cJ3_checkIndex_8e157 16 = .ok (.iload_n 0, 1) := by decide +kernel
theorem dJ3_checkIndex_8e157_17 : decode cJ3_checkIndex_8e157 17 = .ok (.ireturn, 1) := by decide +kernel
theorem dX0_weighRuns_0 : decode cX0_weighRuns 0 = .ok (.iconst 0, 1) := by decide +kernel
theorem dX0_weighRuns_1 : decode cX0_weighRuns 1 = .ok (.istore 5, 2) := by decide +kernel
theorem dX0_weighRuns_3 : decode cX0_weighRuns 3 = .ok (.iload 5, 2) := by decide +kernel
theorem dX0_weighRuns_5 : decode cX0_weighRuns 5 = .ok (.aload_n 1, 1) := by decide +kernel
theorem dX0_weighRuns_6 : decode cX0_weighRuns 6 = .ok (.getfield 21, 3) := by decide +kernel
theorem dX0_weighRuns_9 : decode cX0_weighRuns 9 = .ok (.if_icmp .ge 88, 3) := by decide +kernel
theorem dX0_weighRuns_12 : decode cX0_weighRuns 12 = .ok (.iconst 0, 1) := by decide +kernel
theorem dX0_weighRuns_13 : decode cX0_weighRuns 13 = .ok (.istore 6, 2) := by decide +kernel
theorem dX0_weighRuns_15 : decode cX0_weighRuns 15 = .ok (.iload 6, 2) := by decide +kernel
theorem dX0_weighRuns_17 : decode cX0_weighRuns 17 = .ok (.aload_n 1, 1) := by decide +kernel
theorem dX0_weighRuns_18 : decode cX0_weighRuns 18 = .ok (.getfield 27, 3) := by decide +kernel
theorem dX0_weighRuns_21 : decode cX0_weighRuns 21 = .ok (.if_icmp .ge 70, 3) := by decide +kernel
theorem dX0_weighRuns_24 : decode cX0_weighRuns 24 = .ok (.ldc2_w 30, 3) := by decide +kernel
theorem dX0_weighRuns_27 : decode cX0_weighRuns 27 = .ok (.lstore 7, 2) := by decide +kernel
theorem dX0_weighRuns_29 : decode cX0_weighRuns 29 = .ok (.aload_n 1, 1) := by decide +kernel
theorem dX0_weighRuns_30 : decode cX0_weighRuns 30 = .ok (.iload 5, 2) := by decide +kernel
theorem dX0_weighRuns_32 : decode cX0_weighRuns 32 = .ok (.iload 6, 2) := by decide +kernel
theorem dX0_weighRuns_34 : decode cX0_weighRuns 34 = .ok (.lload_n 3, 1) := by decide +kernel
theorem dX0_weighRuns_35 : decode cX0_weighRuns 35 = .ok (.invokevirtual 32, 3) := by decide +kernel
theorem dX0_weighRuns_38 : decode cX0_weighRuns 38 = .ok (.ifCond .eq 32, 3) := by decide +kernel
theorem dX0_weighRuns_41 : decode cX0_weighRuns 41 = .ok (.aload_n 1, 1) := by decide +kernel
theorem dX0_weighRuns_42 : decode cX0_weighRuns 42 = .ok (.iload_n 2, 1) := by decide +kernel
theorem dX0_weighRuns_43 : decode cX0_weighRuns 43 = .ok (.iload 5, 2) := by decide +kernel
theorem dX0_weighRuns_45 : decode cX0_weighRuns 45 = .ok (.iload 6, 2) := by decide +kernel
theorem dX0_weighRuns_47 : decode cX0_weighRuns 47 = .ok (.invokevirtual 36, 3) := by decide +kernel
theorem dX0_weighRuns_50 : decode cX0_weighRuns 50 = .ok (.i2l, 1) := by decide +kernel
theorem dX0_weighRuns_51 : decode cX0_weighRuns 51 = .ok (.lstore 9, 2) := by decide +kernel
theorem dX0_weighRuns_53 : decode cX0_weighRuns 53 = .ok (.lload 9, 2) := by decide +kernel
theorem dX0_weighRuns_55 : decode cX0_weighRuns 55 = .ok (.bipush 36, 2) := by decide +kernel
theorem dX0_weighRuns_57 : decode cX0_weighRuns 57 = .ok (.lshl, 1) := by decide +kernel
theorem dX0_weighRuns_58 : decode cX0_weighRuns 58 = .ok (.iload 6, 2) := by decide +kernel
theorem dX0_weighRuns_60 : decode cX0_weighRuns 60 = .ok (.i2l, 1) := by decide +kernel
theorem dX0_weighRuns_61 : decode cX0_weighRuns 61 = .ok (.iload 5, 2) := by decide +kernel
theorem dX0_weighRuns_63 : decode cX0_weighRuns 63 = .ok (.invokestatic 40, 3) := by decide +kernel
theorem dX0_weighRuns_66 : decode cX0_weighRuns 66 = .ok (.lshl, 1) := by decide +kernel
theorem dX0_weighRuns_67 : decode cX0_weighRuns 67 = .ok (.ladd, 1) := by decide +kernel
theorem dX0_weighRuns_68 : decode cX0_weighRuns 68 = .ok (.lstore 7, 2) := by decide +kernel
theorem dX0_weighRuns_70 : decode cX0_weighRuns 70 = .ok (.aload_n 0, 1) := by decide +kernel
theorem dX0_weighRuns_71 : decode cX0_weighRuns 71 = .ok (.getfield 9, 3) := by decide +kernel
theorem dX0_weighRuns_74 : decode cX0_weighRuns 74 = .ok (.iload 5, 2) := by decide +kernel
theorem dX0_weighRuns_76 : decode cX0_weighRuns 76 = .ok (.bipush 40, 2) := by decide +kernel
theorem dX0_weighRuns_78 : decode cX0_weighRuns 78 = .ok (.imul, 1) := by decide +kernel
theorem dX0_weighRuns_79 : decode cX0_weighRuns 79 = .ok (.iload 6, 2) := by decide +kernel
theorem dX0_weighRuns_81 : decode cX0_weighRuns 81 = .ok (.iadd, 1) := by decide +kernel
theorem dX0_weighRuns_82 : decode cX0_weighRuns 82 = .ok (.lload 7, 2) := by decide +kernel
theorem dX0_weighRuns_84 : decode cX0_weighRuns 84 = .ok (.lastore, 1) := by decide +kernel
theorem dX0_weighRuns_85 : decode cX0_weighRuns 85 = .ok (.iinc 6 1, 3) := by decide +kernel
theorem dX0_weighRuns_88 : decode cX0_weighRuns 88 = .ok (.goto (-73), 3) := by decide +kernel
theorem dX0_weighRuns_91 : decode cX0_weighRuns 91 = .ok (.iinc 5 1, 3) := by decide +kernel
theorem dX0_weighRuns_94 : decode cX0_weighRuns 94 = .ok (.goto (-91), 3) := by decide +kernel
theorem dX0_weighRuns_97 : decode cX0_weighRuns 97 = .ok (.return_, 1) := by decide +kernel
theorem dX0_firstIn_0 : decode cX0_firstIn 0 = .ok (.lload_n 0, 1) := by decide +kernel
theorem dX0_firstIn_1 : decode cX0_firstIn 1 = .ok (.ldc2_w 30, 3) := by decide +kernel
theorem dX0_firstIn_4 : decode cX0_firstIn 4 = .ok (.lcmp, 1) := by decide +kernel
theorem dX0_firstIn_5 : decode cX0_firstIn 5 = .ok (.ifCond .ge 16, 3) := by decide +kernel
theorem dX0_firstIn_8 : decode cX0_firstIn 8 = .ok (.lload_n 0, 1) := by decide +kernel
theorem dX0_firstIn_9 : decode cX0_firstIn 9 = .ok (.iload_n 2, 1) := by decide +kernel
theorem dX0_firstIn_10 : decode cX0_firstIn 10 = .ok (.invokestatic 40, 3) := by decide +kernel
theorem dX0_firstIn_13 : decode cX0_firstIn 13 = .ok (.lshr, 1) := by decide +kernel
theorem dX0_firstIn_14 : decode cX0_firstIn 14 = .ok (.l2i, 1) := by decide +kernel
theorem dX0_firstIn_15 : decode cX0_firstIn 15 = .ok (.bipush 63, 2) := by decide +kernel
theorem dX0_firstIn_17 : decode cX0_firstIn 17 = .ok (.iand, 1) := by decide +kernel
theorem dX0_firstIn_18 : decode cX0_firstIn 18 = .ok (.goto 4, 3) := by decide +kernel
theorem dX0_firstIn_21 : decode cX0_firstIn 21 = .ok (.iconst (-1), 1) := by decide +kernel
theorem dX0_firstIn_22 : decode cX0_firstIn 22 = .ok (.ireturn, 1) := by decide +kernel
theorem dX0_bestWeight_0 : decode cX0_bestWeight 0 = .ok (.ldc2_w 30, 3) := by decide +kernel
theorem dX0_bestWeight_3 : decode cX0_bestWeight 3 = .ok (.lstore_n 3, 1) := by decide +kernel
theorem dX0_bestWeight_4 : decode cX0_bestWeight 4 = .ok (.iconst 0, 1) := by decide +kernel
theorem dX0_bestWeight_5 : decode cX0_bestWeight 5 = .ok (.istore 5, 2) := by decide +kernel
theorem dX0_bestWeight_7 : decode cX0_bestWeight 7 = .ok (.iload 5, 2) := by decide +kernel
theorem dX0_bestWeight_9 : decode cX0_bestWeight 9 = .ok (.aload_n 1, 1) := by decide +kernel
theorem dX0_bestWeight_10 : decode cX0_bestWeight 10 = .ok (.getfield 27, 3) := by decide +kernel
theorem dX0_bestWeight_13 : decode cX0_bestWeight 13 = .ok (.if_icmp .ge 26, 3) := by decide +kernel
theorem dX0_bestWeight_16 : decode cX0_bestWeight 16 = .ok (.lload_n 3, 1) := by decide +kernel
theorem dX0_bestWeight_17 : decode cX0_bestWeight 17 = .ok (.aload_n 0, 1) := by decide +kernel
theorem dX0_bestWeight_18 : decode cX0_bestWeight 18 = .ok (.getfield 9, 3) := by decide +kernel
theorem dX0_bestWeight_21 : decode cX0_bestWeight 21 = .ok (.iload_n 2, 1) := by decide +kernel
theorem dX0_bestWeight_22 : decode cX0_bestWeight 22 = .ok (.bipush 40, 2) := by decide +kernel
theorem dX0_bestWeight_24 : decode cX0_bestWeight 24 = .ok (.imul, 1) := by decide +kernel
theorem dX0_bestWeight_25 : decode cX0_bestWeight 25 = .ok (.iload 5, 2) := by decide +kernel
theorem dX0_bestWeight_27 : decode cX0_bestWeight 27 = .ok (.iadd, 1) := by decide +kernel
theorem dX0_bestWeight_28 : decode cX0_bestWeight 28 = .ok (.laload, 1) := by decide +kernel
theorem dX0_bestWeight_29 : decode cX0_bestWeight 29 = .ok (.invokestatic 44, 3) := by decide +kernel
theorem dX0_bestWeight_32 : decode cX0_bestWeight 32 = .ok (.lstore_n 3, 1) := by decide +kernel
theorem dX0_bestWeight_33 : decode cX0_bestWeight 33 = .ok (.iinc 5 1, 3) := by decide +kernel
theorem dX0_bestWeight_36 : decode cX0_bestWeight 36 = .ok (.goto (-29), 3) := by decide +kernel
theorem dX0_bestWeight_39 : decode cX0_bestWeight 39 = .ok (.lload_n 3, 1) := by decide +kernel
theorem dX0_bestWeight_40 : decode cX0_bestWeight 40 = .ok (.lreturn, 1) := by decide +kernel
theorem dX0_goOn_0 : decode cX0_goOn 0 = .ok (.aload_n 0, 1) := by decide +kernel
theorem dX0_goOn_1 : decode cX0_goOn 1 = .ok (.getfield 15, 3) := by decide +kernel
theorem dX0_goOn_4 : decode cX0_goOn 4 = .ok (.iload_n 2, 1) := by decide +kernel
theorem dX0_goOn_5 : decode cX0_goOn 5 = .ok (.iconst 1, 1) := by decide +kernel
theorem dX0_goOn_6 : decode cX0_goOn 6 = .ok (.iadd, 1) := by decide +kernel
theorem dX0_goOn_7 : decode cX0_goOn 7 = .ok (.bipush 64, 2) := by decide +kernel
theorem dX0_goOn_9 : decode cX0_goOn 9 = .ok (.imul, 1) := by decide +kernel
theorem dX0_goOn_10 : decode cX0_goOn 10 = .ok (.iload_n 3, 1) := by decide +kernel
theorem dX0_goOn_11 : decode cX0_goOn 11 = .ok (.iadd, 1) := by decide +kernel
theorem dX0_goOn_12 : decode cX0_goOn 12 = .ok (.lload 5, 2) := by decide +kernel
theorem dX0_goOn_14 : decode cX0_goOn 14 = .ok (.invokestatic 83, 3) := by decide +kernel
theorem dX0_goOn_17 : decode cX0_goOn 17 = .ok (.iconst 0, 1) := by decide +kernel
theorem dX0_goOn_18 : decode cX0_goOn 18 = .ok (.istore 7, 2) := by decide +kernel
theorem dX0_goOn_20 : decode cX0_goOn 20 = .ok (.iload 7, 2) := by decide +kernel
theorem dX0_goOn_22 : decode cX0_goOn 22 = .ok (.aload_n 1, 1) := by decide +kernel
theorem dX0_goOn_23 : decode cX0_goOn 23 = .ok (.getfield 21, 3) := by decide +kernel
theorem dX0_goOn_26 : decode cX0_goOn 26 = .ok (.if_icmp .ge 67, 3) := by decide +kernel
theorem dX0_goOn_29 : decode cX0_goOn 29 = .ok (.aload_n 0, 1) := by decide +kernel
theorem dX0_goOn_30 : decode cX0_goOn 30 = .ok (.getfield 9, 3) := by decide +kernel
theorem dX0_goOn_33 : decode cX0_goOn 33 = .ok (.iload 7, 2) := by decide +kernel
theorem dX0_goOn_35 : decode cX0_goOn 35 = .ok (.bipush 40, 2) := by decide +kernel
theorem dX0_goOn_37 : decode cX0_goOn 37 = .ok (.imul, 1) := by decide +kernel
theorem dX0_goOn_38 : decode cX0_goOn 38 = .ok (.iload_n 2, 1) := by decide +kernel
theorem dX0_goOn_39 : decode cX0_goOn 39 = .ok (.iadd, 1) := by decide +kernel
theorem dX0_goOn_40 : decode cX0_goOn 40 = .ok (.laload, 1) := by decide +kernel
theorem dX0_goOn_41 : decode cX0_goOn 41 = .ok (.lstore 8, 2) := by decide +kernel
theorem dX0_goOn_43 : decode cX0_goOn 43 = .ok (.iload 4, 2) := by decide +kernel
theorem dX0_goOn_45 : decode cX0_goOn 45 = .ok (.iload_n 3, 1) := by decide +kernel
theorem dX0_goOn_46 : decode cX0_goOn 46 = .ok (.iconst (-1), 1) := by decide +kernel
theorem dX0_goOn_47 : decode cX0_goOn 47 = .ok (.ixor, 1) := by decide +kernel
theorem dX0_goOn_48 : decode cX0_goOn 48 = .ok (.iand, 1) := by decide +kernel
theorem dX0_goOn_49 : decode cX0_goOn 49 = .ok (.iload 7, 2) := by decide +kernel
theorem dX0_goOn_51 : decode cX0_goOn 51 = .ok (.ishr, 1) := by decide +kernel
theorem dX0_goOn_52 : decode cX0_goOn 52 = .ok (.iconst 1, 1) := by decide +kernel
theorem dX0_goOn_53 : decode cX0_goOn 53 = .ok (.iand, 1) := by decide +kernel
theorem dX0_goOn_54 : decode cX0_goOn 54 = .ok (.iconst 1, 1) := by decide +kernel
theorem dX0_goOn_55 : decode cX0_goOn 55 = .ok (.if_icmp .ne 32, 3) := by decide +kernel
theorem dX0_goOn_58 : decode cX0_goOn 58 = .ok (.lload 8, 2) := by decide +kernel
theorem dX0_goOn_60 : decode cX0_goOn 60 = .ok (.ldc2_w 30, 3) := by decide +kernel
theorem dX0_goOn_63 : decode cX0_goOn 63 = .ok (.lcmp, 1) := by decide +kernel
theorem dX0_goOn_64 : decode cX0_goOn 64 = .ok (.ifCond .ge 23, 3) := by decide +kernel
theorem dX0_goOn_67 : decode cX0_goOn 67 = .ok (.aload_n 0, 1) := by decide +kernel
theorem dX0_goOn_68 : decode cX0_goOn 68 = .ok (.getfield 15, 3) := by decide +kernel
theorem dX0_goOn_71 : decode cX0_goOn 71 = .ok (.aload_n 1, 1) := by decide +kernel
theorem dX0_goOn_72 : decode cX0_goOn 72 = .ok (.iload_n 2, 1) := by decide +kernel
theorem dX0_goOn_73 : decode cX0_goOn 73 = .ok (.iload_n 3, 1) := by decide +kernel
theorem dX0_goOn_74 : decode cX0_goOn 74 = .ok (.iload 7, 2) := by decide +kernel
theorem dX0_goOn_76 : decode cX0_goOn 76 = .ok (.invokestatic 87, 3) := by decide +kernel
theorem dX0_goOn_79 : decode cX0_goOn 79 = .ok (.lload 5, 2) := by decide +kernel
theorem dX0_goOn_81 : decode cX0_goOn 81 = .ok (.lload 8, 2) := by decide +kernel
theorem dX0_goOn_83 : decode cX0_goOn 83 = .ok (.ladd, 1) := by decide +kernel
theorem dX0_goOn_84 : decode cX0_goOn 84 = .ok (.invokestatic 83, 3) := by decide +kernel
theorem dX0_goOn_87 : decode cX0_goOn 87 = .ok (.iinc 7 1, 3) := by decide +kernel
theorem dX0_goOn_90 : decode cX0_goOn 90 = .ok (.goto (-70), 3) := by decide +kernel
theorem dX0_goOn_93 : decode cX0_goOn 93 = .ok (.return_, 1) := by decide +kernel
theorem dX0_costOfSet_0 : decode cX0_costOfSet 0 = .ok (.aload_n 0, 1) := by decide +kernel
theorem dX0_costOfSet_1 : decode cX0_costOfSet 1 = .ok (.getfield 15, 3) := by decide +kernel
theorem dX0_costOfSet_4 : decode cX0_costOfSet 4 = .ok (.aload_n 1, 1) := by decide +kernel
theorem dX0_costOfSet_5 : decode cX0_costOfSet 5 = .ok (.getfield 27, 3) := by decide +kernel
theorem dX0_costOfSet_8 : decode cX0_costOfSet 8 = .ok (.bipush 64, 2) := by decide +kernel
theorem dX0_costOfSet_10 : decode cX0_costOfSet 10 = .ok (.imul, 1) := by decide +kernel
theorem dX0_costOfSet_11 : decode cX0_costOfSet 11 = .ok (.iload_n 2, 1) := by decide +kernel
theorem dX0_costOfSet_12 : decode cX0_costOfSet 12 = .ok (.iadd, 1) := by decide +kernel
theorem dX0_costOfSet_13 : decode cX0_costOfSet 13 = .ok (.laload, 1) := by decide +kernel
theorem dX0_costOfSet_14 : decode cX0_costOfSet 14 = .ok (.invokestatic 54, 3) := by decide +kernel
theorem dX0_costOfSet_17 : decode cX0_costOfSet 17 = .ok (.ireturn, 1) := by decide +kernel
theorem dX0_weighChoice_0 : decode cX0_weighChoice 0 = .ok (.iload_n 1, 1) := by decide +kernel
theorem dX0_weighChoice_1 : decode cX0_weighChoice 1 = .ok (.invokestatic 126, 3) := by decide +kernel
theorem dX0_weighChoice_4 : decode cX0_weighChoice 4 = .ok (.aload_n 0, 1) := by decide +kernel
theorem dX0_weighChoice_5 : decode cX0_weighChoice 5 = .ok (.getfield 107, 3) := by decide +kernel
theorem dX0_weighChoice_8 : decode cX0_weighChoice 8 = .ok (.invokestatic 126, 3) := by decide +kernel
theorem dX0_weighChoice_11 : decode cX0_weighChoice 11 = .ok (.if_icmp .ge 7, 3) := by decide +kernel
theorem dX0_weighChoice_14 : decode cX0_weighChoice 14 = .ok (.iconst 1, 1) := by decide +kernel
theorem dX0_weighChoice_15 : decode cX0_weighChoice 15 = .ok (.goto 4, 3) := by decide +kernel
theorem dX0_weighChoice_18 : decode cX0_weighChoice 18 = .ok (.iconst 0, 1) := by decide +kernel
theorem dX0_weighChoice_19 : decode cX0_weighChoice 19 = .ok (.istore_n 3, 1) := by decide +kernel
theorem dX0_weighChoice_20 : decode cX0_weighChoice 20 = .ok (.iload_n 2, 1) := by decide +kernel
theorem dX0_weighChoice_21 : decode cX0_weighChoice 21 = .ok (.aload_n 0, 1) := by decide +kernel
theorem dX0_weighChoice_22 : decode cX0_weighChoice 22 = .ok (.getfield 110, 3) := by decide +kernel
theorem dX0_weighChoice_25 : decode cX0_weighChoice 25 = .ok (.if_icmp .gt 15, 3) := by decide +kernel
theorem dX0_weighChoice_28 : decode cX0_weighChoice 28 = .ok (.iload_n 2, 1) := by decide +kernel
theorem dX0_weighChoice_29 : decode cX0_weighChoice 29 = .ok (.aload_n 0, 1) := by decide +kernel
theorem dX0_weighChoice_30 : decode cX0_weighChoice 30 = .ok (.getfield 110, 3) := by decide +kernel
theorem dX0_weighChoice_33 : decode cX0_weighChoice 33 = .ok (.if_icmp .ne 17, 3) := by decide +kernel
theorem dX0_weighChoice_36 : decode cX0_weighChoice 36 = .ok (.iload_n 3, 1) := by decide +kernel
theorem dX0_weighChoice_37 : decode cX0_weighChoice 37 = .ok (.ifCond .eq 13, 3) := by decide +kernel
theorem dX0_weighChoice_40 : decode cX0_weighChoice 40 = .ok (.aload_n 0, 1) := by decide +kernel
theorem dX0_weighChoice_41 : decode cX0_weighChoice 41 = .ok (.iload_n 1, 1) := by decide +kernel
theorem dX0_weighChoice_42 : decode cX0_weighChoice 42 = .ok (.putfield 107, 3) := by decide +kernel
theorem dX0_weighChoice_45 : decode cX0_weighChoice 45 = .ok (.aload_n 0, 1) := by decide +kernel
theorem dX0_weighChoice_46 : decode cX0_weighChoice 46 = .ok (.iload_n 2, 1) := by decide +kernel
theorem dX0_weighChoice_47 : decode cX0_weighChoice 47 = .ok (.putfield 110, 3) := by decide +kernel
theorem dX0_weighChoice_50 : decode cX0_weighChoice 50 = .ok (.return_, 1) := by decide +kernel
theorem dX0_giveIn_0 : decode cX0_giveIn 0 = .ok (.aload_n 0, 1) := by decide +kernel
theorem dX0_giveIn_1 : decode cX0_giveIn 1 = .ok (.getfield 9, 3) := by decide +kernel
theorem dX0_giveIn_4 : decode cX0_giveIn 4 = .ok (.iload 5, 2) := by decide +kernel
theorem dX0_giveIn_6 : decode cX0_giveIn 6 = .ok (.bipush 40, 2) := by decide +kernel
theorem dX0_giveIn_8 : decode cX0_giveIn 8 = .ok (.imul, 1) := by decide +kernel
theorem dX0_giveIn_9 : decode cX0_giveIn 9 = .ok (.iload_n 3, 1) := by decide +kernel
theorem dX0_giveIn_10 : decode cX0_giveIn 10 = .ok (.iadd, 1) := by decide +kernel
theorem dX0_giveIn_11 : decode cX0_giveIn 11 = .ok (.laload, 1) := by decide +kernel
theorem dX0_giveIn_12 : decode cX0_giveIn 12 = .ok (.bipush 36, 2) := by decide +kernel
theorem dX0_giveIn_14 : decode cX0_giveIn 14 = .ok (.lshr, 1) := by decide +kernel
theorem dX0_giveIn_15 : decode cX0_giveIn 15 = .ok (.lstore 6, 2) := by decide +kernel
theorem dX0_giveIn_17 : decode cX0_giveIn 17 = .ok (.aload_n 0, 1) := by decide +kernel
theorem dX0_giveIn_18 : decode cX0_giveIn 18 = .ok (.getfield 18, 3) := by decide +kernel
theorem dX0_giveIn_21 : decode cX0_giveIn 21 = .ok (.iload_n 3, 1) := by decide +kernel
theorem dX0_giveIn_22 : decode cX0_giveIn 22 = .ok (.bipush 64, 2) := by decide +kernel
theorem dX0_giveIn_24 : decode cX0_giveIn 24 = .ok (.imul, 1) := by decide +kernel
theorem dX0_giveIn_25 : decode cX0_giveIn 25 = .ok (.iload 4, 2) := by decide +kernel
theorem dX0_giveIn_27 : decode cX0_giveIn 27 = .ok (.iadd, 1) := by decide +kernel
theorem dX0_giveIn_28 : decode cX0_giveIn 28 = .ok (.laload, 1) := by decide +kernel
theorem dX0_giveIn_29 : decode cX0_giveIn 29 = .ok (.lstore 8, 2) := by decide +kernel
theorem dX0_giveIn_31 : decode cX0_giveIn 31 = .ok (.lload 8, 2) := by decide +kernel
theorem dX0_giveIn_33 : decode cX0_giveIn 33 = .ok (.ldc2_w 30, 3) := by decide +kernel
theorem dX0_giveIn_36 : decode cX0_giveIn 36 = .ok (.lcmp, 1) := by decide +kernel
theorem dX0_giveIn_37 : decode cX0_giveIn 37 = .ok (.ifCond .ge 27, 3) := by decide +kernel
theorem dX0_giveIn_40 : decode cX0_giveIn 40 = .ok (.aload_n 0, 1) := by decide +kernel
theorem dX0_giveIn_41 : decode cX0_giveIn 41 = .ok (.getfield 18, 3) := by decide +kernel
theorem dX0_giveIn_44 : decode cX0_giveIn 44 = .ok (.aload_n 1, 1) := by decide +kernel
theorem dX0_giveIn_45 : decode cX0_giveIn 45 = .ok (.iload_n 3, 1) := by decide +kernel
theorem dX0_giveIn_46 : decode cX0_giveIn 46 = .ok (.iload 4, 2) := by decide +kernel
theorem dX0_giveIn_48 : decode cX0_giveIn 48 = .ok (.iload 5, 2) := by decide +kernel
theorem dX0_giveIn_50 : decode cX0_giveIn 50 = .ok (.invokestatic 87, 3) := by decide +kernel
theorem dX0_giveIn_53 : decode cX0_giveIn 53 = .ok (.lload 8, 2) := by decide +kernel
theorem dX0_giveIn_55 : decode cX0_giveIn 55 = .ok (.lload 6, 2) := by decide +kernel
theorem dX0_giveIn_57 : decode cX0_giveIn 57 = .ok (.bipush 6, 2) := by decide +kernel
theorem dX0_giveIn_59 : decode cX0_giveIn 59 = .ok (.lshl, 1) := by decide +kernel
theorem dX0_giveIn_60 : decode cX0_giveIn 60 = .ok (.ladd, 1) := by decide +kernel
theorem dX0_giveIn_61 : decode cX0_giveIn 61 = .ok (.invokestatic 83, 3) := by decide +kernel
theorem dX0_giveIn_64 : decode cX0_giveIn 64 = .ok (.aload_n 0, 1) := by decide +kernel
theorem dX0_giveIn_65 : decode cX0_giveIn 65 = .ok (.getfield 15, 3) := by decide +kernel
theorem dX0_giveIn_68 : decode cX0_giveIn 68 = .ok (.iload_n 3, 1) := by decide +kernel
theorem dX0_giveIn_69 : decode cX0_giveIn 69 = .ok (.bipush 64, 2) := by decide +kernel
theorem dX0_giveIn_71 : decode cX0_giveIn 71 = .ok (.imul, 1) := by decide +kernel
theorem dX0_giveIn_72 : decode cX0_giveIn 72 = .ok (.iload 4, 2) := by decide +kernel
theorem dX0_giveIn_74 : decode cX0_giveIn 74 = .ok (.iadd, 1) := by decide +kernel
theorem dX0_giveIn_75 : decode cX0_giveIn 75 = .ok (.laload, 1) := by decide +kernel
theorem dX0_giveIn_76 : decode cX0_giveIn 76 = .ok (.lstore 10, 2) := by decide +kernel
theorem dX0_giveIn_78 : decode cX0_giveIn 78 = .ok (.aload_n 1, 1) := by decide +kernel
theorem dX0_giveIn_79 : decode cX0_giveIn 79 = .ok (.iload_n 2, 1) := by decide +kernel
theorem dX0_giveIn_80 : decode cX0_giveIn 80 = .ok (.iload 5, 2) := by decide +kernel
theorem dX0_giveIn_82 : decode cX0_giveIn 82 = .ok (.iload_n 3, 1) := by decide +kernel
theorem dX0_giveIn_83 : decode cX0_giveIn 83 = .ok (.invokestatic 151, 3) := by decide +kernel
theorem dX0_giveIn_86 : decode cX0_giveIn 86 = .ok (.istore 12, 2) := by decide +kernel
theorem dX0_giveIn_88 : decode cX0_giveIn 88 = .ok (.lload 10, 2) := by decide +kernel
theorem dX0_giveIn_90 : decode cX0_giveIn 90 = .ok (.ldc2_w 30, 3) := by decide +kernel
theorem dX0_giveIn_93 : decode cX0_giveIn 93 = .ok (.lcmp, 1) := by decide +kernel
theorem dX0_giveIn_94 : decode cX0_giveIn 94 = .ok (.ifCond .ge 53, 3) := by decide +kernel
theorem dX0_giveIn_97 : decode cX0_giveIn 97 = .ok (.iload 12, 2) := by decide +kernel
theorem dX0_giveIn_99 : decode cX0_giveIn 99 = .ok (.iconst (-1), 1) := by decide +kernel
theorem dX0_giveIn_100 : decode cX0_giveIn 100 = .ok (.if_icmp .eq 47, 3) := by decide +kernel
theorem dX0_giveIn_103 : decode cX0_giveIn 103 = .ok (.lload 10, 2) := by decide +kernel
theorem dX0_giveIn_105 : decode cX0_giveIn 105 = .ok (.bipush 36, 2) := by decide +kernel
theorem dX0_giveIn_107 : decode cX0_giveIn 107 = .ok (.lshr, 1) := by decide +kernel
theorem dX0_giveIn_108 : decode cX0_giveIn 108 = .ok (.lload 6, 2) := by decide +kernel
theorem dX0_giveIn_110 : decode cX0_giveIn 110 = .ok (.ladd, 1) := by decide +kernel
theorem dX0_giveIn_111 : decode cX0_giveIn 111 = .ok (.aload_n 1, 1) := by decide +kernel
theorem dX0_giveIn_112 : decode cX0_giveIn 112 = .ok (.getfield 154, 3) := by decide +kernel
theorem dX0_giveIn_115 : decode cX0_giveIn 115 = .ok (.iload 12, 2) := by decide +kernel
theorem dX0_giveIn_117 : decode cX0_giveIn 117 = .ok (.iaload, 1) := by decide +kernel
theorem dX0_giveIn_118 : decode cX0_giveIn 118 = .ok (.i2l, 1) := by decide +kernel
theorem dX0_giveIn_119 : decode cX0_giveIn 119 = .ok (.lsub, 1) := by decide +kernel
theorem dX0_giveIn_120 : decode cX0_giveIn 120 = .ok (.lstore 13, 2) := by decide +kernel
theorem dX0_giveIn_122 : decode cX0_giveIn 122 = .ok (.aload_n 0, 1) := by decide +kernel
theorem dX0_giveIn_123 : decode cX0_giveIn 123 = .ok (.getfield 18, 3) := by decide +kernel
theorem dX0_giveIn_126 : decode cX0_giveIn 126 = .ok (.aload_n 1, 1) := by decide +kernel
theorem dX0_giveIn_127 : decode cX0_giveIn 127 = .ok (.iload_n 3, 1) := by decide +kernel
theorem dX0_giveIn_128 : decode cX0_giveIn 128 = .ok (.iload 4, 2) := by decide +kernel
theorem dX0_giveIn_130 : decode cX0_giveIn 130 = .ok (.iload 5, 2) := by decide +kernel
theorem dX0_giveIn_132 : decode cX0_giveIn 132 = .ok (.invokestatic 87, 3) := by decide +kernel
theorem dX0_giveIn_135 : decode cX0_giveIn 135 = .ok (.lload 13, 2) := by decide +kernel
theorem dX0_giveIn_137 : decode cX0_giveIn 137 = .ok (.bipush 6, 2) := by decide +kernel
theorem dX0_giveIn_139 : decode cX0_giveIn 139 = .ok (.lshl, 1) := by decide +kernel
theorem dX0_giveIn_140 : decode cX0_giveIn 140 = .ok (.iload 12, 2) := by decide +kernel
theorem dX0_giveIn_142 : decode cX0_giveIn 142 = .ok (.i2l, 1) := by decide +kernel
theorem dX0_giveIn_143 : decode cX0_giveIn 143 = .ok (.ladd, 1) := by decide +kernel
theorem dX0_giveIn_144 : decode cX0_giveIn 144 = .ok (.invokestatic 83, 3) := by decide +kernel
theorem dX0_giveIn_147 : decode cX0_giveIn 147 = .ok (.return_, 1) := by decide +kernel
theorem dX1_findRuns_0 : decode cX1_findRuns 0 = .ok (.aload_n 0, 1) := by decide +kernel
theorem dX1_findRuns_1 : decode cX1_findRuns 1 = .ok (.getfield 9, 3) := by decide +kernel
theorem dX1_findRuns_4 : decode cX1_findRuns 4 = .ok (.iconst 0, 1) := by decide +kernel
theorem dX1_findRuns_5 : decode cX1_findRuns 5 = .ok (.invokestatic 30, 3) := by decide +kernel
theorem dX1_findRuns_8 : decode cX1_findRuns 8 = .ok (.iconst 0, 1) := by decide +kernel
theorem dX1_findRuns_9 : decode cX1_findRuns 9 = .ok (.istore 4, 2) := by decide +kernel
theorem dX1_findRuns_11 : decode cX1_findRuns 11 = .ok (.iload 4, 2) := by decide +kernel
theorem dX1_findRuns_13 : decode cX1_findRuns 13 = .ok (.aload_n 1, 1) := by decide +kernel
theorem dX1_findRuns_14 : decode cX1_findRuns 14 = .ok (.getfield 36, 3) := by decide +kernel
theorem dX1_findRuns_17 : decode cX1_findRuns 17 = .ok (.if_icmp .ge 62, 3) := by decide +kernel
theorem dX1_findRuns_20 : decode cX1_findRuns 20 = .ok (.iconst 0, 1) := by decide +kernel
theorem dX1_findRuns_21 : decode cX1_findRuns 21 = .ok (.istore 5, 2) := by decide +kernel
theorem dX1_findRuns_23 : decode cX1_findRuns 23 = .ok (.iload 5, 2) := by decide +kernel
theorem dX1_findRuns_25 : decode cX1_findRuns 25 = .ok (.aload_n 1, 1) := by decide +kernel
theorem dX1_findRuns_26 : decode cX1_findRuns 26 = .ok (.getfield 41, 3) := by decide +kernel
theorem dX1_findRuns_29 : decode cX1_findRuns 29 = .ok (.if_icmp .ge 44, 3) := by decide +kernel
theorem dX1_findRuns_32 : decode cX1_findRuns 32 = .ok (.aload_n 1, 1) := by decide +kernel
theorem dX1_findRuns_33 : decode cX1_findRuns 33 = .ok (.iload 4, 2) := by decide +kernel
theorem dX1_findRuns_35 : decode cX1_findRuns 35 = .ok (.iload 5, 2) := by decide +kernel
theorem dX1_findRuns_37 : decode cX1_findRuns 37 = .ok (.lload_n 2, 1) := by decide +kernel
theorem dX1_findRuns_38 : decode cX1_findRuns 38 = .ok (.invokevirtual 44, 3) := by decide +kernel
theorem dX1_findRuns_41 : decode cX1_findRuns 41 = .ok (.ifCond .eq 26, 3) := by decide +kernel
theorem dX1_findRuns_44 : decode cX1_findRuns 44 = .ok (.aload_n 0, 1) := by decide +kernel
theorem dX1_findRuns_45 : decode cX1_findRuns 45 = .ok (.iload 5, 2) := by decide +kernel
theorem dX1_findRuns_47 : decode cX1_findRuns 47 = .ok (.aload_n 1, 1) := by decide +kernel
theorem dX1_findRuns_48 : decode cX1_findRuns 48 = .ok (.getfield 48, 3) := by decide +kernel
theorem dX1_findRuns_51 : decode cX1_findRuns 51 = .ok (.iload 4, 2) := by decide +kernel
theorem dX1_findRuns_53 : decode cX1_findRuns 53 = .ok (.iaload, 1) := by decide +kernel
theorem dX1_findRuns_54 : decode cX1_findRuns 54 = .ok (.iadd, 1) := by decide +kernel
theorem dX1_findRuns_55 : decode cX1_findRuns 55 = .ok (.iconst 1, 1) := by decide +kernel
theorem dX1_findRuns_56 : decode cX1_findRuns 56 = .ok (.isub, 1) := by decide +kernel
theorem dX1_findRuns_57 : decode cX1_findRuns 57 = .ok (.aload_n 1, 1) := by decide +kernel
theorem dX1_findRuns_58 : decode cX1_findRuns 58 = .ok (.getfield 48, 3) := by decide +kernel
theorem dX1_findRuns_61 : decode cX1_findRuns 61 = .ok (.iload 4, 2) := by decide +kernel
theorem dX1_findRuns_63 : decode cX1_findRuns 63 = .ok (.iaload, 1) := by decide +kernel
theorem dX1_findRuns_64 : decode cX1_findRuns 64 = .ok (.invokevirtual 51, 3) := by decide +kernel
theorem dX1_findRuns_67 : decode cX1_findRuns 67 = .ok (.iinc 5 1, 3) := by decide +kernel
theorem dX1_findRuns_70 : decode cX1_findRuns 70 = .ok (.goto (-47), 3) := by decide +kernel
theorem dX1_findRuns_73 : decode cX1_findRuns 73 = .ok (.iinc 4 1, 3) := by decide +kernel
theorem dX1_findRuns_76 : decode cX1_findRuns 76 = .ok (.goto (-65), 3) := by decide +kernel
theorem dX1_findRuns_79 : decode cX1_findRuns 79 = .ok (.return_, 1) := by decide +kernel
theorem dX2_copyFrom_0 : decode cX2_copyFrom 0 = .ok (.aload_n 0, 1) := by decide +kernel
theorem dX2_copyFrom_1 : decode cX2_copyFrom 1 = .ok (.aload_n 1, 1) := by decide +kernel
theorem dX2_copyFrom_2 : decode cX2_copyFrom 2 = .ok (.getfield 20, 3) := by decide +kernel
theorem dX2_copyFrom_5 : decode cX2_copyFrom 5 = .ok (.aload_n 0, 1) := by decide +kernel
theorem dX2_copyFrom_6 : decode cX2_copyFrom 6 = .ok (.getfield 7, 3) := by decide +kernel
theorem dX2_copyFrom_9 : decode cX2_copyFrom 9 = .ok (.invokestatic 23, 3) := by decide +kernel
theorem dX2_copyFrom_12 : decode cX2_copyFrom 12 = .ok (.putfield 20, 3) := by decide +kernel
theorem dX2_copyFrom_15 : decode cX2_copyFrom 15 = .ok (.aload_n 1, 1) := by decide +kernel
theorem dX2_copyFrom_16 : decode cX2_copyFrom 16 = .ok (.getfield 13, 3) := by decide +kernel
theorem dX2_copyFrom_19 : decode cX2_copyFrom 19 = .ok (.iconst 0, 1) := by decide +kernel
theorem dX2_copyFrom_20 : decode cX2_copyFrom 20 = .ok (.aload_n 0, 1) := by decide +kernel
theorem dX2_copyFrom_21 : decode cX2_copyFrom 21 = .ok (.getfield 13, 3) := by decide +kernel
theorem dX2_copyFrom_24 : decode cX2_copyFrom 24 = .ok (.iconst 0, 1) := by decide +kernel
theorem dX2_copyFrom_25 : decode cX2_copyFrom 25 = .ok (.aload_n 0, 1) := by decide +kernel
theorem dX2_copyFrom_26 : decode cX2_copyFrom 26 = .ok (.getfield 20, 3) := by decide +kernel
theorem dX2_copyFrom_29 : decode cX2_copyFrom 29 = .ok (.invokestatic 29, 3) := by decide +kernel
theorem dX2_copyFrom_32 : decode cX2_copyFrom 32 = .ok (.aload_n 1, 1) := by decide +kernel
theorem dX2_copyFrom_33 : decode cX2_copyFrom 33 = .ok (.getfield 17, 3) := by decide +kernel
theorem dX2_copyFrom_36 : decode cX2_copyFrom 36 = .ok (.iconst 0, 1) := by decide +kernel
theorem dX2_copyFrom_37 : decode cX2_copyFrom 37 = .ok (.aload_n 0, 1) := by decide +kernel
theorem dX2_copyFrom_38 : decode cX2_copyFrom 38 = .ok (.getfield 17, 3) := by decide +kernel
theorem dX2_copyFrom_41 : decode cX2_copyFrom 41 = .ok (.iconst 0, 1) := by decide +kernel
theorem dX2_copyFrom_42 : decode cX2_copyFrom 42 = .ok (.aload_n 0, 1) := by decide +kernel
theorem dX2_copyFrom_43 : decode cX2_copyFrom 43 = .ok (.getfield 20, 3) := by decide +kernel
theorem dX2_copyFrom_46 : decode cX2_copyFrom 46 = .ok (.iconst 3, 1) := by decide +kernel
theorem dX2_copyFrom_47 : decode cX2_copyFrom 47 = .ok (.imul, 1) := by decide +kernel
theorem dX2_copyFrom_48 : decode cX2_copyFrom 48 = .ok (.invokestatic 29, 3) := by decide +kernel
theorem dX2_copyFrom_51 : decode cX2_copyFrom 51 = .ok (.return_, 1) := by decide +kernel
theorem dX3_areThere_0 : decode cX3_areThere 0 = .ok (.aload_n 0, 1) := by decide +kernel
theorem dX3_areThere_1 : decode cX3_areThere 1 = .ok (.getfield 12, 3) := by decide +kernel
theorem dX3_areThere_4 : decode cX3_areThere 4 = .ok (.iload_n 1, 1) := by decide +kernel
theorem dX3_areThere_5 : decode cX3_areThere 5 = .ok (.invokevirtual 85, 3) := by decide +kernel
theorem dX3_areThere_8 : decode cX3_areThere 8 = .ok (.ifCond .eq 18, 3) := by decide +kernel
theorem dX3_areThere_11 : decode cX3_areThere 11 = .ok (.aload_n 0, 1) := by decide +kernel
theorem dX3_areThere_12 : decode cX3_areThere 12 = .ok (.getfield 12, 3) := by decide +kernel
theorem dX3_areThere_15 : decode cX3_areThere 15 = .ok (.iload_n 2, 1) := by decide +kernel
theorem dX3_areThere_16 : decode cX3_areThere 16 = .ok (.invokevirtual 89, 3) := by decide +kernel
theorem dX3_areThere_19 : decode cX3_areThere 19 = .ok (.ifCond .eq 7, 3) := by decide +kernel
theorem dX3_areThere_22 : decode cX3_areThere 22 = .ok (.iconst 1, 1) := by decide +kernel
theorem dX3_areThere_23 : decode cX3_areThere 23 = .ok (.goto 4, 3) := by decide +kernel
theorem dX3_areThere_26 : decode cX3_areThere 26 = .ok (.iconst 0, 1) := by decide +kernel
theorem dX3_areThere_27 : decode cX3_areThere 27 = .ok (.ireturn, 1) := by decide +kernel
theorem dX3_freeMinutes_0 : decode cX3_freeMinutes 0 = .ok (.lconst 0, 1) := by decide +kernel
theorem dX3_freeMinutes_1 : decode cX3_freeMinutes 1 = .ok (.lstore_n 2, 1) := by decide +kernel
theorem dX3_freeMinutes_2 : decode cX3_freeMinutes 2 = .ok (.iconst 0, 1) := by decide +kernel
theorem dX3_freeMinutes_3 : decode cX3_freeMinutes 3 = .ok (.istore 4, 2) := by decide +kernel
theorem dX3_freeMinutes_5 : decode cX3_freeMinutes 5 = .ok (.iload 4, 2) := by decide +kernel
theorem dX3_freeMinutes_7 : decode cX3_freeMinutes 7 = .ok (.aload_n 0, 1) := by decide +kernel
theorem dX3_freeMinutes_8 : decode cX3_freeMinutes 8 = .ok (.getfield 12, 3) := by decide +kernel
theorem dX3_freeMinutes_11 : decode cX3_freeMinutes 11 = .ok (.getfield 128, 3) := by decide +kernel
theorem dX3_freeMinutes_14 : decode cX3_freeMinutes 14 = .ok (.if_icmp .ge 26, 3) := by decide +kernel
theorem dX3_freeMinutes_17 : decode cX3_freeMinutes 17 = .ok (.aload_n 0, 1) := by decide +kernel
theorem dX3_freeMinutes_18 : decode cX3_freeMinutes 18 = .ok (.iload_n 1, 1) := by decide +kernel
theorem dX3_freeMinutes_19 : decode cX3_freeMinutes 19 = .ok (.iload 4, 2) := by decide +kernel
theorem dX3_freeMinutes_21 : decode cX3_freeMinutes 21 = .ok (.invokevirtual 108, 3) := by decide +kernel
theorem dX3_freeMinutes_24 : decode cX3_freeMinutes 24 = .ok (.ifCond .eq 10, 3) := by decide +kernel
theorem dX3_freeMinutes_27 : decode cX3_freeMinutes 27 = .ok (.lload_n 2, 1) := by decide +kernel
theorem dX3_freeMinutes_28 : decode cX3_freeMinutes 28 = .ok (.lconst 1, 1) := by decide +kernel
theorem dX3_freeMinutes_29 : decode cX3_freeMinutes 29 = .ok (.iload 4, 2) := by decide +kernel
theorem dX3_freeMinutes_31 : decode cX3_freeMinutes 31 = .ok (.lshl, 1) := by decide +kernel
theorem dX3_freeMinutes_32 : decode cX3_freeMinutes 32 = .ok (.lor, 1) := by decide +kernel
theorem dX3_freeMinutes_33 : decode cX3_freeMinutes 33 = .ok (.lstore_n 2, 1) := by decide +kernel
theorem dX3_freeMinutes_34 : decode cX3_freeMinutes 34 = .ok (.iinc 4 1, 3) := by decide +kernel
theorem dX3_freeMinutes_37 : decode cX3_freeMinutes 37 = .ok (.goto (-32), 3) := by decide +kernel
theorem dX3_freeMinutes_40 : decode cX3_freeMinutes 40 = .ok (.lload_n 2, 1) := by decide +kernel
theorem dX3_freeMinutes_41 : decode cX3_freeMinutes 41 = .ok (.lreturn, 1) := by decide +kernel
theorem dX3_changesPrice_0 : decode cX3_changesPrice 0 = .ok (.aload_n 0, 1) := by decide +kernel
theorem dX3_changesPrice_1 : decode cX3_changesPrice 1 = .ok (.getfield 12, 3) := by decide +kernel
theorem dX3_changesPrice_4 : decode cX3_changesPrice 4 = .ok (.iload_n 1, 1) := by decide +kernel
theorem dX3_changesPrice_5 : decode cX3_changesPrice 5 = .ok (.invokevirtual 89, 3) := by decide +kernel
theorem dX3_changesPrice_8 : decode cX3_changesPrice 8 = .ok (.ifCond .ne 5, 3) := by decide +kernel
theorem dX3_changesPrice_11 : decode cX3_changesPrice 11 = .ok (.iconst 0, 1) := by decide +kernel
theorem dX3_changesPrice_12 : decode cX3_changesPrice 12 = .ok (.ireturn, 1) := by decide +kernel
theorem dX3_changesPrice_13 : decode cX3_changesPrice 13 = .ok (.aload_n 0, 1) := by decide +kernel
theorem dX3_changesPrice_14 : decode cX3_changesPrice 14 = .ok (.getfield 12, 3) := by decide +kernel
theorem dX3_changesPrice_17 : decode cX3_changesPrice 17 = .ok (.getfield 98, 3) := by decide +kernel
theorem dX3_changesPrice_20 : decode cX3_changesPrice 20 = .ok (.iload_n 1, 1) := by decide +kernel
theorem dX3_changesPrice_21 : decode cX3_changesPrice 21 = .ok (.iaload, 1) := by decide +kernel
theorem dX3_changesPrice_22 : decode cX3_changesPrice 22 = .ok (.iload_n 2, 1) := by decide +kernel
theorem dX3_changesPrice_23 : decode cX3_changesPrice 23 = .ok (.iadd, 1) := by decide +kernel
theorem dX3_changesPrice_24 : decode cX3_changesPrice 24 = .ok (.istore_n 3, 1) := by decide +kernel
theorem dX3_changesPrice_25 : decode cX3_changesPrice 25 = .ok (.iload_n 3, 1) := by decide +kernel
theorem dX3_changesPrice_26 : decode cX3_changesPrice 26 = .ok (.ifCond .lt 9, 3) := by decide +kernel
theorem dX3_changesPrice_29 : decode cX3_changesPrice 29 = .ok (.iload_n 3, 1) := by decide +kernel
theorem dX3_changesPrice_30 : decode cX3_changesPrice 30 = .ok (.bipush 9, 2) := by decide +kernel
theorem dX3_changesPrice_32 : decode cX3_changesPrice 32 = .ok (.if_icmp .le 5, 3) := by decide +kernel
theorem dX3_changesPrice_35 : decode cX3_changesPrice 35 = .ok (.iconst 0, 1) := by decide +kernel
theorem dX3_changesPrice_36 : decode cX3_changesPrice 36 = .ok (.ireturn, 1) := by decide +kernel
theorem dX3_changesPrice_37 : decode cX3_changesPrice 37 = .ok (.aload_n 0, 1) := by decide +kernel
theorem dX3_changesPrice_38 : decode cX3_changesPrice 38 = .ok (.getfield 12, 3) := by decide +kernel
theorem dX3_changesPrice_41 : decode cX3_changesPrice 41 = .ok (.getfield 98, 3) := by decide +kernel
theorem dX3_changesPrice_44 : decode cX3_changesPrice 44 = .ok (.iload_n 1, 1) := by decide +kernel
theorem dX3_changesPrice_45 : decode cX3_changesPrice 45 = .ok (.iload_n 3, 1) := by decide +kernel
theorem dX3_changesPrice_46 : decode cX3_changesPrice 46 = .ok (.iastore, 1) := by decide +kernel
theorem dX3_changesPrice_47 : decode cX3_changesPrice 47 = .ok (.iconst 1, 1) := by decide +kernel
theorem dX3_changesPrice_48 : decode cX3_changesPrice 48 = .ok (.ireturn, 1) := by decide +kernel
theorem dX3_partOfState_0 : decode cX3_partOfState 0 = .ok (.iload_n 1, 1) := by decide +kernel
theorem dX3_partOfState_1 : decode cX3_partOfState 1 = .ok (.bipush 10, 2) := by decide +kernel
theorem dX3_partOfState_3 : decode cX3_partOfState 3 = .ok (.aload_n 0, 1) := by decide +kernel
theorem dX3_partOfState_4 : decode cX3_partOfState 4 = .ok (.getfield 12, 3) := by decide +kernel
theorem dX3_partOfState_7 : decode cX3_partOfState 7 = .ok (.getfield 147, 3) := by decide +kernel
theorem dX3_partOfState_10 : decode cX3_partOfState 10 = .ok (.invokestatic 167, 3) := by decide +kernel
theorem dX3_partOfState_13 : decode cX3_partOfState 13 = .ok (.ifCond .eq 16, 3) := by decide +kernel
theorem dX3_partOfState_16 : decode cX3_partOfState 16 = .ok (.aload_n 0, 1) := by decide +kernel
theorem dX3_partOfState_17 : decode cX3_partOfState 17 = .ok (.getfield 12, 3) := by decide +kernel
theorem dX3_partOfState_20 : decode cX3_partOfState 20 = .ok (.getfield 101, 3) := by decide +kernel
theorem dX3_partOfState_23 : decode cX3_partOfState 23 = .ok (.iload_n 1, 1) := by decide +kernel
theorem dX3_partOfState_24 : decode cX3_partOfState 24 = .ok (.bipush 10, 2) := by decide +kernel
theorem dX3_partOfState_26 : decode cX3_partOfState 26 = .ok (.isub, 1) := by decide +kernel
theorem dX3_partOfState_27 : decode cX3_partOfState 27 = .ok (.iaload, 1) := by decide +kernel
theorem dX3_partOfState_28 : decode cX3_partOfState 28 = .ok (.ireturn, 1) := by decide +kernel
theorem dX3_partOfState_29 : decode cX3_partOfState 29 = .ok (.iload_n 1, 1) := by decide +kernel
theorem dX3_partOfState_30 : decode cX3_partOfState 30 = .ok (.bipush 20, 2) := by decide +kernel
theorem dX3_partOfState_32 : decode cX3_partOfState 32 = .ok (.aload_n 0, 1) := by decide +kernel
theorem dX3_partOfState_33 : decode cX3_partOfState 33 = .ok (.getfield 12, 3) := by decide +kernel
theorem dX3_partOfState_36 : decode cX3_partOfState 36 = .ok (.getfield 147, 3) := by decide +kernel
theorem dX3_partOfState_39 : decode cX3_partOfState 39 = .ok (.invokestatic 167, 3) := by decide +kernel
theorem dX3_partOfState_42 : decode cX3_partOfState 42 = .ok (.ifCond .eq 18, 3) := by decide +kernel
theorem dX3_partOfState_45 : decode cX3_partOfState 45 = .ok (.aload_n 0, 1) := by decide +kernel
theorem dX3_partOfState_46 : decode cX3_partOfState 46 = .ok (.getfield 12, 3) := by decide +kernel
theorem dX3_partOfState_49 : decode cX3_partOfState 49 = .ok (.iload_n 1, 1) := by decide +kernel
theorem dX3_partOfState_50 : decode cX3_partOfState 50 = .ok (.bipush 20, 2) := by decide +kernel
theorem dX3_partOfState_52 : decode cX3_partOfState 52 = .ok (.isub, 1) := by decide +kernel
theorem dX3_partOfState_53 : decode cX3_partOfState 53 = .ok (.invokevirtual 170, 3) := by decide +kernel
theorem dX3_partOfState_56 : decode cX3_partOfState 56 = .ok (.invokestatic 173, 3) := by decide +kernel
theorem dX3_partOfState_59 : decode cX3_partOfState 59 = .ok (.ireturn, 1) := by decide +kernel
theorem dX3_partOfState_60 : decode cX3_partOfState 60 = .ok (.iload_n 1, 1) := by decide +kernel
theorem dX3_partOfState_61 : decode cX3_partOfState 61 = .ok (.bipush 30, 2) := by decide +kernel
theorem dX3_partOfState_63 : decode cX3_partOfState 63 = .ok (.aload_n 0, 1) := by decide +kernel
theorem dX3_partOfState_64 : decode cX3_partOfState 64 = .ok (.getfield 12, 3) := by decide +kernel
theorem dX3_partOfState_67 : decode cX3_partOfState 67 = .ok (.getfield 150, 3) := by decide +kernel
theorem dX3_partOfState_70 : decode cX3_partOfState 70 = .ok (.invokestatic 167, 3) := by decide +kernel
theorem dX3_partOfState_73 : decode cX3_partOfState 73 = .ok (.ifCond .eq 13, 3) := by decide +kernel
theorem dX3_partOfState_76 : decode cX3_partOfState 76 = .ok (.aload_n 0, 1) := by decide +kernel
theorem dX3_partOfState_77 : decode cX3_partOfState 77 = .ok (.getfield 22, 3) := by decide +kernel
theorem dX3_partOfState_80 : decode cX3_partOfState 80 = .ok (.iload_n 1, 1) := by decide +kernel
theorem dX3_partOfState_81 : decode cX3_partOfState 81 = .ok (.bipush 30, 2) := by decide +kernel
theorem dX3_partOfState_83 : decode cX3_partOfState 83 = .ok (.isub, 1) := by decide +kernel
theorem dX3_partOfState_84 : decode cX3_partOfState 84 = .ok (.iaload, 1) := by decide +kernel
theorem dX3_partOfState_85 : decode cX3_partOfState 85 = .ok (.ireturn, 1) := by decide +kernel
theorem dX3_partOfState_86 : decode cX3_partOfState 86 = .ok (.iload_n 1, 1) := by decide +kernel
theorem dX3_partOfState_87 : decode cX3_partOfState 87 = .ok (.bipush 100, 2) := by decide +kernel
theorem dX3_partOfState_89 : decode cX3_partOfState 89 = .ok (.aload_n 0, 1) := by decide +kernel
theorem dX3_partOfState_90 : decode cX3_partOfState 90 = .ok (.getfield 12, 3) := by decide +kernel
theorem dX3_partOfState_93 : decode cX3_partOfState 93 = .ok (.getfield 128, 3) := by decide +kernel
theorem dX3_partOfState_96 : decode cX3_partOfState 96 = .ok (.invokestatic 167, 3) := by decide +kernel
theorem dX3_partOfState_99 : decode cX3_partOfState 99 = .ok (.ifCond .eq 16, 3) := by decide +kernel
theorem dX3_partOfState_102 : decode cX3_partOfState 102 = .ok (.aload_n 0, 1) := by decide +kernel
theorem dX3_partOfState_103 : decode cX3_partOfState 103 = .ok (.getfield 12, 3) := by decide +kernel
theorem dX3_partOfState_106 : decode cX3_partOfState 106 = .ok (.getfield 98, 3) := by decide +kernel
theorem dX3_partOfState_109 : decode cX3_partOfState 109 = .ok (.iload_n 1, 1) := by decide +kernel
theorem dX3_partOfState_110 : decode cX3_partOfState 110 = .ok (.bipush 100, 2) := by decide +kernel
theorem dX3_partOfState_112 : decode cX3_partOfState 112 = .ok (.isub, 1) := by decide +kernel
theorem dX3_partOfState_113 : decode cX3_partOfState 113 = .ok (.iaload, 1) := by decide +kernel
theorem dX3_partOfState_114 : decode cX3_partOfState 114 = .ok (.ireturn, 1) := by decide +kernel
theorem dX3_partOfState_115 : decode cX3_partOfState 115 = .ok (.iload_n 1, 1) := by decide +kernel
theorem dX3_partOfState_116 : decode cX3_partOfState 116 = .ok (.sipush 200, 3) := by decide +kernel
theorem dX3_partOfState_119 : decode cX3_partOfState 119 = .ok (.aload_n 0, 1) := by decide +kernel
theorem dX3_partOfState_120 : decode cX3_partOfState 120 = .ok (.getfield 12, 3) := by decide +kernel
theorem dX3_partOfState_123 : decode cX3_partOfState 123 = .ok (.getfield 128, 3) := by decide +kernel
theorem dX3_partOfState_126 : decode cX3_partOfState 126 = .ok (.invokestatic 167, 3) := by decide +kernel
theorem dX3_partOfState_129 : decode cX3_partOfState 129 = .ok (.ifCond .eq 17, 3) := by decide +kernel
theorem dX3_partOfState_132 : decode cX3_partOfState 132 = .ok (.aload_n 0, 1) := by decide +kernel
theorem dX3_partOfState_133 : decode cX3_partOfState 133 = .ok (.getfield 12, 3) := by decide +kernel
theorem dX3_partOfState_136 : decode cX3_partOfState 136 = .ok (.getfield 92, 3) := by decide +kernel
theorem dX3_partOfState_139 : decode cX3_partOfState 139 = .ok (.iload_n 1, 1) := by decide +kernel
theorem dX3_partOfState_140 : decode cX3_partOfState 140 = .ok (.sipush 200, 3) := by decide +kernel
theorem dX3_partOfState_143 : decode cX3_partOfState 143 = .ok (.isub, 1) := by decide +kernel
theorem dX3_partOfState_144 : decode cX3_partOfState 144 = .ok (.iaload, 1) := by decide +kernel
theorem dX3_partOfState_145 : decode cX3_partOfState 145 = .ok (.ireturn, 1) := by decide +kernel
theorem dX3_partOfState_146 : decode cX3_partOfState 146 = .ok (.iload_n 1, 1) := by decide +kernel
theorem dX3_partOfState_147 : decode cX3_partOfState 147 = .ok (.sipush 300, 3) := by decide +kernel
theorem dX3_partOfState_150 : decode cX3_partOfState 150 = .ok (.aload_n 0, 1) := by decide +kernel
theorem dX3_partOfState_151 : decode cX3_partOfState 151 = .ok (.getfield 12, 3) := by decide +kernel
theorem dX3_partOfState_154 : decode cX3_partOfState 154 = .ok (.getfield 128, 3) := by decide +kernel
theorem dX3_partOfState_157 : decode cX3_partOfState 157 = .ok (.invokestatic 167, 3) := by decide +kernel
theorem dX3_partOfState_160 : decode cX3_partOfState 160 = .ok (.ifCond .eq 22, 3) := by decide +kernel
theorem dX3_partOfState_163 : decode cX3_partOfState 163 = .ok (.aload_n 0, 1) := by decide +kernel
theorem dX3_partOfState_164 : decode cX3_partOfState 164 = .ok (.getfield 18, 3) := by decide +kernel
theorem dX3_partOfState_167 : decode cX3_partOfState 167 = .ok (.iload_n 1, 1) := by decide +kernel
theorem dX3_partOfState_168 : decode cX3_partOfState 168 = .ok (.sipush 300, 3) := by decide +kernel
theorem dX3_partOfState_171 : decode cX3_partOfState 171 = .ok (.isub, 1) := by decide +kernel
theorem dX3_partOfState_172 : decode cX3_partOfState 172 = .ok (.baload, 1) := by decide +kernel
theorem dX3_partOfState_173 : decode cX3_partOfState 173 = .ok (.ifCond .eq 7, 3) := by decide +kernel
theorem dX3_partOfState_176 : decode cX3_partOfState 176 = .ok (.iconst 1, 1) := by decide +kernel
theorem dX3_partOfState_177 : decode cX3_partOfState 177 = .ok (.goto 4, 3) := by decide +kernel
theorem dX3_partOfState_180 : decode cX3_partOfState 180 = .ok (.iconst 0, 1) := by decide +kernel
theorem dX3_partOfState_181 : decode cX3_partOfState 181 = .ok (.ireturn, 1) := by decide +kernel
theorem dX3_partOfState_182 : decode cX3_partOfState 182 = .ok (.bipush (-2), 2) := by decide +kernel
theorem dX3_partOfState_184 : decode cX3_partOfState 184 = .ok (.ireturn, 1) := by decide +kernel
theorem dX3_timesMoved_0 : decode cX3_timesMoved 0 = .ok (.aload_n 0, 1) := by decide +kernel
theorem dX3_timesMoved_1 : decode cX3_timesMoved 1 = .ok (.getfield 12, 3) := by decide +kernel
theorem dX3_timesMoved_4 : decode cX3_timesMoved 4 = .ok (.iload_n 1, 1) := by decide +kernel
theorem dX3_timesMoved_5 : decode cX3_timesMoved 5 = .ok (.invokevirtual 89, 3) := by decide +kernel
theorem dX3_timesMoved_8 : decode cX3_timesMoved 8 = .ok (.ifCond .eq 12, 3) := by decide +kernel
theorem dX3_timesMoved_11 : decode cX3_timesMoved 11 = .ok (.aload_n 0, 1) := by decide +kernel
theorem dX3_timesMoved_12 : decode cX3_timesMoved 12 = .ok (.getfield 29, 3) := by decide +kernel
theorem dX3_timesMoved_15 : decode cX3_timesMoved 15 = .ok (.iload_n 1, 1) := by decide +kernel
theorem dX3_timesMoved_16 : decode cX3_timesMoved 16 = .ok (.iaload, 1) := by decide +kernel
theorem dX3_timesMoved_17 : decode cX3_timesMoved 17 = .ok (.goto 4, 3) := by decide +kernel
theorem dX3_timesMoved_20 : decode cX3_timesMoved 20 = .ok (.iconst 0, 1) := by decide +kernel
theorem dX3_timesMoved_21 : decode cX3_timesMoved 21 = .ok (.ireturn, 1) := by decide +kernel
theorem dX4_countFurther_0 : decode cX4_countFurther 0 = .ok (.iload_n 1, 1) := by decide +kernel
theorem dX4_countFurther_1 : decode cX4_countFurther 1 = .ok (.iload_n 2, 1) := by decide +kernel
theorem dX4_countFurther_2 : decode cX4_countFurther 2 = .ok (.invokestatic 180, 3) := by decide +kernel
theorem dX4_countFurther_5 : decode cX4_countFurther 5 = .ok (.istore_n 3, 1) := by decide +kernel
theorem dX4_countFurther_6 : decode cX4_countFurther 6 = .ok (.iload_n 3, 1) := by decide +kernel
theorem dX4_countFurther_7 : decode cX4_countFurther 7 = .ok (.ifCond .ne 4, 3) := by decide +kernel
theorem dX4_countFurther_10 : decode cX4_countFurther 10 = .ok (.return_, 1) := by decide +kernel
theorem dX4_countFurther_11 : decode cX4_countFurther 11 = .ok (.aload_n 0, 1) := by decide +kernel
theorem dX4_countFurther_12 : decode cX4_countFurther 12 = .ok (.dup, 1) := by decide +kernel
theorem dX4_countFurther_13 : decode cX4_countFurther 13 = .ok (.getfield 81, 3) := by decide +kernel
theorem dX4_countFurther_16 : decode cX4_countFurther 16 = .ok (.iconst 1, 1) := by decide +kernel
theorem dX4_countFurther_17 : decode cX4_countFurther 17 = .ok (.iadd, 1) := by decide +kernel
theorem dX4_countFurther_18 : decode cX4_countFurther 18 = .ok (.putfield 81, 3) := by decide +kernel
theorem dX4_countFurther_21 : decode cX4_countFurther 21 = .ok (.aload_n 0, 1) := by decide +kernel
theorem dX4_countFurther_22 : decode cX4_countFurther 22 = .ok (.getfield 81, 3) := by decide +kernel
theorem dX4_countFurther_25 : decode cX4_countFurther 25 = .ok (.iload_n 3, 1) := by decide +kernel
theorem dX4_countFurther_26 : decode cX4_countFurther 26 = .ok (.if_icmp .le 15, 3) := by decide +kernel
theorem dX4_countFurther_29 : decode cX4_countFurther 29 = .ok (.aload_n 0, 1) := by decide +kernel
theorem dX4_countFurther_30 : decode cX4_countFurther 30 = .ok (.iconst 3, 1) := by decide +kernel
theorem dX4_countFurther_31 : decode cX4_countFurther 31 = .ok (.aload_n 0, 1) := by decide +kernel
theorem dX4_countFurther_32 : decode cX4_countFurther 32 = .ok (.getfield 12, 3) := by decide +kernel
theorem dX4_countFurther_35 : decode cX4_countFurther 35 = .ok (.getfield 99, 3) := by decide +kernel
theorem dX4_countFurther_38 : decode cX4_countFurther 38 = .ok (.invokevirtual 69, 3) := by decide +kernel
theorem dX4_countFurther_41 : decode cX4_countFurther 41 = .ok (.return_, 1) := by decide +kernel
theorem dX4_takeNumber_0 : decode cX4_takeNumber 0 = .ok (.aload_n 0, 1) := by decide +kernel
theorem dX4_takeNumber_1 : decode cX4_takeNumber 1 = .ok (.getfield 12, 3) := by decide +kernel
theorem dX4_takeNumber_4 : decode cX4_takeNumber 4 = .ok (.getfield 184, 3) := by decide +kernel
theorem dX4_takeNumber_7 : decode cX4_takeNumber 7 = .ok (.istore_n 3, 1) := by decide +kernel
theorem dX4_takeNumber_8 : decode cX4_takeNumber 8 = .ok (.iload_n 1, 1) := by decide +kernel
theorem dX4_takeNumber_9 : decode cX4_takeNumber 9 = .ok (.bipush 116, 2) := by decide +kernel
theorem dX4_takeNumber_11 : decode cX4_takeNumber 11 = .ok (.if_icmp .ne 23, 3) := by decide +kernel
theorem dX4_takeNumber_14 : decode cX4_takeNumber 14 = .ok (.iload_n 2, 1) := by decide +kernel
theorem dX4_takeNumber_15 : decode cX4_takeNumber 15 = .ok (.ifCond .le 19, 3) := by decide +kernel
theorem dX4_takeNumber_18 : decode cX4_takeNumber 18 = .ok (.iload_n 3, 1) := by decide +kernel
theorem dX4_takeNumber_19 : decode cX4_takeNumber 19 = .ok (.aload_n 0, 1) := by decide +kernel
theorem dX4_takeNumber_20 : decode cX4_takeNumber 20 = .ok (.getfield 44, 3) := by decide +kernel
theorem dX4_takeNumber_23 : decode cX4_takeNumber 23 = .ok (.iload_n 2, 1) := by decide +kernel
theorem dX4_takeNumber_24 : decode cX4_takeNumber 24 = .ok (.iconst 1, 1) := by decide +kernel
theorem dX4_takeNumber_25 : decode cX4_takeNumber 25 = .ok (.isub, 1) := by decide +kernel
theorem dX4_takeNumber_26 : decode cX4_takeNumber 26 = .ok (.iaload, 1) := by decide +kernel
theorem dX4_takeNumber_27 : decode cX4_takeNumber 27 = .ok (.if_icmp .ge 7, 3) := by decide +kernel
theorem dX4_takeNumber_30 : decode cX4_takeNumber 30 = .ok (.iconst 1, 1) := by decide +kernel
theorem dX4_takeNumber_31 : decode cX4_takeNumber 31 = .ok (.goto 4, 3) := by decide +kernel
theorem dX4_takeNumber_34 : decode cX4_takeNumber 34 = .ok (.iconst 0, 1) := by decide +kernel
theorem dX4_takeNumber_35 : decode cX4_takeNumber 35 = .ok (.istore 4, 2) := by decide +kernel
theorem dX4_takeNumber_37 : decode cX4_takeNumber 37 = .ok (.iload_n 3, 1) := by decide +kernel
theorem dX4_takeNumber_38 : decode cX4_takeNumber 38 = .ok (.iload_n 1, 1) := by decide +kernel
theorem dX4_takeNumber_39 : decode cX4_takeNumber 39 = .ok (.invokestatic 187, 3) := by decide +kernel
theorem dX4_takeNumber_42 : decode cX4_takeNumber 42 = .ok (.if_icmp .lt 16, 3) := by decide +kernel
theorem dX4_takeNumber_45 : decode cX4_takeNumber 45 = .ok (.iload_n 3, 1) := by decide +kernel
theorem dX4_takeNumber_46 : decode cX4_takeNumber 46 = .ok (.iload_n 1, 1) := by decide +kernel
theorem dX4_takeNumber_47 : decode cX4_takeNumber 47 = .ok (.invokestatic 191, 3) := by decide +kernel
theorem dX4_takeNumber_50 : decode cX4_takeNumber 50 = .ok (.if_icmp .gt 8, 3) := by decide +kernel
theorem dX4_takeNumber_53 : decode cX4_takeNumber 53 = .ok (.iload 4, 2) := by decide +kernel
theorem dX4_takeNumber_55 : decode cX4_takeNumber 55 = .ok (.ifCond .eq 15, 3) := by decide +kernel
theorem dX4_takeNumber_58 : decode cX4_takeNumber 58 = .ok (.aload_n 0, 1) := by decide +kernel
theorem dX4_takeNumber_59 : decode cX4_takeNumber 59 = .ok (.iconst 2, 1) := by decide +kernel
theorem dX4_takeNumber_60 : decode cX4_takeNumber 60 = .ok (.aload_n 0, 1) := by decide +kernel
theorem dX4_takeNumber_61 : decode cX4_takeNumber 61 = .ok (.getfield 12, 3) := by decide +kernel
theorem dX4_takeNumber_64 : decode cX4_takeNumber 64 = .ok (.getfield 99, 3) := by decide +kernel
theorem dX4_takeNumber_67 : decode cX4_takeNumber 67 = .ok (.invokevirtual 69, 3) := by decide +kernel
theorem dX4_takeNumber_70 : decode cX4_takeNumber 70 = .ok (.aload_n 0, 1) := by decide +kernel
theorem dX4_takeNumber_71 : decode cX4_takeNumber 71 = .ok (.getfield 44, 3) := by decide +kernel
theorem dX4_takeNumber_74 : decode cX4_takeNumber 74 = .ok (.iload_n 2, 1) := by decide +kernel
theorem dX4_takeNumber_75 : decode cX4_takeNumber 75 = .ok (.iload_n 3, 1) := by decide +kernel
theorem dX4_takeNumber_76 : decode cX4_takeNumber 76 = .ok (.iastore, 1) := by decide +kernel
theorem dX4_takeNumber_77 : decode cX4_takeNumber 77 = .ok (.return_, 1) := by decide +kernel
theorem dX4_tellBusiness_0 : decode cX4_tellBusiness 0 = .ok (.aload_n 0, 1) := by decide +kernel
theorem dX4_tellBusiness_1 : decode cX4_tellBusiness 1 = .ok (.getfield 21, 3) := by decide +kernel
theorem dX4_tellBusiness_4 : decode cX4_tellBusiness 4 = .ok (.getfield 250, 3) := by decide +kernel
theorem dX4_tellBusiness_7 : decode cX4_tellBusiness 7 = .ok (.istore_n 1, 1) := by decide +kernel
theorem dX4_tellBusiness_8 : decode cX4_tellBusiness 8 = .ok (.iload_n 1, 1) := by decide +kernel
theorem dX4_tellBusiness_9 : decode cX4_tellBusiness 9 = .ok (.bipush 6, 2) := by decide +kernel
theorem dX4_tellBusiness_11 : decode cX4_tellBusiness 11 = .ok (.if_icmp .lt 4, 3) := by decide +kernel
theorem dX4_tellBusiness_14 : decode cX4_tellBusiness 14 = .ok (.return_, 1) := by decide +kernel
theorem dX4_tellBusiness_15 : decode cX4_tellBusiness 15 = .ok (.aload_n 0, 1) := by decide +kernel
theorem dX4_tellBusiness_16 : decode cX4_tellBusiness 16 = .ok (.getfield 21, 3) := by decide +kernel
theorem dX4_tellBusiness_19 : decode cX4_tellBusiness 19 = .ok (.getfield 253, 3) := by decide +kernel
theorem dX4_tellBusiness_22 : decode cX4_tellBusiness 22 = .ok (.iload_n 1, 1) := by decide +kernel
theorem dX4_tellBusiness_23 : decode cX4_tellBusiness 23 = .ok (.aload_n 0, 1) := by decide +kernel
theorem dX4_tellBusiness_24 : decode cX4_tellBusiness 24 = .ok (.getfield 44, 3) := by decide +kernel
theorem dX4_tellBusiness_27 : decode cX4_tellBusiness 27 = .ok (.iconst 0, 1) := by decide +kernel
theorem dX4_tellBusiness_28 : decode cX4_tellBusiness 28 = .ok (.iaload, 1) := by decide +kernel
theorem dX4_tellBusiness_29 : decode cX4_tellBusiness 29 = .ok (.iastore, 1) := by decide +kernel
theorem dX4_tellBusiness_30 : decode cX4_tellBusiness 30 = .ok (.aload_n 0, 1) := by decide +kernel
theorem dX4_tellBusiness_31 : decode cX4_tellBusiness 31 = .ok (.getfield 21, 3) := by decide +kernel
theorem dX4_tellBusiness_34 : decode cX4_tellBusiness 34 = .ok (.getfield 255, 3) := by decide +kernel
theorem dX4_tellBusiness_37 : decode cX4_tellBusiness 37 = .ok (.iload_n 1, 1) := by decide +kernel
theorem dX4_tellBusiness_38 : decode cX4_tellBusiness 38 = .ok (.aload_n 0, 1) := by decide +kernel
theorem dX4_tellBusiness_39 : decode cX4_tellBusiness 39 = .ok (.getfield 44, 3) := by decide +kernel
theorem dX4_tellBusiness_42 : decode cX4_tellBusiness 42 = .ok (.iconst 1, 1) := by decide +kernel
theorem dX4_tellBusiness_43 : decode cX4_tellBusiness 43 = .ok (.iaload, 1) := by decide +kernel
theorem dX4_tellBusiness_44 : decode cX4_tellBusiness 44 = .ok (.iastore, 1) := by decide +kernel
theorem dX4_tellBusiness_45 : decode cX4_tellBusiness 45 = .ok (.aload_n 0, 1) := by decide +kernel
theorem dX4_tellBusiness_46 : decode cX4_tellBusiness 46 = .ok (.getfield 21, 3) := by decide +kernel
theorem dX4_tellBusiness_49 : decode cX4_tellBusiness 49 = .ok (.getfield 258, 3) := by decide +kernel
theorem dX4_tellBusiness_52 : decode cX4_tellBusiness 52 = .ok (.iload_n 1, 1) := by decide +kernel
theorem dX4_tellBusiness_53 : decode cX4_tellBusiness 53 = .ok (.aload_n 0, 1) := by decide +kernel
theorem dX4_tellBusiness_54 : decode cX4_tellBusiness 54 = .ok (.getfield 44, 3) := by decide +kernel
theorem dX4_tellBusiness_57 : decode cX4_tellBusiness 57 = .ok (.iconst 2, 1) := by decide +kernel
theorem dX4_tellBusiness_58 : decode cX4_tellBusiness 58 = .ok (.iaload, 1) := by decide +kernel
theorem dX4_tellBusiness_59 : decode cX4_tellBusiness 59 = .ok (.iastore, 1) := by decide +kernel
theorem dX4_tellBusiness_60 : decode cX4_tellBusiness 60 = .ok (.aload_n 0, 1) := by decide +kernel
theorem dX4_tellBusiness_61 : decode cX4_tellBusiness 61 = .ok (.getfield 21, 3) := by decide +kernel
theorem dX4_tellBusiness_64 : decode cX4_tellBusiness 64 = .ok (.getfield 261, 3) := by decide +kernel
theorem dX4_tellBusiness_67 : decode cX4_tellBusiness 67 = .ok (.iload_n 1, 1) := by decide +kernel
theorem dX4_tellBusiness_68 : decode cX4_tellBusiness 68 = .ok (.aload_n 0, 1) := by decide +kernel
theorem dX4_tellBusiness_69 : decode cX4_tellBusiness 69 = .ok (.getfield 44, 3) := by decide +kernel
theorem dX4_tellBusiness_72 : decode cX4_tellBusiness 72 = .ok (.iconst 3, 1) := by decide +kernel
theorem dX4_tellBusiness_73 : decode cX4_tellBusiness 73 = .ok (.iaload, 1) := by decide +kernel
theorem dX4_tellBusiness_74 : decode cX4_tellBusiness 74 = .ok (.iastore, 1) := by decide +kernel
theorem dX4_tellBusiness_75 : decode cX4_tellBusiness 75 = .ok (.aload_n 0, 1) := by decide +kernel
theorem dX4_tellBusiness_76 : decode cX4_tellBusiness 76 = .ok (.getfield 21, 3) := by decide +kernel
theorem dX4_tellBusiness_79 : decode cX4_tellBusiness 79 = .ok (.dup, 1) := by decide +kernel
theorem dX4_tellBusiness_80 : decode cX4_tellBusiness 80 = .ok (.getfield 250, 3) := by decide +kernel
theorem dX4_tellBusiness_83 : decode cX4_tellBusiness 83 = .ok (.iconst 1, 1) := by decide +kernel
theorem dX4_tellBusiness_84 : decode cX4_tellBusiness 84 = .ok (.iadd, 1) := by decide +kernel
theorem dX4_tellBusiness_85 : decode cX4_tellBusiness 85 = .ok (.putfield 250, 3) := by decide +kernel
theorem dX4_tellBusiness_88 : decode cX4_tellBusiness 88 = .ok (.aload_n 0, 1) := by decide +kernel
theorem dX4_tellBusiness_89 : decode cX4_tellBusiness 89 = .ok (.aload_n 0, 1) := by decide +kernel
theorem dX4_tellBusiness_90 : decode cX4_tellBusiness 90 = .ok (.getfield 84, 3) := by decide +kernel
theorem dX4_tellBusiness_93 : decode cX4_tellBusiness 93 = .ok (.aload_n 0, 1) := by decide +kernel
theorem dX4_tellBusiness_94 : decode cX4_tellBusiness 94 = .ok (.getfield 44, 3) := by decide +kernel
theorem dX4_tellBusiness_97 : decode cX4_tellBusiness 97 = .ok (.iconst 2, 1) := by decide +kernel
theorem dX4_tellBusiness_98 : decode cX4_tellBusiness 98 = .ok (.iaload, 1) := by decide +kernel
theorem dX4_tellBusiness_99 : decode cX4_tellBusiness 99 = .ok (.invokestatic 231, 3) := by decide +kernel
theorem dX4_tellBusiness_102 : decode cX4_tellBusiness 102 = .ok (.putfield 84, 3) := by decide +kernel
theorem dX4_tellBusiness_105 : decode cX4_tellBusiness 105 = .ok (.return_, 1) := by decide +kernel
theorem dX4_tellSwaps_0 : decode cX4_tellSwaps 0 = .ok (.iload_n 1, 1) := by decide +kernel
theorem dX4_tellSwaps_1 : decode cX4_tellSwaps 1 = .ok (.bipush 15, 2) := by decide +kernel
theorem dX4_tellSwaps_3 : decode cX4_tellSwaps 3 = .ok (.if_icmp .ne 17, 3) := by decide +kernel
theorem dX4_tellSwaps_6 : decode cX4_tellSwaps 6 = .ok (.aload_n 0, 1) := by decide +kernel
theorem dX4_tellSwaps_7 : decode cX4_tellSwaps 7 = .ok (.getfield 40, 3) := by decide +kernel
theorem dX4_tellSwaps_10 : decode cX4_tellSwaps 10 = .ok (.aload_n 0, 1) := by decide +kernel
theorem dX4_tellSwaps_11 : decode cX4_tellSwaps 11 = .ok (.getfield 44, 3) := by decide +kernel
theorem dX4_tellSwaps_14 : decode cX4_tellSwaps 14 = .ok (.iconst 0, 1) := by decide +kernel
theorem dX4_tellSwaps_15 : decode cX4_tellSwaps 15 = .ok (.iaload, 1) := by decide +kernel
theorem dX4_tellSwaps_16 : decode cX4_tellSwaps 16 = .ok (.putfield 96, 3) := by decide +kernel
theorem dX4_tellSwaps_19 : decode cX4_tellSwaps 19 = .ok (.return_, 1) := by decide +kernel
theorem dX4_tellSwaps_20 : decode cX4_tellSwaps 20 = .ok (.aload_n 0, 1) := by decide +kernel
theorem dX4_tellSwaps_21 : decode cX4_tellSwaps 21 = .ok (.getfield 40, 3) := by decide +kernel
theorem dX4_tellSwaps_24 : decode cX4_tellSwaps 24 = .ok (.getfield 263, 3) := by decide +kernel
theorem dX4_tellSwaps_27 : decode cX4_tellSwaps 27 = .ok (.aload_n 0, 1) := by decide +kernel
theorem dX4_tellSwaps_28 : decode cX4_tellSwaps 28 = .ok (.getfield 44, 3) := by decide +kernel
theorem dX4_tellSwaps_31 : decode cX4_tellSwaps 31 = .ok (.iconst 0, 1) := by decide +kernel
theorem dX4_tellSwaps_32 : decode cX4_tellSwaps 32 = .ok (.iaload, 1) := by decide +kernel
theorem dX4_tellSwaps_33 : decode cX4_tellSwaps 33 = .ok (.bipush 6, 2) := by decide +kernel
theorem dX4_tellSwaps_35 : decode cX4_tellSwaps 35 = .ok (.imul, 1) := by decide +kernel
theorem dX4_tellSwaps_36 : decode cX4_tellSwaps 36 = .ok (.aload_n 0, 1) := by decide +kernel
theorem dX4_tellSwaps_37 : decode cX4_tellSwaps 37 = .ok (.getfield 44, 3) := by decide +kernel
theorem dX4_tellSwaps_40 : decode cX4_tellSwaps 40 = .ok (.iconst 1, 1) := by decide +kernel
theorem dX4_tellSwaps_41 : decode cX4_tellSwaps 41 = .ok (.iaload, 1) := by decide +kernel
theorem dX4_tellSwaps_42 : decode cX4_tellSwaps 42 = .ok (.iadd, 1) := by decide +kernel
theorem dX4_tellSwaps_43 : decode cX4_tellSwaps 43 = .ok (.aload_n 0, 1) := by decide +kernel
theorem dX4_tellSwaps_44 : decode cX4_tellSwaps 44 = .ok (.getfield 44, 3) := by decide +kernel
theorem dX4_tellSwaps_47 : decode cX4_tellSwaps 47 = .ok (.iconst 2, 1) := by decide +kernel
theorem dX4_tellSwaps_48 : decode cX4_tellSwaps 48 = .ok (.iaload, 1) := by decide +kernel
theorem dX4_tellSwaps_49 : decode cX4_tellSwaps 49 = .ok (.iastore, 1) := by decide +kernel
theorem dX4_tellSwaps_50 : decode cX4_tellSwaps 50 = .ok (.aload_n 0, 1) := by decide +kernel
theorem dX4_tellSwaps_51 : decode cX4_tellSwaps 51 = .ok (.aload_n 0, 1) := by decide +kernel
theorem dX4_tellSwaps_52 : decode cX4_tellSwaps 52 = .ok (.getfield 87, 3) := by decide +kernel
theorem dX4_tellSwaps_55 : decode cX4_tellSwaps 55 = .ok (.aload_n 0, 1) := by decide +kernel
theorem dX4_tellSwaps_56 : decode cX4_tellSwaps 56 = .ok (.getfield 44, 3) := by decide +kernel
theorem dX4_tellSwaps_59 : decode cX4_tellSwaps 59 = .ok (.iconst 0, 1) := by decide +kernel
theorem dX4_tellSwaps_60 : decode cX4_tellSwaps 60 = .ok (.iaload, 1) := by decide +kernel
theorem dX4_tellSwaps_61 : decode cX4_tellSwaps 61 = .ok (.aload_n 0, 1) := by decide +kernel
theorem dX4_tellSwaps_62 : decode cX4_tellSwaps 62 = .ok (.getfield 44, 3) := by decide +kernel
theorem dX4_tellSwaps_65 : decode cX4_tellSwaps 65 = .ok (.iconst 1, 1) := by decide +kernel
theorem dX4_tellSwaps_66 : decode cX4_tellSwaps 66 = .ok (.iaload, 1) := by decide +kernel
theorem dX4_tellSwaps_67 : decode cX4_tellSwaps 67 = .ok (.invokestatic 231, 3) := by decide +kernel
theorem dX4_tellSwaps_70 : decode cX4_tellSwaps 70 = .ok (.invokestatic 231, 3) := by decide +kernel
theorem dX4_tellSwaps_73 : decode cX4_tellSwaps 73 = .ok (.putfield 87, 3) := by decide +kernel
theorem dX4_tellSwaps_76 : decode cX4_tellSwaps 76 = .ok (.return_, 1) := by decide +kernel
theorem dX5_clear_0 : decode cX5_clear 0 = .ok (.aload_n 0, 1) := by decide +kernel
theorem dX5_clear_1 : decode cX5_clear 1 = .ok (.bipush 12, 2) := by decide +kernel
theorem dX5_clear_3 : decode cX5_clear 3 = .ok (.putfield 33, 3) := by decide +kernel
theorem dX5_clear_6 : decode cX5_clear 6 = .ok (.aload_n 0, 1) := by decide +kernel
theorem dX5_clear_7 : decode cX5_clear 7 = .ok (.iconst 2, 1) := by decide +kernel
theorem dX5_clear_8 : decode cX5_clear 8 = .ok (.putfield 37, 3) := by decide +kernel
theorem dX5_clear_11 : decode cX5_clear 11 = .ok (.aload_n 0, 1) := by decide +kernel
theorem dX5_clear_12 : decode cX5_clear 12 = .ok (.iconst 0, 1) := by decide +kernel
theorem dX5_clear_13 : decode cX5_clear 13 = .ok (.putfield 40, 3) := by decide +kernel
theorem dX5_clear_16 : decode cX5_clear 16 = .ok (.aload_n 0, 1) := by decide +kernel
theorem dX5_clear_17 : decode cX5_clear 17 = .ok (.getfield 9, 3) := by decide +kernel
theorem dX5_clear_20 : decode cX5_clear 20 = .ok (.bipush 20, 2) := by decide +kernel
theorem dX5_clear_22 : decode cX5_clear 22 = .ok (.invokestatic 43, 3) := by decide +kernel
theorem dX5_clear_25 : decode cX5_clear 25 = .ok (.aload_n 0, 1) := by decide +kernel
theorem dX5_clear_26 : decode cX5_clear 26 = .ok (.getfield 15, 3) := by decide +kernel
theorem dX5_clear_29 : decode cX5_clear 29 = .ok (.iconst 1, 1) := by decide +kernel
theorem dX5_clear_30 : decode cX5_clear 30 = .ok (.invokestatic 43, 3) := by decide +kernel
theorem dX5_clear_33 : decode cX5_clear 33 = .ok (.aload_n 0, 1) := by decide +kernel
theorem dX5_clear_34 : decode cX5_clear 34 = .ok (.getfield 18, 3) := by decide +kernel
theorem dX5_clear_37 : decode cX5_clear 37 = .ok (.iconst (-1), 1) := by decide +kernel
theorem dX5_clear_38 : decode cX5_clear 38 = .ok (.invokestatic 43, 3) := by decide +kernel
theorem dX5_clear_41 : decode cX5_clear 41 = .ok (.return_, 1) := by decide +kernel
theorem dX5_copyFrom_0 : decode cX5_copyFrom 0 = .ok (.aload_n 0, 1) := by decide +kernel
theorem dX5_copyFrom_1 : decode cX5_copyFrom 1 = .ok (.aload_n 1, 1) := by decide +kernel
theorem dX5_copyFrom_2 : decode cX5_copyFrom 2 = .ok (.getfield 33, 3) := by decide +kernel
theorem dX5_copyFrom_5 : decode cX5_copyFrom 5 = .ok (.putfield 33, 3) := by decide +kernel
theorem dX5_copyFrom_8 : decode cX5_copyFrom 8 = .ok (.aload_n 0, 1) := by decide +kernel
theorem dX5_copyFrom_9 : decode cX5_copyFrom 9 = .ok (.aload_n 1, 1) := by decide +kernel
theorem dX5_copyFrom_10 : decode cX5_copyFrom 10 = .ok (.getfield 37, 3) := by decide +kernel
theorem dX5_copyFrom_13 : decode cX5_copyFrom 13 = .ok (.putfield 37, 3) := by decide +kernel
theorem dX5_copyFrom_16 : decode cX5_copyFrom 16 = .ok (.aload_n 0, 1) := by decide +kernel
theorem dX5_copyFrom_17 : decode cX5_copyFrom 17 = .ok (.aload_n 1, 1) := by decide +kernel
theorem dX5_copyFrom_18 : decode cX5_copyFrom 18 = .ok (.getfield 40, 3) := by decide +kernel
theorem dX5_copyFrom_21 : decode cX5_copyFrom 21 = .ok (.putfield 40, 3) := by decide +kernel
theorem dX5_copyFrom_24 : decode cX5_copyFrom 24 = .ok (.aload_n 1, 1) := by decide +kernel
theorem dX5_copyFrom_25 : decode cX5_copyFrom 25 = .ok (.getfield 9, 3) := by decide +kernel
theorem dX5_copyFrom_28 : decode cX5_copyFrom 28 = .ok (.iconst 0, 1) := by decide +kernel
theorem dX5_copyFrom_29 : decode cX5_copyFrom 29 = .ok (.aload_n 0, 1) := by decide +kernel
theorem dX5_copyFrom_30 : decode cX5_copyFrom 30 = .ok (.getfield 9, 3) := by decide +kernel
theorem dX5_copyFrom_33 : decode cX5_copyFrom 33 = .ok (.iconst 0, 1) := by decide +kernel
theorem dX5_copyFrom_34 : decode cX5_copyFrom 34 = .ok (.iconst 4, 1) := by decide +kernel
theorem dX5_copyFrom_35 : decode cX5_copyFrom 35 = .ok (.invokestatic 49, 3) := by decide +kernel
theorem dX5_copyFrom_38 : decode cX5_copyFrom 38 = .ok (.aload_n 1, 1) := by decide +kernel
theorem dX5_copyFrom_39 : decode cX5_copyFrom 39 = .ok (.getfield 15, 3) := by decide +kernel
theorem dX5_copyFrom_42 : decode cX5_copyFrom 42 = .ok (.iconst 0, 1) := by decide +kernel
theorem dX5_copyFrom_43 : decode cX5_copyFrom 43 = .ok (.aload_n 0, 1) := by decide +kernel
theorem dX5_copyFrom_44 : decode cX5_copyFrom 44 = .ok (.getfield 15, 3) := by decide +kernel
theorem dX5_copyFrom_47 : decode cX5_copyFrom 47 = .ok (.iconst 0, 1) := by decide +kernel
theorem dX5_copyFrom_48 : decode cX5_copyFrom 48 = .ok (.bipush 40, 2) := by decide +kernel
theorem dX5_copyFrom_50 : decode cX5_copyFrom 50 = .ok (.invokestatic 49, 3) := by decide +kernel
theorem dX5_copyFrom_53 : decode cX5_copyFrom 53 = .ok (.aload_n 1, 1) := by decide +kernel
theorem dX5_copyFrom_54 : decode cX5_copyFrom 54 = .ok (.getfield 18, 3) := by decide +kernel
theorem dX5_copyFrom_57 : decode cX5_copyFrom 57 = .ok (.iconst 0, 1) := by decide +kernel
theorem dX5_copyFrom_58 : decode cX5_copyFrom 58 = .ok (.aload_n 0, 1) := by decide +kernel
theorem dX5_copyFrom_59 : decode cX5_copyFrom 59 = .ok (.getfield 18, 3) := by decide +kernel
theorem dX5_copyFrom_62 : decode cX5_copyFrom 62 = .ok (.iconst 0, 1) := by decide +kernel
theorem dX5_copyFrom_63 : decode cX5_copyFrom 63 = .ok (.bipush 40, 2) := by decide +kernel
theorem dX5_copyFrom_65 : decode cX5_copyFrom 65 = .ok (.invokestatic 49, 3) := by decide +kernel
theorem dX5_copyFrom_68 : decode cX5_copyFrom 68 = .ok (.aload_n 1, 1) := by decide +kernel
theorem dX5_copyFrom_69 : decode cX5_copyFrom 69 = .ok (.getfield 21, 3) := by decide +kernel
theorem dX5_copyFrom_72 : decode cX5_copyFrom 72 = .ok (.iconst 0, 1) := by decide +kernel
theorem dX5_copyFrom_73 : decode cX5_copyFrom 73 = .ok (.aload_n 0, 1) := by decide +kernel
theorem dX5_copyFrom_74 : decode cX5_copyFrom 74 = .ok (.getfield 21, 3) := by decide +kernel
theorem dX5_copyFrom_77 : decode cX5_copyFrom 77 = .ok (.iconst 0, 1) := by decide +kernel
theorem dX5_copyFrom_78 : decode cX5_copyFrom 78 = .ok (.bipush 6, 2) := by decide +kernel
theorem dX5_copyFrom_80 : decode cX5_copyFrom 80 = .ok (.invokestatic 49, 3) := by decide +kernel
theorem dX5_copyFrom_83 : decode cX5_copyFrom 83 = .ok (.aload_n 1, 1) := by decide +kernel
theorem dX5_copyFrom_84 : decode cX5_copyFrom 84 = .ok (.getfield 24, 3) := by decide +kernel
theorem dX5_copyFrom_87 : decode cX5_copyFrom 87 = .ok (.iconst 0, 1) := by decide +kernel
theorem dX5_copyFrom_88 : decode cX5_copyFrom 88 = .ok (.aload_n 0, 1) := by decide +kernel
theorem dX5_copyFrom_89 : decode cX5_copyFrom 89 = .ok (.getfield 24, 3) := by decide +kernel
theorem dX5_copyFrom_92 : decode cX5_copyFrom 92 = .ok (.iconst 0, 1) := by decide +kernel
theorem dX5_copyFrom_93 : decode cX5_copyFrom 93 = .ok (.bipush 6, 2) := by decide +kernel
theorem dX5_copyFrom_95 : decode cX5_copyFrom 95 = .ok (.invokestatic 49, 3) := by decide +kernel
theorem dX5_copyFrom_98 : decode cX5_copyFrom 98 = .ok (.aload_n 1, 1) := by decide +kernel
theorem dX5_copyFrom_99 : decode cX5_copyFrom 99 = .ok (.getfield 27, 3) := by decide +kernel
theorem dX5_copyFrom_102 : decode cX5_copyFrom 102 = .ok (.iconst 0, 1) := by decide +kernel
theorem dX5_copyFrom_103 : decode cX5_copyFrom 103 = .ok (.aload_n 0, 1) := by decide +kernel
theorem dX5_copyFrom_104 : decode cX5_copyFrom 104 = .ok (.getfield 27, 3) := by decide +kernel
theorem dX5_copyFrom_107 : decode cX5_copyFrom 107 = .ok (.iconst 0, 1) := by decide +kernel
theorem dX5_copyFrom_108 : decode cX5_copyFrom 108 = .ok (.bipush 6, 2) := by decide +kernel
theorem dX5_copyFrom_110 : decode cX5_copyFrom 110 = .ok (.invokestatic 49, 3) := by decide +kernel
theorem dX5_copyFrom_113 : decode cX5_copyFrom 113 = .ok (.aload_n 1, 1) := by decide +kernel
theorem dX5_copyFrom_114 : decode cX5_copyFrom 114 = .ok (.getfield 30, 3) := by decide +kernel
theorem dX5_copyFrom_117 : decode cX5_copyFrom 117 = .ok (.iconst 0, 1) := by decide +kernel
theorem dX5_copyFrom_118 : decode cX5_copyFrom 118 = .ok (.aload_n 0, 1) := by decide +kernel
theorem dX5_copyFrom_119 : decode cX5_copyFrom 119 = .ok (.getfield 30, 3) := by decide +kernel
theorem dX5_copyFrom_122 : decode cX5_copyFrom 122 = .ok (.iconst 0, 1) := by decide +kernel
theorem dX5_copyFrom_123 : decode cX5_copyFrom 123 = .ok (.bipush 6, 2) := by decide +kernel
theorem dX5_copyFrom_125 : decode cX5_copyFrom 125 = .ok (.invokestatic 49, 3) := by decide +kernel
theorem dX5_copyFrom_128 : decode cX5_copyFrom 128 = .ok (.return_, 1) := by decide +kernel
theorem dX5_hasSet_0 : decode cX5_hasSet 0 = .ok (.iload_n 1, 1) := by decide +kernel
theorem dX5_hasSet_1 : decode cX5_hasSet 1 = .ok (.ifCond .lt 15, 3) := by decide +kernel
theorem dX5_hasSet_4 : decode cX5_hasSet 4 = .ok (.iload_n 1, 1) := by decide +kernel
theorem dX5_hasSet_5 : decode cX5_hasSet 5 = .ok (.aload_n 0, 1) := by decide +kernel
theorem dX5_hasSet_6 : decode cX5_hasSet 6 = .ok (.invokevirtual 55, 3) := by decide +kernel
theorem dX5_hasSet_9 : decode cX5_hasSet 9 = .ok (.if_icmp .ge 7, 3) := by decide +kernel
theorem dX5_hasSet_12 : decode cX5_hasSet 12 = .ok (.iconst 1, 1) := by decide +kernel
theorem dX5_hasSet_13 : decode cX5_hasSet 13 = .ok (.goto 4, 3) := by decide +kernel
theorem dX5_hasSet_16 : decode cX5_hasSet 16 = .ok (.iconst 0, 1) := by decide +kernel
theorem dX5_hasSet_17 : decode cX5_hasSet 17 = .ok (.ireturn, 1) := by decide +kernel
theorem dX5_possible_0 : decode cX5_possible 0 = .ok (.iconst 0, 1) := by decide +kernel
theorem dX5_possible_1 : decode cX5_possible 1 = .ok (.istore_n 3, 1) := by decide +kernel
theorem dX5_possible_2 : decode cX5_possible 2 = .ok (.iconst 0, 1) := by decide +kernel
theorem dX5_possible_3 : decode cX5_possible 3 = .ok (.istore 4, 2) := by decide +kernel
theorem dX5_possible_5 : decode cX5_possible 5 = .ok (.iload 4, 2) := by decide +kernel
theorem dX5_possible_7 : decode cX5_possible 7 = .ok (.aload_n 0, 1) := by decide +kernel
theorem dX5_possible_8 : decode cX5_possible 8 = .ok (.getfield 40, 3) := by decide +kernel
theorem dX5_possible_11 : decode cX5_possible 11 = .ok (.if_icmp .ge 55, 3) := by decide +kernel
theorem dX5_possible_14 : decode cX5_possible 14 = .ok (.aload_n 0, 1) := by decide +kernel
theorem dX5_possible_15 : decode cX5_possible 15 = .ok (.getfield 24, 3) := by decide +kernel
theorem dX5_possible_18 : decode cX5_possible 18 = .ok (.iload 4, 2) := by decide +kernel
theorem dX5_possible_20 : decode cX5_possible 20 = .ok (.iaload, 1) := by decide +kernel
theorem dX5_possible_21 : decode cX5_possible 21 = .ok (.istore 5, 2) := by decide +kernel
theorem dX5_possible_23 : decode cX5_possible 23 = .ok (.iload 5, 2) := by decide +kernel
theorem dX5_possible_25 : decode cX5_possible 25 = .ok (.aload_n 0, 1) := by decide +kernel
theorem dX5_possible_26 : decode cX5_possible 26 = .ok (.getfield 27, 3) := by decide +kernel
theorem dX5_possible_29 : decode cX5_possible 29 = .ok (.iload 4, 2) := by decide +kernel
theorem dX5_possible_31 : decode cX5_possible 31 = .ok (.iaload, 1) := by decide +kernel
theorem dX5_possible_32 : decode cX5_possible 32 = .ok (.if_icmp .gt 28, 3) := by decide +kernel
theorem dX5_possible_35 : decode cX5_possible 35 = .ok (.aload_n 0, 1) := by decide +kernel
theorem dX5_possible_36 : decode cX5_possible 36 = .ok (.iload 4, 2) := by decide +kernel
theorem dX5_possible_38 : decode cX5_possible 38 = .ok (.iload 5, 2) := by decide +kernel
theorem dX5_possible_40 : decode cX5_possible 40 = .ok (.lload_n 1, 1) := by decide +kernel
theorem dX5_possible_41 : decode cX5_possible 41 = .ok (.invokevirtual 61, 3) := by decide +kernel
theorem dX5_possible_44 : decode cX5_possible 44 = .ok (.ifCond .eq 10, 3) := by decide +kernel
theorem dX5_possible_47 : decode cX5_possible 47 = .ok (.iload_n 3, 1) := by decide +kernel
theorem dX5_possible_48 : decode cX5_possible 48 = .ok (.iconst 1, 1) := by decide +kernel
theorem dX5_possible_49 : decode cX5_possible 49 = .ok (.iload 4, 2) := by decide +kernel
theorem dX5_possible_51 : decode cX5_possible 51 = .ok (.ishl, 1) := by decide +kernel
theorem dX5_possible_52 : decode cX5_possible 52 = .ok (.ior, 1) := by decide +kernel
theorem dX5_possible_53 : decode cX5_possible 53 = .ok (.istore_n 3, 1) := by decide +kernel
theorem dX5_possible_54 : decode cX5_possible 54 = .ok (.iinc 5 1, 3) := by decide +kernel
theorem dX5_possible_57 : decode cX5_possible 57 = .ok (.goto (-34), 3) := by decide +kernel
theorem dX5_possible_60 : decode cX5_possible 60 = .ok (.iinc 4 1, 3) := by decide +kernel
theorem dX5_possible_63 : decode cX5_possible 63 = .ok (.goto (-58), 3) := by decide +kernel
theorem dX5_possible_66 : decode cX5_possible 66 = .ok (.iload_n 3, 1) := by decide +kernel
theorem dX5_possible_67 : decode cX5_possible 67 = .ok (.ireturn, 1) := by decide +kernel
theorem dX5_runsOver_0 : decode cX5_runsOver 0 = .ok (.iconst 0, 1) := by decide +kernel
theorem dX5_runsOver_1 : decode cX5_runsOver 1 = .ok (.istore_n 2, 1) := by decide +kernel
theorem dX5_runsOver_2 : decode cX5_runsOver 2 = .ok (.iconst 0, 1) := by decide +kernel
theorem dX5_runsOver_3 : decode cX5_runsOver 3 = .ok (.istore_n 3, 1) := by decide +kernel
theorem dX5_runsOver_4 : decode cX5_runsOver 4 = .ok (.iload_n 3, 1) := by decide +kernel
theorem dX5_runsOver_5 : decode cX5_runsOver 5 = .ok (.aload_n 0, 1) := by decide +kernel
theorem dX5_runsOver_6 : decode cX5_runsOver 6 = .ok (.getfield 40, 3) := by decide +kernel
theorem dX5_runsOver_9 : decode cX5_runsOver 9 = .ok (.if_icmp .ge 65, 3) := by decide +kernel
theorem dX5_runsOver_12 : decode cX5_runsOver 12 = .ok (.aload_n 0, 1) := by decide +kernel
theorem dX5_runsOver_13 : decode cX5_runsOver 13 = .ok (.getfield 24, 3) := by decide +kernel
theorem dX5_runsOver_16 : decode cX5_runsOver 16 = .ok (.iload_n 3, 1) := by decide +kernel
theorem dX5_runsOver_17 : decode cX5_runsOver 17 = .ok (.iaload, 1) := by decide +kernel
theorem dX5_runsOver_18 : decode cX5_runsOver 18 = .ok (.iload_n 1, 1) := by decide +kernel
theorem dX5_runsOver_19 : decode cX5_runsOver 19 = .ok (.aload_n 0, 1) := by decide +kernel
theorem dX5_runsOver_20 : decode cX5_runsOver 20 = .ok (.getfield 21, 3) := by decide +kernel
theorem dX5_runsOver_23 : decode cX5_runsOver 23 = .ok (.iload_n 3, 1) := by decide +kernel
theorem dX5_runsOver_24 : decode cX5_runsOver 24 = .ok (.iaload, 1) := by decide +kernel
theorem dX5_runsOver_25 : decode cX5_runsOver 25 = .ok (.isub, 1) := by decide +kernel
theorem dX5_runsOver_26 : decode cX5_runsOver 26 = .ok (.iconst 1, 1) := by decide +kernel
theorem dX5_runsOver_27 : decode cX5_runsOver 27 = .ok (.iadd, 1) := by decide +kernel
theorem dX5_runsOver_28 : decode cX5_runsOver 28 = .ok (.invokestatic 65, 3) := by decide +kernel
theorem dX5_runsOver_31 : decode cX5_runsOver 31 = .ok (.istore 4, 2) := by decide +kernel
theorem dX5_runsOver_33 : decode cX5_runsOver 33 = .ok (.iload_n 1, 1) := by decide +kernel
theorem dX5_runsOver_34 : decode cX5_runsOver 34 = .ok (.aload_n 0, 1) := by decide +kernel
theorem dX5_runsOver_35 : decode cX5_runsOver 35 = .ok (.getfield 27, 3) := by decide +kernel
theorem dX5_runsOver_38 : decode cX5_runsOver 38 = .ok (.iload_n 3, 1) := by decide +kernel
theorem dX5_runsOver_39 : decode cX5_runsOver 39 = .ok (.iaload, 1) := by decide +kernel
theorem dX5_runsOver_40 : decode cX5_runsOver 40 = .ok (.aload_n 0, 1) := by decide +kernel
theorem dX5_runsOver_41 : decode cX5_runsOver 41 = .ok (.getfield 21, 3) := by decide +kernel
theorem dX5_runsOver_44 : decode cX5_runsOver 44 = .ok (.iload_n 3, 1) := by decide +kernel
theorem dX5_runsOver_45 : decode cX5_runsOver 45 = .ok (.iaload, 1) := by decide +kernel
theorem dX5_runsOver_46 : decode cX5_runsOver 46 = .ok (.isub, 1) := by decide +kernel
theorem dX5_runsOver_47 : decode cX5_runsOver 47 = .ok (.iconst 1, 1) := by decide +kernel
theorem dX5_runsOver_48 : decode cX5_runsOver 48 = .ok (.iadd, 1) := by decide +kernel
theorem dX5_runsOver_49 : decode cX5_runsOver 49 = .ok (.invokestatic 71, 3) := by decide +kernel
theorem dX5_runsOver_52 : decode cX5_runsOver 52 = .ok (.istore 5, 2) := by decide +kernel
theorem dX5_runsOver_54 : decode cX5_runsOver 54 = .ok (.iload_n 2, 1) := by decide +kernel
theorem dX5_runsOver_55 : decode cX5_runsOver 55 = .ok (.iconst 0, 1) := by decide +kernel
theorem dX5_runsOver_56 : decode cX5_runsOver 56 = .ok (.iload 5, 2) := by decide +kernel
theorem dX5_runsOver_58 : decode cX5_runsOver 58 = .ok (.iload 4, 2) := by decide +kernel
theorem dX5_runsOver_60 : decode cX5_runsOver 60 = .ok (.isub, 1) := by decide +kernel
theorem dX5_runsOver_61 : decode cX5_runsOver 61 = .ok (.iconst 1, 1) := by decide +kernel
theorem dX5_runsOver_62 : decode cX5_runsOver 62 = .ok (.iadd, 1) := by decide +kernel
theorem dX5_runsOver_63 : decode cX5_runsOver 63 = .ok (.invokestatic 65, 3) := by decide +kernel
theorem dX5_runsOver_66 : decode cX5_runsOver 66 = .ok (.iadd, 1) := by decide +kernel
theorem dX5_runsOver_67 : decode cX5_runsOver 67 = .ok (.istore_n 2, 1) := by decide +kernel
theorem dX5_runsOver_68 : decode cX5_runsOver 68 = .ok (.iinc 3 1, 3) := by decide +kernel
theorem dX5_runsOver_71 : decode cX5_runsOver 71 = .ok (.goto (-67), 3) := by decide +kernel
theorem dX5_runsOver_74 : decode cX5_runsOver 74 = .ok (.iload_n 2, 1) := by decide +kernel
theorem dX5_runsOver_75 : decode cX5_runsOver 75 = .ok (.ireturn, 1) := by decide +kernel
theorem dX6_clear_0 : decode cX6_clear 0 = .ok (.aload_n 0, 1) := by decide +kernel
theorem dX6_clear_1 : decode cX6_clear 1 = .ok (.iconst 3, 1) := by decide +kernel
theorem dX6_clear_2 : decode cX6_clear 2 = .ok (.putfield 15, 3) := by decide +kernel
theorem dX6_clear_5 : decode cX6_clear 5 = .ok (.aload_n 0, 1) := by decide +kernel
theorem dX6_clear_6 : decode cX6_clear 6 = .ok (.getfield 9, 3) := by decide +kernel
theorem dX6_clear_9 : decode cX6_clear 9 = .ok (.iconst 0, 1) := by decide +kernel
theorem dX6_clear_10 : decode cX6_clear 10 = .ok (.invokestatic 19, 3) := by decide +kernel
theorem dX6_clear_13 : decode cX6_clear 13 = .ok (.return_, 1) := by decide +kernel
theorem dX6_copyFrom_0 : decode cX6_copyFrom 0 = .ok (.aload_n 0, 1) := by decide +kernel
theorem dX6_copyFrom_1 : decode cX6_copyFrom 1 = .ok (.aload_n 1, 1) := by decide +kernel
theorem dX6_copyFrom_2 : decode cX6_copyFrom 2 = .ok (.getfield 15, 3) := by decide +kernel
theorem dX6_copyFrom_5 : decode cX6_copyFrom 5 = .ok (.putfield 15, 3) := by decide +kernel
theorem dX6_copyFrom_8 : decode cX6_copyFrom 8 = .ok (.aload_n 1, 1) := by decide +kernel
theorem dX6_copyFrom_9 : decode cX6_copyFrom 9 = .ok (.getfield 9, 3) := by decide +kernel
theorem dX6_copyFrom_12 : decode cX6_copyFrom 12 = .ok (.iconst 0, 1) := by decide +kernel
theorem dX6_copyFrom_13 : decode cX6_copyFrom 13 = .ok (.aload_n 0, 1) := by decide +kernel
theorem dX6_copyFrom_14 : decode cX6_copyFrom 14 = .ok (.getfield 9, 3) := by decide +kernel
theorem dX6_copyFrom_17 : decode cX6_copyFrom 17 = .ok (.iconst 0, 1) := by decide +kernel
theorem dX6_copyFrom_18 : decode cX6_copyFrom 18 = .ok (.bipush 36, 2) := by decide +kernel
theorem dX6_copyFrom_20 : decode cX6_copyFrom 20 = .ok (.invokestatic 25, 3) := by decide +kernel
theorem dX6_copyFrom_23 : decode cX6_copyFrom 23 = .ok (.return_, 1) := by decide +kernel
theorem dX6_pairs_0 : decode cX6_pairs 0 = .ok (.iconst 0, 1) := by decide +kernel
theorem dX6_pairs_1 : decode cX6_pairs 1 = .ok (.istore_n 1, 1) := by decide +kernel
theorem dX6_pairs_2 : decode cX6_pairs 2 = .ok (.iconst 0, 1) := by decide +kernel
theorem dX6_pairs_3 : decode cX6_pairs 3 = .ok (.istore_n 2, 1) := by decide +kernel
theorem dX6_pairs_4 : decode cX6_pairs 4 = .ok (.iload_n 2, 1) := by decide +kernel
theorem dX6_pairs_5 : decode cX6_pairs 5 = .ok (.aload_n 0, 1) := by decide +kernel
theorem dX6_pairs_6 : decode cX6_pairs 6 = .ok (.getfield 15, 3) := by decide +kernel
theorem dX6_pairs_9 : decode cX6_pairs 9 = .ok (.if_icmp .ge 60, 3) := by decide +kernel
theorem dX6_pairs_12 : decode cX6_pairs 12 = .ok (.iload_n 2, 1) := by decide +kernel
theorem dX6_pairs_13 : decode cX6_pairs 13 = .ok (.iconst 1, 1) := by decide +kernel
theorem dX6_pairs_14 : decode cX6_pairs 14 = .ok (.iadd, 1) := by decide +kernel
theorem dX6_pairs_15 : decode cX6_pairs 15 = .ok (.istore_n 3, 1) := by decide +kernel
theorem dX6_pairs_16 : decode cX6_pairs 16 = .ok (.iload_n 3, 1) := by decide +kernel
theorem dX6_pairs_17 : decode cX6_pairs 17 = .ok (.aload_n 0, 1) := by decide +kernel
theorem dX6_pairs_18 : decode cX6_pairs 18 = .ok (.getfield 15, 3) := by decide +kernel
theorem dX6_pairs_21 : decode cX6_pairs 21 = .ok (.if_icmp .ge 42, 3) := by decide +kernel
theorem dX6_pairs_24 : decode cX6_pairs 24 = .ok (.aload_n 0, 1) := by decide +kernel
theorem dX6_pairs_25 : decode cX6_pairs 25 = .ok (.iload_n 2, 1) := by decide +kernel
theorem dX6_pairs_26 : decode cX6_pairs 26 = .ok (.iload_n 3, 1) := by decide +kernel
theorem dX6_pairs_27 : decode cX6_pairs 27 = .ok (.invokevirtual 31, 3) := by decide +kernel
theorem dX6_pairs_30 : decode cX6_pairs 30 = .ok (.aload_n 0, 1) := by decide +kernel
theorem dX6_pairs_31 : decode cX6_pairs 31 = .ok (.iload_n 2, 1) := by decide +kernel
theorem dX6_pairs_32 : decode cX6_pairs 32 = .ok (.iload_n 2, 1) := by decide +kernel
theorem dX6_pairs_33 : decode cX6_pairs 33 = .ok (.invokevirtual 31, 3) := by decide +kernel
theorem dX6_pairs_36 : decode cX6_pairs 36 = .ok (.if_icmp .le 21, 3) := by decide +kernel
theorem dX6_pairs_39 : decode cX6_pairs 39 = .ok (.aload_n 0, 1) := by decide +kernel
theorem dX6_pairs_40 : decode cX6_pairs 40 = .ok (.iload_n 3, 1) := by decide +kernel
theorem dX6_pairs_41 : decode cX6_pairs 41 = .ok (.iload_n 2, 1) := by decide +kernel
theorem dX6_pairs_42 : decode cX6_pairs 42 = .ok (.invokevirtual 31, 3) := by decide +kernel
theorem dX6_pairs_45 : decode cX6_pairs 45 = .ok (.aload_n 0, 1) := by decide +kernel
theorem dX6_pairs_46 : decode cX6_pairs 46 = .ok (.iload_n 3, 1) := by decide +kernel
theorem dX6_pairs_47 : decode cX6_pairs 47 = .ok (.iload_n 3, 1) := by decide +kernel
theorem dX6_pairs_48 : decode cX6_pairs 48 = .ok (.invokevirtual 31, 3) := by decide +kernel
theorem dX6_pairs_51 : decode cX6_pairs 51 = .ok (.if_icmp .le 6, 3) := by decide +kernel
theorem dX6_pairs_54 : decode cX6_pairs 54 = .ok (.iinc 1 1, 3) := by decide +kernel
theorem dX6_pairs_57 : decode cX6_pairs 57 = .ok (.iinc 3 1, 3) := by decide +kernel
theorem dX6_pairs_60 : decode cX6_pairs 60 = .ok (.goto (-44), 3) := by decide +kernel
theorem dX6_pairs_63 : decode cX6_pairs 63 = .ok (.iinc 2 1, 3) := by decide +kernel
theorem dX6_pairs_66 : decode cX6_pairs 66 = .ok (.goto (-62), 3) := by decide +kernel
theorem dX6_pairs_69 : decode cX6_pairs 69 = .ok (.iload_n 1, 1) := by decide +kernel
theorem dX6_pairs_70 : decode cX6_pairs 70 = .ok (.ireturn, 1) := by decide +kernel
theorem dX7_takeFacts_0 : decode cX7_takeFacts 0 = .ok (.aload_n 0, 1) := by decide +kernel
theorem dX7_takeFacts_1 : decode cX7_takeFacts 1 = .ok (.lconst 0, 1) := by decide +kernel
theorem dX7_takeFacts_2 : decode cX7_takeFacts 2 = .ok (.putfield 49, 3) := by decide +kernel
theorem dX7_takeFacts_5 : decode cX7_takeFacts 5 = .ok (.aload_n 0, 1) := by decide +kernel
theorem dX7_takeFacts_6 : decode cX7_takeFacts 6 = .ok (.lconst 0, 1) := by decide +kernel
theorem dX7_takeFacts_7 : decode cX7_takeFacts 7 = .ok (.putfield 53, 3) := by decide +kernel
theorem dX7_takeFacts_10 : decode cX7_takeFacts 10 = .ok (.iconst 0, 1) := by decide +kernel
theorem dX7_takeFacts_11 : decode cX7_takeFacts 11 = .ok (.istore_n 2, 1) := by decide +kernel
theorem dX7_takeFacts_12 : decode cX7_takeFacts 12 = .ok (.iload_n 2, 1) := by decide +kernel
theorem dX7_takeFacts_13 : decode cX7_takeFacts 13 = .ok (.aload_n 1, 1) := by decide +kernel
theorem dX7_takeFacts_14 : decode cX7_takeFacts 14 = .ok (.getfield 56, 3) := by decide +kernel
theorem dX7_takeFacts_17 : decode cX7_takeFacts 17 = .ok (.if_icmp .ge 52, 3) := by decide +kernel
theorem dX7_takeFacts_20 : decode cX7_takeFacts 20 = .ok (.lconst 1, 1) := by decide +kernel
theorem dX7_takeFacts_21 : decode cX7_takeFacts 21 = .ok (.aload_n 1, 1) := by decide +kernel
theorem dX7_takeFacts_22 : decode cX7_takeFacts 22 = .ok (.iload_n 2, 1) := by decide +kernel
theorem dX7_takeFacts_23 : decode cX7_takeFacts 23 = .ok (.iconst 0, 1) := by decide +kernel
theorem dX7_takeFacts_24 : decode cX7_takeFacts 24 = .ok (.invokevirtual 59, 3) := by decide +kernel
theorem dX7_takeFacts_27 : decode cX7_takeFacts 27 = .ok (.lshl, 1) := by decide +kernel
theorem dX7_takeFacts_28 : decode cX7_takeFacts 28 = .ok (.lstore_n 3, 1) := by decide +kernel
theorem dX7_takeFacts_29 : decode cX7_takeFacts 29 = .ok (.aload_n 1, 1) := by decide +kernel
theorem dX7_takeFacts_30 : decode cX7_takeFacts 30 = .ok (.getfield 63, 3) := by decide +kernel
theorem dX7_takeFacts_33 : decode cX7_takeFacts 33 = .ok (.iload_n 2, 1) := by decide +kernel
theorem dX7_takeFacts_34 : decode cX7_takeFacts 34 = .ok (.iaload, 1) := by decide +kernel
theorem dX7_takeFacts_35 : decode cX7_takeFacts 35 = .ok (.bipush 13, 2) := by decide +kernel
theorem dX7_takeFacts_37 : decode cX7_takeFacts 37 = .ok (.if_icmp .ne 16, 3) := by decide +kernel
theorem dX7_takeFacts_40 : decode cX7_takeFacts 40 = .ok (.aload_n 0, 1) := by decide +kernel
theorem dX7_takeFacts_41 : decode cX7_takeFacts 41 = .ok (.dup, 1) := by decide +kernel
theorem dX7_takeFacts_42 : decode cX7_takeFacts 42 = .ok (.getfield 49, 3) := by decide +kernel
theorem dX7_takeFacts_45 : decode cX7_takeFacts 45 = .ok (.lload_n 3, 1) := by decide +kernel
theorem dX7_takeFacts_46 : decode cX7_takeFacts 46 = .ok (.lor, 1) := by decide +kernel
theorem dX7_takeFacts_47 : decode cX7_takeFacts 47 = .ok (.putfield 49, 3) := by decide +kernel
theorem dX7_takeFacts_50 : decode cX7_takeFacts 50 = .ok (.goto 13, 3) := by decide +kernel
theorem dX7_takeFacts_53 : decode cX7_takeFacts 53 = .ok (.aload_n 0, 1) := by decide +kernel
theorem dX7_takeFacts_54 : decode cX7_takeFacts 54 = .ok (.dup, 1) := by decide +kernel
theorem dX7_takeFacts_55 : decode cX7_takeFacts 55 = .ok (.getfield 53, 3) := by decide +kernel
theorem dX7_takeFacts_58 : decode cX7_takeFacts 58 = .ok (.lload_n 3, 1) := by decide +kernel
theorem dX7_takeFacts_59 : decode cX7_takeFacts 59 = .ok (.lor, 1) := by decide +kernel
theorem dX7_takeFacts_60 : decode cX7_takeFacts 60 = .ok (.putfield 53, 3) := by decide +kernel
theorem dX7_takeFacts_63 : decode cX7_takeFacts 63 = .ok (.iinc 2 1, 3) := by decide +kernel
theorem dX7_takeFacts_66 : decode cX7_takeFacts 66 = .ok (.goto (-54), 3) := by decide +kernel
theorem dX7_takeFacts_69 : decode cX7_takeFacts 69 = .ok (.return_, 1) := by decide +kernel
theorem dX7_takeRow_0 : decode cX7_takeRow 0 = .ok (.aload_n 0, 1) := by decide +kernel
theorem dX7_takeRow_1 : decode cX7_takeRow 1 = .ok (.aload_n 0, 1) := by decide +kernel
theorem dX7_takeRow_2 : decode cX7_takeRow 2 = .ok (.getfield 19, 3) := by decide +kernel
theorem dX7_takeRow_5 : decode cX7_takeRow 5 = .ok (.ifCond .eq 11, 3) := by decide +kernel
theorem dX7_takeRow_8 : decode cX7_takeRow 8 = .ok (.aload_n 0, 1) := by decide +kernel
theorem dX7_takeRow_9 : decode cX7_takeRow 9 = .ok (.getfield 23, 3) := by decide +kernel
theorem dX7_takeRow_12 : decode cX7_takeRow 12 = .ok (.iload_n 1, 1) := by decide +kernel
theorem dX7_takeRow_13 : decode cX7_takeRow 13 = .ok (.if_icmp .ne 7, 3) := by decide +kernel
theorem dX7_takeRow_16 : decode cX7_takeRow 16 = .ok (.iload_n 1, 1) := by decide +kernel
theorem dX7_takeRow_17 : decode cX7_takeRow 17 = .ok (.goto 4, 3) := by decide +kernel
theorem dX7_takeRow_20 : decode cX7_takeRow 20 = .ok (.iconst (-1), 1) := by decide +kernel
theorem dX7_takeRow_21 : decode cX7_takeRow 21 = .ok (.putfield 23, 3) := by decide +kernel
theorem dX7_takeRow_24 : decode cX7_takeRow 24 = .ok (.aload_n 0, 1) := by decide +kernel
theorem dX7_takeRow_25 : decode cX7_takeRow 25 = .ok (.aload_n 0, 1) := by decide +kernel
theorem dX7_takeRow_26 : decode cX7_takeRow 26 = .ok (.getfield 19, 3) := by decide +kernel
theorem dX7_takeRow_29 : decode cX7_takeRow 29 = .ok (.ifCond .eq 11, 3) := by decide +kernel
theorem dX7_takeRow_32 : decode cX7_takeRow 32 = .ok (.aload_n 0, 1) := by decide +kernel
theorem dX7_takeRow_33 : decode cX7_takeRow 33 = .ok (.getfield 26, 3) := by decide +kernel
theorem dX7_takeRow_36 : decode cX7_takeRow 36 = .ok (.iload_n 2, 1) := by decide +kernel
theorem dX7_takeRow_37 : decode cX7_takeRow 37 = .ok (.if_icmp .ne 7, 3) := by decide +kernel
theorem dX7_takeRow_40 : decode cX7_takeRow 40 = .ok (.iload_n 2, 1) := by decide +kernel
theorem dX7_takeRow_41 : decode cX7_takeRow 41 = .ok (.goto 4, 3) := by decide +kernel
theorem dX7_takeRow_44 : decode cX7_takeRow 44 = .ok (.iconst (-1), 1) := by decide +kernel
theorem dX7_takeRow_45 : decode cX7_takeRow 45 = .ok (.putfield 26, 3) := by decide +kernel
theorem dX7_takeRow_48 : decode cX7_takeRow 48 = .ok (.aload_n 0, 1) := by decide +kernel
theorem dX7_takeRow_49 : decode cX7_takeRow 49 = .ok (.aload_n 0, 1) := by decide +kernel
theorem dX7_takeRow_50 : decode cX7_takeRow 50 = .ok (.getfield 29, 3) := by decide +kernel
theorem dX7_takeRow_53 : decode cX7_takeRow 53 = .ok (.iload_n 2, 1) := by decide +kernel
theorem dX7_takeRow_54 : decode cX7_takeRow 54 = .ok (.iload_n 1, 1) := by decide +kernel
theorem dX7_takeRow_55 : decode cX7_takeRow 55 = .ok (.isub, 1) := by decide +kernel
theorem dX7_takeRow_56 : decode cX7_takeRow 56 = .ok (.iconst 1, 1) := by decide +kernel
theorem dX7_takeRow_57 : decode cX7_takeRow 57 = .ok (.iadd, 1) := by decide +kernel
theorem dX7_takeRow_58 : decode cX7_takeRow 58 = .ok (.invokestatic 68, 3) := by decide +kernel
theorem dX7_takeRow_61 : decode cX7_takeRow 61 = .ok (.putfield 29, 3) := by decide +kernel
theorem dX7_takeRow_64 : decode cX7_takeRow 64 = .ok (.aload_n 0, 1) := by decide +kernel
theorem dX7_takeRow_65 : decode cX7_takeRow 65 = .ok (.aload_n 0, 1) := by decide +kernel
theorem dX7_takeRow_66 : decode cX7_takeRow 66 = .ok (.getfield 32, 3) := by decide +kernel
theorem dX7_takeRow_69 : decode cX7_takeRow 69 = .ok (.iload_n 2, 1) := by decide +kernel
theorem dX7_takeRow_70 : decode cX7_takeRow 70 = .ok (.iload_n 1, 1) := by decide +kernel
theorem dX7_takeRow_71 : decode cX7_takeRow 71 = .ok (.isub, 1) := by decide +kernel
theorem dX7_takeRow_72 : decode cX7_takeRow 72 = .ok (.iconst 1, 1) := by decide +kernel
theorem dX7_takeRow_73 : decode cX7_takeRow 73 = .ok (.iadd, 1) := by decide +kernel
theorem dX7_takeRow_74 : decode cX7_takeRow 74 = .ok (.invokestatic 73, 3) := by decide +kernel
theorem dX7_takeRow_77 : decode cX7_takeRow 77 = .ok (.putfield 32, 3) := by decide +kernel
theorem dX7_takeRow_80 : decode cX7_takeRow 80 = .ok (.iload_n 1, 1) := by decide +kernel
theorem dX7_takeRow_81 : decode cX7_takeRow 81 = .ok (.istore_n 3, 1) := by decide +kernel
theorem dX7_takeRow_82 : decode cX7_takeRow 82 = .ok (.iload_n 3, 1) := by decide +kernel
theorem dX7_takeRow_83 : decode cX7_takeRow 83 = .ok (.iload_n 2, 1) := by decide +kernel
theorem dX7_takeRow_84 : decode cX7_takeRow 84 = .ok (.if_icmp .gt 19, 3) := by decide +kernel
theorem dX7_takeRow_87 : decode cX7_takeRow 87 = .ok (.aload_n 0, 1) := by decide +kernel
theorem dX7_takeRow_88 : decode cX7_takeRow 88 = .ok (.getfield 9, 3) := by decide +kernel
theorem dX7_takeRow_91 : decode cX7_takeRow 91 = .ok (.iload_n 3, 1) := by decide +kernel
theorem dX7_takeRow_92 : decode cX7_takeRow 92 = .ok (.dup2, 1) := by decide +kernel
theorem dX7_takeRow_93 : decode cX7_takeRow 93 = .ok (.iaload, 1) := by decide +kernel
theorem dX7_takeRow_94 : decode cX7_takeRow 94 = .ok (.iconst 1, 1) := by decide +kernel
theorem dX7_takeRow_95 : decode cX7_takeRow 95 = .ok (.iadd, 1) := by decide +kernel
theorem dX7_takeRow_96 : decode cX7_takeRow 96 = .ok (.iastore, 1) := by decide +kernel
theorem dX7_takeRow_97 : decode cX7_takeRow 97 = .ok (.iinc 3 1, 3) := by decide +kernel
theorem dX7_takeRow_100 : decode cX7_takeRow 100 = .ok (.goto (-18), 3) := by decide +kernel
theorem dX7_takeRow_103 : decode cX7_takeRow 103 = .ok (.aload_n 0, 1) := by decide +kernel
theorem dX7_takeRow_104 : decode cX7_takeRow 104 = .ok (.dup, 1) := by decide +kernel
theorem dX7_takeRow_105 : decode cX7_takeRow 105 = .ok (.getfield 19, 3) := by decide +kernel
theorem dX7_takeRow_108 : decode cX7_takeRow 108 = .ok (.iconst 1, 1) := by decide +kernel
theorem dX7_takeRow_109 : decode cX7_takeRow 109 = .ok (.iadd, 1) := by decide +kernel
theorem dX7_takeRow_110 : decode cX7_takeRow 110 = .ok (.putfield 19, 3) := by decide +kernel
theorem dX7_takeRow_113 : decode cX7_takeRow 113 = .ok (.return_, 1) := by decide +kernel
theorem dX7_seek_0 : decode cX7_seek 0 = .ok (.iconst (-1), 1) := by decide +kernel
theorem dX7_seek_1 : decode cX7_seek 1 = .ok (.istore_n 1, 1) := by decide +kernel
theorem dX7_seek_2 : decode cX7_seek 2 = .ok (.aload_n 0, 1) := by decide +kernel
theorem dX7_seek_3 : decode cX7_seek 3 = .ok (.getfield 19, 3) := by decide +kernel
theorem dX7_seek_6 : decode cX7_seek 6 = .ok (.istore_n 2, 1) := by decide +kernel
theorem dX7_seek_7 : decode cX7_seek 7 = .ok (.iconst 0, 1) := by decide +kernel
theorem dX7_seek_8 : decode cX7_seek 8 = .ok (.istore_n 3, 1) := by decide +kernel
theorem dX7_seek_9 : decode cX7_seek 9 = .ok (.iload_n 3, 1) := by decide +kernel
theorem dX7_seek_10 : decode cX7_seek 10 = .ok (.bipush 40, 2) := by decide +kernel
theorem dX7_seek_12 : decode cX7_seek 12 = .ok (.if_icmp .ge 54, 3) := by decide +kernel
theorem dX7_seek_15 : decode cX7_seek 15 = .ok (.aload_n 0, 1) := by decide +kernel
theorem dX7_seek_16 : decode cX7_seek 16 = .ok (.getfield 19, 3) := by decide +kernel
theorem dX7_seek_19 : decode cX7_seek 19 = .ok (.ifCond .le 47, 3) := by decide +kernel
theorem dX7_seek_22 : decode cX7_seek 22 = .ok (.aload_n 0, 1) := by decide +kernel
theorem dX7_seek_23 : decode cX7_seek 23 = .ok (.getfield 9, 3) := by decide +kernel
theorem dX7_seek_26 : decode cX7_seek 26 = .ok (.iload_n 3, 1) := by decide +kernel
theorem dX7_seek_27 : decode cX7_seek 27 = .ok (.iaload, 1) := by decide +kernel
theorem dX7_seek_28 : decode cX7_seek 28 = .ok (.aload_n 0, 1) := by decide +kernel
theorem dX7_seek_29 : decode cX7_seek 29 = .ok (.getfield 19, 3) := by decide +kernel
theorem dX7_seek_32 : decode cX7_seek 32 = .ok (.aload_n 0, 1) := by decide +kernel
theorem dX7_seek_33 : decode cX7_seek 33 = .ok (.getfield 9, 3) := by decide +kernel
theorem dX7_seek_36 : decode cX7_seek 36 = .ok (.iload_n 3, 1) := by decide +kernel
theorem dX7_seek_37 : decode cX7_seek 37 = .ok (.iaload, 1) := by decide +kernel
theorem dX7_seek_38 : decode cX7_seek 38 = .ok (.isub, 1) := by decide +kernel
theorem dX7_seek_39 : decode cX7_seek 39 = .ok (.invokestatic 73, 3) := by decide +kernel
theorem dX7_seek_42 : decode cX7_seek 42 = .ok (.istore 4, 2) := by decide +kernel
theorem dX7_seek_44 : decode cX7_seek 44 = .ok (.iload_n 1, 1) := by decide +kernel
theorem dX7_seek_45 : decode cX7_seek 45 = .ok (.iconst (-1), 1) := by decide +kernel
theorem dX7_seek_46 : decode cX7_seek 46 = .ok (.if_icmp .eq 9, 3) := by decide +kernel
theorem dX7_seek_49 : decode cX7_seek 49 = .ok (.iload 4, 2) := by decide +kernel
theorem dX7_seek_51 : decode cX7_seek 51 = .ok (.iload_n 2, 1) := by decide +kernel
theorem dX7_seek_52 : decode cX7_seek 52 = .ok (.if_icmp .ge 8, 3) := by decide +kernel
theorem dX7_seek_55 : decode cX7_seek 55 = .ok (.iload_n 3, 1) := by decide +kernel
theorem dX7_seek_56 : decode cX7_seek 56 = .ok (.istore_n 1, 1) := by decide +kernel
theorem dX7_seek_57 : decode cX7_seek 57 = .ok (.iload 4, 2) := by decide +kernel
theorem dX7_seek_59 : decode cX7_seek 59 = .ok (.istore_n 2, 1) := by decide +kernel
theorem dX7_seek_60 : decode cX7_seek 60 = .ok (.iinc 3 1, 3) := by decide +kernel
theorem dX7_seek_63 : decode cX7_seek 63 = .ok (.goto (-54), 3) := by decide +kernel
theorem dX7_seek_66 : decode cX7_seek 66 = .ok (.iload_n 1, 1) := by decide +kernel
theorem dX7_seek_67 : decode cX7_seek 67 = .ok (.ireturn, 1) := by decide +kernel
theorem dX7_codeAt_0 : decode cX7_codeAt 0 = .ok (.iconst 0, 1) := by decide +kernel
theorem dX7_codeAt_1 : decode cX7_codeAt 1 = .ok (.istore_n 2, 1) := by decide +kernel
theorem dX7_codeAt_2 : decode cX7_codeAt 2 = .ok (.iconst 0, 1) := by decide +kernel
theorem dX7_codeAt_3 : decode cX7_codeAt 3 = .ok (.istore_n 3, 1) := by decide +kernel
theorem dX7_codeAt_4 : decode cX7_codeAt 4 = .ok (.iload_n 3, 1) := by decide +kernel
theorem dX7_codeAt_5 : decode cX7_codeAt 5 = .ok (.bipush 40, 2) := by decide +kernel
theorem dX7_codeAt_7 : decode cX7_codeAt 7 = .ok (.if_icmp .ge 51, 3) := by decide +kernel
theorem dX7_codeAt_10 : decode cX7_codeAt 10 = .ok (.iload_n 3, 1) := by decide +kernel
theorem dX7_codeAt_11 : decode cX7_codeAt 11 = .ok (.istore 4, 2) := by decide +kernel
theorem dX7_codeAt_13 : decode cX7_codeAt 13 = .ok (.iload 4, 2) := by decide +kernel
theorem dX7_codeAt_15 : decode cX7_codeAt 15 = .ok (.bipush 40, 2) := by decide +kernel
theorem dX7_codeAt_17 : decode cX7_codeAt 17 = .ok (.if_icmp .ge 35, 3) := by decide +kernel
theorem dX7_codeAt_20 : decode cX7_codeAt 20 = .ok (.aload_n 0, 1) := by decide +kernel
theorem dX7_codeAt_21 : decode cX7_codeAt 21 = .ok (.iload_n 3, 1) := by decide +kernel
theorem dX7_codeAt_22 : decode cX7_codeAt 22 = .ok (.iload 4, 2) := by decide +kernel
theorem dX7_codeAt_24 : decode cX7_codeAt 24 = .ok (.invokevirtual 41, 3) := by decide +kernel
theorem dX7_codeAt_27 : decode cX7_codeAt 27 = .ok (.ifCond .eq 19, 3) := by decide +kernel
theorem dX7_codeAt_30 : decode cX7_codeAt 30 = .ok (.iload_n 2, 1) := by decide +kernel
theorem dX7_codeAt_31 : decode cX7_codeAt 31 = .ok (.iload_n 1, 1) := by decide +kernel
theorem dX7_codeAt_32 : decode cX7_codeAt 32 = .ok (.if_icmp .ne 11, 3) := by decide +kernel
theorem dX7_codeAt_35 : decode cX7_codeAt 35 = .ok (.iload_n 3, 1) := by decide +kernel
theorem dX7_codeAt_36 : decode cX7_codeAt 36 = .ok (.bipush 40, 2) := by decide +kernel
theorem dX7_codeAt_38 : decode cX7_codeAt 38 = .ok (.imul, 1) := by decide +kernel
theorem dX7_codeAt_39 : decode cX7_codeAt 39 = .ok (.iload 4, 2) := by decide +kernel
theorem dX7_codeAt_41 : decode cX7_codeAt 41 = .ok (.iadd, 1) := by decide +kernel
theorem dX7_codeAt_42 : decode cX7_codeAt 42 = .ok (.ireturn, 1) := by decide +kernel
theorem dX7_codeAt_43 : decode cX7_codeAt 43 = .ok (.iinc 2 1, 3) := by decide +kernel
theorem dX7_codeAt_46 : decode cX7_codeAt 46 = .ok (.iinc 4 1, 3) := by decide +kernel
theorem dX7_codeAt_49 : decode cX7_codeAt 49 = .ok (.goto (-36), 3) := by decide +kernel
theorem dX7_codeAt_52 : decode cX7_codeAt 52 = .ok (.iinc 3 1, 3) := by decide +kernel
theorem dX7_codeAt_55 : decode cX7_codeAt 55 = .ok (.goto (-51), 3) := by decide +kernel
theorem dX7_codeAt_58 : decode cX7_codeAt 58 = .ok (.bipush (-2), 2) := by decide +kernel
theorem dX7_codeAt_60 : decode cX7_codeAt 60 = .ok (.ireturn, 1) := by decide +kernel
theorem dX8_start_0 : decode cX8_start 0 = .ok (.aload_n 1, 1) := by decide +kernel
theorem dX8_start_1 : decode cX8_start 1 = .ok (.getfield 15, 3) := by decide +kernel
theorem dX8_start_4 : decode cX8_start 4 = .ok (.iconst 0, 1) := by decide +kernel
theorem dX8_start_5 : decode cX8_start 5 = .ok (.aload_n 0, 1) := by decide +kernel
theorem dX8_start_6 : decode cX8_start 6 = .ok (.getfield 9, 3) := by decide +kernel
theorem dX8_start_9 : decode cX8_start 9 = .ok (.iconst 0, 1) := by decide +kernel
theorem dX8_start_10 : decode cX8_start 10 = .ok (.sipush 600, 3) := by decide +kernel
theorem dX8_start_13 : decode cX8_start 13 = .ok (.invokestatic 20, 3) := by decide +kernel
theorem dX8_start_16 : decode cX8_start 16 = .ok (.aload_n 0, 1) := by decide +kernel
theorem dX8_start_17 : decode cX8_start 17 = .ok (.aload_n 1, 1) := by decide +kernel
theorem dX8_start_18 : decode cX8_start 18 = .ok (.getfield 26, 3) := by decide +kernel
theorem dX8_start_21 : decode cX8_start 21 = .ok (.putfield 30, 3) := by decide +kernel
theorem dX8_start_24 : decode cX8_start 24 = .ok (.aload_n 0, 1) := by decide +kernel
theorem dX8_start_25 : decode cX8_start 25 = .ok (.iconst 0, 1) := by decide +kernel
theorem dX8_start_26 : decode cX8_start 26 = .ok (.putfield 31, 3) := by decide +kernel
theorem dX8_start_29 : decode cX8_start 29 = .ok (.return_, 1) := by decide +kernel
theorem dX8_takeWord_0 : decode cX8_takeWord 0 = .ok (.aload_n 0, 1) := by decide +kernel
theorem dX8_takeWord_1 : decode cX8_takeWord 1 = .ok (.getfield 31, 3) := by decide +kernel
theorem dX8_takeWord_4 : decode cX8_takeWord 4 = .ok (.aload_n 0, 1) := by decide +kernel
theorem dX8_takeWord_5 : decode cX8_takeWord 5 = .ok (.getfield 30, 3) := by decide +kernel
theorem dX8_takeWord_8 : decode cX8_takeWord 8 = .ok (.if_icmp .ge 31, 3) := by decide +kernel
theorem dX8_takeWord_11 : decode cX8_takeWord 11 = .ok (.aload_n 0, 1) := by decide +kernel
theorem dX8_takeWord_12 : decode cX8_takeWord 12 = .ok (.getfield 9, 3) := by decide +kernel
theorem dX8_takeWord_15 : decode cX8_takeWord 15 = .ok (.aload_n 0, 1) := by decide +kernel
theorem dX8_takeWord_16 : decode cX8_takeWord 16 = .ok (.getfield 31, 3) := by decide +kernel
theorem dX8_takeWord_19 : decode cX8_takeWord 19 = .ok (.baload, 1) := by decide +kernel
theorem dX8_takeWord_20 : decode cX8_takeWord 20 = .ok (.invokestatic 40, 3) := by decide +kernel
theorem dX8_takeWord_23 : decode cX8_takeWord 23 = .ok (.ifCond .eq 16, 3) := by decide +kernel
theorem dX8_takeWord_26 : decode cX8_takeWord 26 = .ok (.aload_n 0, 1) := by decide +kernel
theorem dX8_takeWord_27 : decode cX8_takeWord 27 = .ok (.dup, 1) := by decide +kernel
theorem dX8_takeWord_28 : decode cX8_takeWord 28 = .ok (.getfield 31, 3) := by decide +kernel
theorem dX8_takeWord_31 : decode cX8_takeWord 31 = .ok (.iconst 1, 1) := by decide +kernel
theorem dX8_takeWord_32 : decode cX8_takeWord 32 = .ok (.iadd, 1) := by decide +kernel
theorem dX8_takeWord_33 : decode cX8_takeWord 33 = .ok (.putfield 31, 3) := by decide +kernel
theorem dX8_takeWord_36 : decode cX8_takeWord 36 = .ok (.goto (-36), 3) := by decide +kernel
theorem dX8_takeWord_39 : decode cX8_takeWord 39 = .ok (.aload_n 0, 1) := by decide +kernel
theorem dX8_takeWord_40 : decode cX8_takeWord 40 = .ok (.iconst 1, 1) := by decide +kernel
theorem dX8_takeWord_41 : decode cX8_takeWord 41 = .ok (.putfield 37, 3) := by decide +kernel
theorem dX8_takeWord_44 : decode cX8_takeWord 44 = .ok (.return_, 1) := by decide +kernel
theorem dX8_takeNumber_0 : decode cX8_takeNumber 0 = .ok (.aload_n 0, 1) := by decide +kernel
theorem dX8_takeNumber_1 : decode cX8_takeNumber 1 = .ok (.iconst 0, 1) := by decide +kernel
theorem dX8_takeNumber_2 : decode cX8_takeNumber 2 = .ok (.putfield 53, 3) := by decide +kernel
theorem dX8_takeNumber_5 : decode cX8_takeNumber 5 = .ok (.aload_n 0, 1) := by decide +kernel
theorem dX8_takeNumber_6 : decode cX8_takeNumber 6 = .ok (.getfield 31, 3) := by decide +kernel
theorem dX8_takeNumber_9 : decode cX8_takeNumber 9 = .ok (.aload_n 0, 1) := by decide +kernel
theorem dX8_takeNumber_10 : decode cX8_takeNumber 10 = .ok (.getfield 30, 3) := by decide +kernel
theorem dX8_takeNumber_13 : decode cX8_takeNumber 13 = .ok (.if_icmp .ge 75, 3) := by decide +kernel
theorem dX8_takeNumber_16 : decode cX8_takeNumber 16 = .ok (.aload_n 0, 1) := by decide +kernel
theorem dX8_takeNumber_17 : decode cX8_takeNumber 17 = .ok (.getfield 9, 3) := by decide +kernel
theorem dX8_takeNumber_20 : decode cX8_takeNumber 20 = .ok (.aload_n 0, 1) := by decide +kernel
theorem dX8_takeNumber_21 : decode cX8_takeNumber 21 = .ok (.getfield 31, 3) := by decide +kernel
theorem dX8_takeNumber_24 : decode cX8_takeNumber 24 = .ok (.baload, 1) := by decide +kernel
theorem dX8_takeNumber_25 : decode cX8_takeNumber 25 = .ok (.invokestatic 47, 3) := by decide +kernel
theorem dX8_takeNumber_28 : decode cX8_takeNumber 28 = .ok (.ifCond .eq 60, 3) := by decide +kernel
theorem dX8_takeNumber_31 : decode cX8_takeNumber 31 = .ok (.aload_n 0, 1) := by decide +kernel
theorem dX8_takeNumber_32 : decode cX8_takeNumber 32 = .ok (.aload_n 0, 1) := by decide +kernel
theorem dX8_takeNumber_33 : decode cX8_takeNumber 33 = .ok (.getfield 31, 3) := by decide +kernel
theorem dX8_takeNumber_36 : decode cX8_takeNumber 36 = .ok (.aload_n 0, 1) := by decide +kernel
theorem dX8_takeNumber_37 : decode cX8_takeNumber 37 = .ok (.getfield 34, 3) := by decide +kernel
theorem dX8_takeNumber_40 : decode cX8_takeNumber 40 = .ok (.isub, 1) := by decide +kernel
theorem dX8_takeNumber_41 : decode cX8_takeNumber 41 = .ok (.iconst 2, 1) := by decide +kernel
theorem dX8_takeNumber_42 : decode cX8_takeNumber 42 = .ok (.if_icmp .ge 26, 3) := by decide +kernel
theorem dX8_takeNumber_45 : decode cX8_takeNumber 45 = .ok (.aload_n 0, 1) := by decide +kernel
theorem dX8_takeNumber_46 : decode cX8_takeNumber 46 = .ok (.getfield 53, 3) := by decide +kernel
theorem dX8_takeNumber_49 : decode cX8_takeNumber 49 = .ok (.bipush 10, 2) := by decide +kernel
theorem dX8_takeNumber_51 : decode cX8_takeNumber 51 = .ok (.imul, 1) := by decide +kernel
theorem dX8_takeNumber_52 : decode cX8_takeNumber 52 = .ok (.aload_n 0, 1) := by decide +kernel
theorem dX8_takeNumber_53 : decode cX8_takeNumber 53 = .ok (.getfield 9, 3) := by decide +kernel
theorem dX8_takeNumber_56 : decode cX8_takeNumber 56 = .ok (.aload_n 0, 1) := by decide +kernel
theorem dX8_takeNumber_57 : decode cX8_takeNumber 57 = .ok (.getfield 31, 3) := by decide +kernel
theorem dX8_takeNumber_60 : decode cX8_takeNumber 60 = .ok (.baload, 1) := by decide +kernel
theorem dX8_takeNumber_61 : decode cX8_takeNumber 61 = .ok (.iadd, 1) := by decide +kernel
theorem dX8_takeNumber_62 : decode cX8_takeNumber 62 = .ok (.bipush 48, 2) := by decide +kernel
theorem dX8_takeNumber_64 : decode cX8_takeNumber 64 = .ok (.isub, 1) := by decide +kernel
theorem dX8_takeNumber_65 : decode cX8_takeNumber 65 = .ok (.goto 7, 3) := by decide +kernel
theorem dX8_takeNumber_68 : decode cX8_takeNumber 68 = .ok (.aload_n 0, 1) := by decide +kernel
theorem dX8_takeNumber_69 : decode cX8_takeNumber 69 = .ok (.getfield 53, 3) := by decide +kernel
theorem dX8_takeNumber_72 : decode cX8_takeNumber 72 = .ok (.putfield 53, 3) := by decide +kernel
theorem dX8_takeNumber_75 : decode cX8_takeNumber 75 = .ok (.aload_n 0, 1) := by decide +kernel
theorem dX8_takeNumber_76 : decode cX8_takeNumber 76 = .ok (.dup, 1) := by decide +kernel
theorem dX8_takeNumber_77 : decode cX8_takeNumber 77 = .ok (.getfield 31, 3) := by decide +kernel
theorem dX8_takeNumber_80 : decode cX8_takeNumber 80 = .ok (.iconst 1, 1) := by decide +kernel
theorem dX8_takeNumber_81 : decode cX8_takeNumber 81 = .ok (.iadd, 1) := by decide +kernel
theorem dX8_takeNumber_82 : decode cX8_takeNumber 82 = .ok (.putfield 31, 3) := by decide +kernel
theorem dX8_takeNumber_85 : decode cX8_takeNumber 85 = .ok (.goto (-80), 3) := by decide +kernel
theorem dX8_takeNumber_88 : decode cX8_takeNumber 88 = .ok (.aload_n 0, 1) := by decide +kernel
theorem dX8_takeNumber_89 : decode cX8_takeNumber 89 = .ok (.aload_n 0, 1) := by decide +kernel
theorem dX8_takeNumber_90 : decode cX8_takeNumber 90 = .ok (.getfield 31, 3) := by decide +kernel
theorem dX8_takeNumber_93 : decode cX8_takeNumber 93 = .ok (.aload_n 0, 1) := by decide +kernel
theorem dX8_takeNumber_94 : decode cX8_takeNumber 94 = .ok (.getfield 34, 3) := by decide +kernel
theorem dX8_takeNumber_97 : decode cX8_takeNumber 97 = .ok (.isub, 1) := by decide +kernel
theorem dX8_takeNumber_98 : decode cX8_takeNumber 98 = .ok (.iconst 2, 1) := by decide +kernel
theorem dX8_takeNumber_99 : decode cX8_takeNumber 99 = .ok (.if_icmp .gt 7, 3) := by decide +kernel
theorem dX8_takeNumber_102 : decode cX8_takeNumber 102 = .ok (.iconst 2, 1) := by decide +kernel
theorem dX8_takeNumber_103 : decode cX8_takeNumber 103 = .ok (.goto 4, 3) := by decide +kernel
theorem dX8_takeNumber_106 : decode cX8_takeNumber 106 = .ok (.iconst 4, 1) := by decide +kernel
theorem dX8_takeNumber_107 : decode cX8_takeNumber 107 = .ok (.putfield 37, 3) := by decide +kernel
theorem dX8_takeNumber_110 : decode cX8_takeNumber 110 = .ok (.return_, 1) := by decide +kernel
theorem dX10_favourite_0 : decode cX10_favourite 0 = .ok (.iload_n 2, 1) := by decide +kernel
theorem dX10_favourite_1 : decode cX10_favourite 1 = .ok (.istore_n 3, 1) := by decide +kernel
theorem dX10_favourite_2 : decode cX10_favourite 2 = .ok (.iconst (-1), 1) := by decide +kernel
theorem dX10_favourite_3 : decode cX10_favourite 3 = .ok (.istore 4, 2) := by decide +kernel
theorem dX10_favourite_5 : decode cX10_favourite 5 = .ok (.iconst 0, 1) := by decide +kernel
theorem dX10_favourite_6 : decode cX10_favourite 6 = .ok (.istore 5, 2) := by decide +kernel
theorem dX10_favourite_8 : decode cX10_favourite 8 = .ok (.iload 5, 2) := by decide +kernel
theorem dX10_favourite_10 : decode cX10_favourite 10 = .ok (.aload_n 1, 1) := by decide +kernel
theorem dX10_favourite_11 : decode cX10_favourite 11 = .ok (.getfield 31, 3) := by decide +kernel
theorem dX10_favourite_14 : decode cX10_favourite 14 = .ok (.if_icmp .ge 44, 3) := by decide +kernel
theorem dX10_favourite_17 : decode cX10_favourite 17 = .ok (.aload_n 0, 1) := by decide +kernel
theorem dX10_favourite_18 : decode cX10_favourite 18 = .ok (.getfield 15, 3) := by decide +kernel
theorem dX10_favourite_21 : decode cX10_favourite 21 = .ok (.iload 5, 2) := by decide +kernel
theorem dX10_favourite_23 : decode cX10_favourite 23 = .ok (.iaload, 1) := by decide +kernel
theorem dX10_favourite_24 : decode cX10_favourite 24 = .ok (.iconst (-1), 1) := by decide +kernel
theorem dX10_favourite_25 : decode cX10_favourite 25 = .ok (.if_icmp .ne 27, 3) := by decide +kernel
theorem dX10_favourite_28 : decode cX10_favourite 28 = .ok (.aload_n 1, 1) := by decide +kernel
theorem dX10_favourite_29 : decode cX10_favourite 29 = .ok (.iload_n 2, 1) := by decide +kernel
theorem dX10_favourite_30 : decode cX10_favourite 30 = .ok (.iload 5, 2) := by decide +kernel
theorem dX10_favourite_32 : decode cX10_favourite 32 = .ok (.invokevirtual 47, 3) := by decide +kernel
theorem dX10_favourite_35 : decode cX10_favourite 35 = .ok (.iload 4, 2) := by decide +kernel
theorem dX10_favourite_37 : decode cX10_favourite 37 = .ok (.if_icmp .le 15, 3) := by decide +kernel
theorem dX10_favourite_40 : decode cX10_favourite 40 = .ok (.aload_n 1, 1) := by decide +kernel
theorem dX10_favourite_41 : decode cX10_favourite 41 = .ok (.iload_n 2, 1) := by decide +kernel
theorem dX10_favourite_42 : decode cX10_favourite 42 = .ok (.iload 5, 2) := by decide +kernel
theorem dX10_favourite_44 : decode cX10_favourite 44 = .ok (.invokevirtual 47, 3) := by decide +kernel
theorem dX10_favourite_47 : decode cX10_favourite 47 = .ok (.istore 4, 2) := by decide +kernel
theorem dX10_favourite_49 : decode cX10_favourite 49 = .ok (.iload 5, 2) := by decide +kernel
theorem dX10_favourite_51 : decode cX10_favourite 51 = .ok (.istore_n 3, 1) := by decide +kernel
theorem dX10_favourite_52 : decode cX10_favourite 52 = .ok (.iinc 5 1, 3) := by decide +kernel
theorem dX10_favourite_55 : decode cX10_favourite 55 = .ok (.goto (-47), 3) := by decide +kernel
theorem dX10_favourite_58 : decode cX10_favourite 58 = .ok (.iload_n 3, 1) := by decide +kernel
theorem dX10_favourite_59 : decode cX10_favourite 59 = .ok (.ireturn, 1) := by decide +kernel
theorem dX10_letGo_0 : decode cX10_letGo 0 = .ok (.iconst 0, 1) := by decide +kernel
theorem dX10_letGo_1 : decode cX10_letGo 1 = .ok (.istore_n 3, 1) := by decide +kernel
theorem dX10_letGo_2 : decode cX10_letGo 2 = .ok (.iconst 0, 1) := by decide +kernel
theorem dX10_letGo_3 : decode cX10_letGo 3 = .ok (.istore 4, 2) := by decide +kernel
theorem dX10_letGo_5 : decode cX10_letGo 5 = .ok (.iload 4, 2) := by decide +kernel
theorem dX10_letGo_7 : decode cX10_letGo 7 = .ok (.aload_n 1, 1) := by decide +kernel
theorem dX10_letGo_8 : decode cX10_letGo 8 = .ok (.getfield 31, 3) := by decide +kernel
theorem dX10_letGo_11 : decode cX10_letGo 11 = .ok (.if_icmp .ge 54, 3) := by decide +kernel
theorem dX10_letGo_14 : decode cX10_letGo 14 = .ok (.aload_n 0, 1) := by decide +kernel
theorem dX10_letGo_15 : decode cX10_letGo 15 = .ok (.getfield 15, 3) := by decide +kernel
theorem dX10_letGo_18 : decode cX10_letGo 18 = .ok (.iload 4, 2) := by decide +kernel
theorem dX10_letGo_20 : decode cX10_letGo 20 = .ok (.iaload, 1) := by decide +kernel
theorem dX10_letGo_21 : decode cX10_letGo 21 = .ok (.iconst (-1), 1) := by decide +kernel
theorem dX10_letGo_22 : decode cX10_letGo 22 = .ok (.if_icmp .ne 37, 3) := by decide +kernel
theorem dX10_letGo_25 : decode cX10_letGo 25 = .ok (.aload_n 0, 1) := by decide +kernel
theorem dX10_letGo_26 : decode cX10_letGo 26 = .ok (.iload 4, 2) := by decide +kernel
theorem dX10_letGo_28 : decode cX10_letGo 28 = .ok (.invokevirtual 51, 3) := by decide +kernel
theorem dX10_letGo_31 : decode cX10_letGo 31 = .ok (.ifCond .eq 28, 3) := by decide +kernel
theorem dX10_letGo_34 : decode cX10_letGo 34 = .ok (.aload_n 0, 1) := by decide +kernel
theorem dX10_letGo_35 : decode cX10_letGo 35 = .ok (.getfield 15, 3) := by decide +kernel
theorem dX10_letGo_38 : decode cX10_letGo 38 = .ok (.iload 4, 2) := by decide +kernel
theorem dX10_letGo_40 : decode cX10_letGo 40 = .ok (.iload_n 2, 1) := by decide +kernel
theorem dX10_letGo_41 : decode cX10_letGo 41 = .ok (.iastore, 1) := by decide +kernel
theorem dX10_letGo_42 : decode cX10_letGo 42 = .ok (.aload_n 0, 1) := by decide +kernel
theorem dX10_letGo_43 : decode cX10_letGo 43 = .ok (.getfield 9, 3) := by decide +kernel
theorem dX10_letGo_46 : decode cX10_letGo 46 = .ok (.iload 4, 2) := by decide +kernel
theorem dX10_letGo_48 : decode cX10_letGo 48 = .ok (.aload_n 0, 1) := by decide +kernel
theorem dX10_letGo_49 : decode cX10_letGo 49 = .ok (.getfield 18, 3) := by decide +kernel
theorem dX10_letGo_52 : decode cX10_letGo 52 = .ok (.iload 4, 2) := by decide +kernel
theorem dX10_letGo_54 : decode cX10_letGo 54 = .ok (.iaload, 1) := by decide +kernel
theorem dX10_letGo_55 : decode cX10_letGo 55 = .ok (.iastore, 1) := by decide +kernel
theorem dX10_letGo_56 : decode cX10_letGo 56 = .ok (.iinc 3 1, 3) := by decide +kernel
theorem dX10_letGo_59 : decode cX10_letGo 59 = .ok (.iinc 4 1, 3) := by decide +kernel
theorem dX10_letGo_62 : decode cX10_letGo 62 = .ok (.goto (-57), 3) := by decide +kernel
theorem dX10_letGo_65 : decode cX10_letGo 65 = .ok (.iload_n 3, 1) := by decide +kernel
theorem dX10_letGo_66 : decode cX10_letGo 66 = .ok (.ireturn, 1) := by decide +kernel
theorem dX10_gain_0 : decode cX10_gain 0 = .ok (.iconst 0, 1) := by decide +kernel
theorem dX10_gain_1 : decode cX10_gain 1 = .ok (.istore_n 2, 1) := by decide +kernel
theorem dX10_gain_2 : decode cX10_gain 2 = .ok (.iconst 0, 1) := by decide +kernel
theorem dX10_gain_3 : decode cX10_gain 3 = .ok (.istore_n 3, 1) := by decide +kernel
theorem dX10_gain_4 : decode cX10_gain 4 = .ok (.iload_n 3, 1) := by decide +kernel
theorem dX10_gain_5 : decode cX10_gain 5 = .ok (.aload_n 1, 1) := by decide +kernel
theorem dX10_gain_6 : decode cX10_gain 6 = .ok (.getfield 31, 3) := by decide +kernel
theorem dX10_gain_9 : decode cX10_gain 9 = .ok (.if_icmp .ge 30, 3) := by decide +kernel
theorem dX10_gain_12 : decode cX10_gain 12 = .ok (.iload_n 2, 1) := by decide +kernel
theorem dX10_gain_13 : decode cX10_gain 13 = .ok (.aload_n 1, 1) := by decide +kernel
theorem dX10_gain_14 : decode cX10_gain 14 = .ok (.iload_n 3, 1) := by decide +kernel
theorem dX10_gain_15 : decode cX10_gain 15 = .ok (.aload_n 0, 1) := by decide +kernel
theorem dX10_gain_16 : decode cX10_gain 16 = .ok (.getfield 9, 3) := by decide +kernel
theorem dX10_gain_19 : decode cX10_gain 19 = .ok (.iload_n 3, 1) := by decide +kernel
theorem dX10_gain_20 : decode cX10_gain 20 = .ok (.iaload, 1) := by decide +kernel
theorem dX10_gain_21 : decode cX10_gain 21 = .ok (.invokevirtual 47, 3) := by decide +kernel
theorem dX10_gain_24 : decode cX10_gain 24 = .ok (.aload_n 1, 1) := by decide +kernel
theorem dX10_gain_25 : decode cX10_gain 25 = .ok (.iload_n 3, 1) := by decide +kernel
theorem dX10_gain_26 : decode cX10_gain 26 = .ok (.iload_n 3, 1) := by decide +kernel
theorem dX10_gain_27 : decode cX10_gain 27 = .ok (.invokevirtual 47, 3) := by decide +kernel
theorem dX10_gain_30 : decode cX10_gain 30 = .ok (.isub, 1) := by decide +kernel
theorem dX10_gain_31 : decode cX10_gain 31 = .ok (.iadd, 1) := by decide +kernel
theorem dX10_gain_32 : decode cX10_gain 32 = .ok (.istore_n 2, 1) := by decide +kernel
theorem dX10_gain_33 : decode cX10_gain 33 = .ok (.iinc 3 1, 3) := by decide +kernel
theorem dX10_gain_36 : decode cX10_gain 36 = .ok (.goto (-32), 3) := by decide +kernel
theorem dX10_gain_39 : decode cX10_gain 39 = .ok (.iload_n 2, 1) := by decide +kernel
theorem dX10_gain_40 : decode cX10_gain 40 = .ok (.ireturn, 1) := by decide +kernel
theorem dX10_hasBest_0 : decode cX10_hasBest 0 = .ok (.iconst 0, 1) := by decide +kernel
theorem dX10_hasBest_1 : decode cX10_hasBest 1 = .ok (.istore_n 3, 1) := by decide +kernel
theorem dX10_hasBest_2 : decode cX10_hasBest 2 = .ok (.iload_n 3, 1) := by decide +kernel
theorem dX10_hasBest_3 : decode cX10_hasBest 3 = .ok (.aload_n 1, 1) := by decide +kernel
theorem dX10_hasBest_4 : decode cX10_hasBest 4 = .ok (.getfield 31, 3) := by decide +kernel
theorem dX10_hasBest_7 : decode cX10_hasBest 7 = .ok (.if_icmp .ge 31, 3) := by decide +kernel
theorem dX10_hasBest_10 : decode cX10_hasBest 10 = .ok (.aload_n 1, 1) := by decide +kernel
theorem dX10_hasBest_11 : decode cX10_hasBest 11 = .ok (.iload_n 2, 1) := by decide +kernel
theorem dX10_hasBest_12 : decode cX10_hasBest 12 = .ok (.iload_n 3, 1) := by decide +kernel
theorem dX10_hasBest_13 : decode cX10_hasBest 13 = .ok (.invokevirtual 47, 3) := by decide +kernel
theorem dX10_hasBest_16 : decode cX10_hasBest 16 = .ok (.aload_n 1, 1) := by decide +kernel
theorem dX10_hasBest_17 : decode cX10_hasBest 17 = .ok (.iload_n 2, 1) := by decide +kernel
theorem dX10_hasBest_18 : decode cX10_hasBest 18 = .ok (.aload_n 0, 1) := by decide +kernel
theorem dX10_hasBest_19 : decode cX10_hasBest 19 = .ok (.getfield 9, 3) := by decide +kernel
theorem dX10_hasBest_22 : decode cX10_hasBest 22 = .ok (.iload_n 2, 1) := by decide +kernel
theorem dX10_hasBest_23 : decode cX10_hasBest 23 = .ok (.iaload, 1) := by decide +kernel
theorem dX10_hasBest_24 : decode cX10_hasBest 24 = .ok (.invokevirtual 47, 3) := by decide +kernel
theorem dX10_hasBest_27 : decode cX10_hasBest 27 = .ok (.if_icmp .le 5, 3) := by decide +kernel
theorem dX10_hasBest_30 : decode cX10_hasBest 30 = .ok (.iconst 0, 1) := by decide +kernel
theorem dX10_hasBest_31 : decode cX10_hasBest 31 = .ok (.ireturn, 1) := by decide +kernel
theorem dX10_hasBest_32 : decode cX10_hasBest 32 = .ok (.iinc 3 1, 3) := by decide +kernel
theorem dX10_hasBest_35 : decode cX10_hasBest 35 = .ok (.goto (-33), 3) := by decide +kernel
theorem dX10_hasBest_38 : decode cX10_hasBest 38 = .ok (.iconst 1, 1) := by decide +kernel
theorem dX10_hasBest_39 : decode cX10_hasBest 39 = .ok (.ireturn, 1) := by decide +kernel
theorem dX10_envy_0 : decode cX10_envy 0 = .ok (.iconst 0, 1) := by decide +kernel
theorem dX10_envy_1 : decode cX10_envy 1 = .ok (.istore_n 2, 1) := by decide +kernel
theorem dX10_envy_2 : decode cX10_envy 2 = .ok (.iconst 0, 1) := by decide +kernel
theorem dX10_envy_3 : decode cX10_envy 3 = .ok (.istore_n 3, 1) := by decide +kernel
theorem dX10_envy_4 : decode cX10_envy 4 = .ok (.iload_n 3, 1) := by decide +kernel
theorem dX10_envy_5 : decode cX10_envy 5 = .ok (.aload_n 1, 1) := by decide +kernel
theorem dX10_envy_6 : decode cX10_envy 6 = .ok (.getfield 31, 3) := by decide +kernel
theorem dX10_envy_9 : decode cX10_envy 9 = .ok (.if_icmp .ge 56, 3) := by decide +kernel
theorem dX10_envy_12 : decode cX10_envy 12 = .ok (.iconst 0, 1) := by decide +kernel
theorem dX10_envy_13 : decode cX10_envy 13 = .ok (.istore 4, 2) := by decide +kernel
theorem dX10_envy_15 : decode cX10_envy 15 = .ok (.iload 4, 2) := by decide +kernel
theorem dX10_envy_17 : decode cX10_envy 17 = .ok (.aload_n 1, 1) := by decide +kernel
theorem dX10_envy_18 : decode cX10_envy 18 = .ok (.getfield 31, 3) := by decide +kernel
theorem dX10_envy_21 : decode cX10_envy 21 = .ok (.if_icmp .ge 38, 3) := by decide +kernel
theorem dX10_envy_24 : decode cX10_envy 24 = .ok (.aload_n 1, 1) := by decide +kernel
theorem dX10_envy_25 : decode cX10_envy 25 = .ok (.iload_n 3, 1) := by decide +kernel
theorem dX10_envy_26 : decode cX10_envy 26 = .ok (.aload_n 0, 1) := by decide +kernel
theorem dX10_envy_27 : decode cX10_envy 27 = .ok (.getfield 9, 3) := by decide +kernel
theorem dX10_envy_30 : decode cX10_envy 30 = .ok (.iload 4, 2) := by decide +kernel
theorem dX10_envy_32 : decode cX10_envy 32 = .ok (.iaload, 1) := by decide +kernel
theorem dX10_envy_33 : decode cX10_envy 33 = .ok (.invokevirtual 47, 3) := by decide +kernel
theorem dX10_envy_36 : decode cX10_envy 36 = .ok (.aload_n 1, 1) := by decide +kernel
theorem dX10_envy_37 : decode cX10_envy 37 = .ok (.iload_n 3, 1) := by decide +kernel
theorem dX10_envy_38 : decode cX10_envy 38 = .ok (.aload_n 0, 1) := by decide +kernel
theorem dX10_envy_39 : decode cX10_envy 39 = .ok (.getfield 9, 3) := by decide +kernel
theorem dX10_envy_42 : decode cX10_envy 42 = .ok (.iload_n 3, 1) := by decide +kernel
theorem dX10_envy_43 : decode cX10_envy 43 = .ok (.iaload, 1) := by decide +kernel
theorem dX10_envy_44 : decode cX10_envy 44 = .ok (.invokevirtual 47, 3) := by decide +kernel
theorem dX10_envy_47 : decode cX10_envy 47 = .ok (.if_icmp .le 6, 3) := by decide +kernel
theorem dX10_envy_50 : decode cX10_envy 50 = .ok (.iinc 2 1, 3) := by decide +kernel
theorem dX10_envy_53 : decode cX10_envy 53 = .ok (.iinc 4 1, 3) := by decide +kernel
theorem dX10_envy_56 : decode cX10_envy 56 = .ok (.goto (-41), 3) := by decide +kernel
theorem dX10_envy_59 : decode cX10_envy 59 = .ok (.iinc 3 1, 3) := by decide +kernel
theorem dX10_envy_62 : decode cX10_envy 62 = .ok (.goto (-58), 3) := by decide +kernel
theorem dX10_envy_65 : decode cX10_envy 65 = .ok (.iload_n 2, 1) := by decide +kernel
theorem dX10_envy_66 : decode cX10_envy 66 = .ok (.ireturn, 1) := by decide +kernel
theorem dX11_feed_0 : decode cX11_feed 0 = .ok (.aload_n 0, 1) := by decide +kernel
theorem dX11_feed_1 : decode cX11_feed 1 = .ok (.getfield 12, 3) := by decide +kernel
theorem dX11_feed_4 : decode cX11_feed 4 = .ok (.getfield 70, 3) := by decide +kernel
theorem dX11_feed_7 : decode cX11_feed 7 = .ok (.sipush 580, 3) := by decide +kernel
theorem dX11_feed_10 : decode cX11_feed 10 = .ok (.if_icmp .le 5, 3) := by decide +kernel
theorem dX11_feed_13 : decode cX11_feed 13 = .ok (.iconst (-1), 1) := by decide +kernel
theorem dX11_feed_14 : decode cX11_feed 14 = .ok (.ireturn, 1) := by decide +kernel
theorem dX11_feed_15 : decode cX11_feed 15 = .ok (.aload_n 0, 1) := by decide +kernel
theorem dX11_feed_16 : decode cX11_feed 16 = .ok (.getfield 12, 3) := by decide +kernel
theorem dX11_feed_19 : decode cX11_feed 19 = .ok (.iload_n 1, 1) := by decide +kernel
theorem dX11_feed_20 : decode cX11_feed 20 = .ok (.invokevirtual 74, 3) := by decide +kernel
theorem dX11_feed_23 : decode cX11_feed 23 = .ok (.aload_n 0, 1) := by decide +kernel
theorem dX11_feed_24 : decode cX11_feed 24 = .ok (.getfield 12, 3) := by decide +kernel
theorem dX11_feed_27 : decode cX11_feed 27 = .ok (.iload_n 2, 1) := by decide +kernel
theorem dX11_feed_28 : decode cX11_feed 28 = .ok (.invokevirtual 74, 3) := by decide +kernel
theorem dX11_feed_31 : decode cX11_feed 31 = .ok (.aload_n 0, 1) := by decide +kernel
theorem dX11_feed_32 : decode cX11_feed 32 = .ok (.getfield 12, 3) := by decide +kernel
theorem dX11_feed_35 : decode cX11_feed 35 = .ok (.iload_n 3, 1) := by decide +kernel
theorem dX11_feed_36 : decode cX11_feed 36 = .ok (.invokevirtual 74, 3) := by decide +kernel
theorem dX11_feed_39 : decode cX11_feed 39 = .ok (.aload_n 0, 1) := by decide +kernel
theorem dX11_feed_40 : decode cX11_feed 40 = .ok (.getfield 12, 3) := by decide +kernel
theorem dX11_feed_43 : decode cX11_feed 43 = .ok (.iload 4, 2) := by decide +kernel
theorem dX11_feed_45 : decode cX11_feed 45 = .ok (.invokevirtual 74, 3) := by decide +kernel
theorem dX11_feed_48 : decode cX11_feed 48 = .ok (.aload_n 0, 1) := by decide +kernel
theorem dX11_feed_49 : decode cX11_feed 49 = .ok (.getfield 12, 3) := by decide +kernel
theorem dX11_feed_52 : decode cX11_feed 52 = .ok (.iload 5, 2) := by decide +kernel
theorem dX11_feed_54 : decode cX11_feed 54 = .ok (.invokevirtual 74, 3) := by decide +kernel
theorem dX11_feed_57 : decode cX11_feed 57 = .ok (.aload_n 0, 1) := by decide +kernel
theorem dX11_feed_58 : decode cX11_feed 58 = .ok (.getfield 12, 3) := by decide +kernel
theorem dX11_feed_61 : decode cX11_feed 61 = .ok (.getfield 70, 3) := by decide +kernel
theorem dX11_feed_64 : decode cX11_feed 64 = .ok (.ireturn, 1) := by decide +kernel
theorem dX11_hasPerson_0 : decode cX11_hasPerson 0 = .ok (.aload_n 0, 1) := by decide +kernel
theorem dX11_hasPerson_1 : decode cX11_hasPerson 1 = .ok (.iload_n 1, 1) := by decide +kernel
theorem dX11_hasPerson_2 : decode cX11_hasPerson 2 = .ok (.invokevirtual 105, 3) := by decide +kernel
theorem dX11_hasPerson_5 : decode cX11_hasPerson 5 = .ok (.ifCond .eq 23, 3) := by decide +kernel
theorem dX11_hasPerson_8 : decode cX11_hasPerson 8 = .ok (.aload_n 0, 1) := by decide +kernel
theorem dX11_hasPerson_9 : decode cX11_hasPerson 9 = .ok (.getfield 12, 3) := by decide +kernel
theorem dX11_hasPerson_12 : decode cX11_hasPerson 12 = .ok (.getfield 109, 3) := by decide +kernel
theorem dX11_hasPerson_15 : decode cX11_hasPerson 15 = .ok (.iload_n 1, 1) := by decide +kernel
theorem dX11_hasPerson_16 : decode cX11_hasPerson 16 = .ok (.aaload, 1) := by decide +kernel
theorem dX11_hasPerson_17 : decode cX11_hasPerson 17 = .ok (.iload_n 2, 1) := by decide +kernel
theorem dX11_hasPerson_18 : decode cX11_hasPerson 18 = .ok (.invokevirtual 113, 3) := by decide +kernel
theorem dX11_hasPerson_21 : decode cX11_hasPerson 21 = .ok (.ifCond .eq 7, 3) := by decide +kernel
theorem dX11_hasPerson_24 : decode cX11_hasPerson 24 = .ok (.iconst 1, 1) := by decide +kernel
theorem dX11_hasPerson_25 : decode cX11_hasPerson 25 = .ok (.goto 4, 3) := by decide +kernel
theorem dX11_hasPerson_28 : decode cX11_hasPerson 28 = .ok (.iconst 0, 1) := by decide +kernel
theorem dX11_hasPerson_29 : decode cX11_hasPerson 29 = .ok (.ireturn, 1) := by decide +kernel
theorem dX11_partOfStreet_0 : decode cX11_partOfStreet 0 = .ok (.iload_n 1, 1) := by decide +kernel
theorem dX11_partOfStreet_1 : decode cX11_partOfStreet 1 = .ok (.bipush 10, 2) := by decide +kernel
theorem dX11_partOfStreet_3 : decode cX11_partOfStreet 3 = .ok (.aload_n 0, 1) := by decide +kernel
theorem dX11_partOfStreet_4 : decode cX11_partOfStreet 4 = .ok (.getfield 127, 3) := by decide +kernel
theorem dX11_partOfStreet_7 : decode cX11_partOfStreet 7 = .ok (.invokestatic 137, 3) := by decide +kernel
theorem dX11_partOfStreet_10 : decode cX11_partOfStreet 10 = .ok (.ifCond .eq 13, 3) := by decide +kernel
theorem dX11_partOfStreet_13 : decode cX11_partOfStreet 13 = .ok (.aload_n 0, 1) := by decide +kernel
theorem dX11_partOfStreet_14 : decode cX11_partOfStreet 14 = .ok (.getfield 141, 3) := by decide +kernel
theorem dX11_partOfStreet_17 : decode cX11_partOfStreet 17 = .ok (.iload_n 1, 1) := by decide +kernel
theorem dX11_partOfStreet_18 : decode cX11_partOfStreet 18 = .ok (.bipush 10, 2) := by decide +kernel
theorem dX11_partOfStreet_20 : decode cX11_partOfStreet 20 = .ok (.isub, 1) := by decide +kernel
theorem dX11_partOfStreet_21 : decode cX11_partOfStreet 21 = .ok (.iaload, 1) := by decide +kernel
theorem dX11_partOfStreet_22 : decode cX11_partOfStreet 22 = .ok (.ireturn, 1) := by decide +kernel
theorem dX11_partOfStreet_23 : decode cX11_partOfStreet 23 = .ok (.iload_n 1, 1) := by decide +kernel
theorem dX11_partOfStreet_24 : decode cX11_partOfStreet 24 = .ok (.bipush 20, 2) := by decide +kernel
theorem dX11_partOfStreet_26 : decode cX11_partOfStreet 26 = .ok (.aload_n 0, 1) := by decide +kernel
theorem dX11_partOfStreet_27 : decode cX11_partOfStreet 27 = .ok (.getfield 130, 3) := by decide +kernel
theorem dX11_partOfStreet_30 : decode cX11_partOfStreet 30 = .ok (.invokestatic 137, 3) := by decide +kernel
theorem dX11_partOfStreet_33 : decode cX11_partOfStreet 33 = .ok (.ifCond .eq 13, 3) := by decide +kernel
theorem dX11_partOfStreet_36 : decode cX11_partOfStreet 36 = .ok (.aload_n 0, 1) := by decide +kernel
theorem dX11_partOfStreet_37 : decode cX11_partOfStreet 37 = .ok (.getfield 144, 3) := by decide +kernel
theorem dX11_partOfStreet_40 : decode cX11_partOfStreet 40 = .ok (.iload_n 1, 1) := by decide +kernel
theorem dX11_partOfStreet_41 : decode cX11_partOfStreet 41 = .ok (.bipush 20, 2) := by decide +kernel
theorem dX11_partOfStreet_43 : decode cX11_partOfStreet 43 = .ok (.isub, 1) := by decide +kernel
theorem dX11_partOfStreet_44 : decode cX11_partOfStreet 44 = .ok (.iaload, 1) := by decide +kernel
theorem dX11_partOfStreet_45 : decode cX11_partOfStreet 45 = .ok (.ireturn, 1) := by decide +kernel
theorem dX11_partOfStreet_46 : decode cX11_partOfStreet 46 = .ok (.iload_n 1, 1) := by decide +kernel
theorem dX11_partOfStreet_47 : decode cX11_partOfStreet 47 = .ok (.bipush 30, 2) := by decide +kernel
theorem dX11_partOfStreet_49 : decode cX11_partOfStreet 49 = .ok (.aload_n 0, 1) := by decide +kernel
theorem dX11_partOfStreet_50 : decode cX11_partOfStreet 50 = .ok (.getfield 130, 3) := by decide +kernel
theorem dX11_partOfStreet_53 : decode cX11_partOfStreet 53 = .ok (.invokestatic 137, 3) := by decide +kernel
theorem dX11_partOfStreet_56 : decode cX11_partOfStreet 56 = .ok (.ifCond .eq 13, 3) := by decide +kernel
theorem dX11_partOfStreet_59 : decode cX11_partOfStreet 59 = .ok (.aload_n 0, 1) := by decide +kernel
theorem dX11_partOfStreet_60 : decode cX11_partOfStreet 60 = .ok (.getfield 146, 3) := by decide +kernel
theorem dX11_partOfStreet_63 : decode cX11_partOfStreet 63 = .ok (.iload_n 1, 1) := by decide +kernel
theorem dX11_partOfStreet_64 : decode cX11_partOfStreet 64 = .ok (.bipush 30, 2) := by decide +kernel
theorem dX11_partOfStreet_66 : decode cX11_partOfStreet 66 = .ok (.isub, 1) := by decide +kernel
theorem dX11_partOfStreet_67 : decode cX11_partOfStreet 67 = .ok (.iaload, 1) := by decide +kernel
theorem dX11_partOfStreet_68 : decode cX11_partOfStreet 68 = .ok (.ireturn, 1) := by decide +kernel
theorem dX11_partOfStreet_69 : decode cX11_partOfStreet 69 = .ok (.iload_n 1, 1) := by decide +kernel
theorem dX11_partOfStreet_70 : decode cX11_partOfStreet 70 = .ok (.bipush 40, 2) := by decide +kernel
theorem dX11_partOfStreet_72 : decode cX11_partOfStreet 72 = .ok (.aload_n 0, 1) := by decide +kernel
theorem dX11_partOfStreet_73 : decode cX11_partOfStreet 73 = .ok (.getfield 130, 3) := by decide +kernel
theorem dX11_partOfStreet_76 : decode cX11_partOfStreet 76 = .ok (.invokestatic 137, 3) := by decide +kernel
theorem dX11_partOfStreet_79 : decode cX11_partOfStreet 79 = .ok (.ifCond .eq 13, 3) := by decide +kernel
theorem dX11_partOfStreet_82 : decode cX11_partOfStreet 82 = .ok (.aload_n 0, 1) := by decide +kernel
theorem dX11_partOfStreet_83 : decode cX11_partOfStreet 83 = .ok (.getfield 149, 3) := by decide +kernel
theorem dX11_partOfStreet_86 : decode cX11_partOfStreet 86 = .ok (.iload_n 1, 1) := by decide +kernel
theorem dX11_partOfStreet_87 : decode cX11_partOfStreet 87 = .ok (.bipush 40, 2) := by decide +kernel
theorem dX11_partOfStreet_89 : decode cX11_partOfStreet 89 = .ok (.isub, 1) := by decide +kernel
theorem dX11_partOfStreet_90 : decode cX11_partOfStreet 90 = .ok (.iaload, 1) := by decide +kernel
theorem dX11_partOfStreet_91 : decode cX11_partOfStreet 91 = .ok (.ireturn, 1) := by decide +kernel
theorem dX11_partOfStreet_92 : decode cX11_partOfStreet 92 = .ok (.iload_n 1, 1) := by decide +kernel
theorem dX11_partOfStreet_93 : decode cX11_partOfStreet 93 = .ok (.bipush 50, 2) := by decide +kernel
theorem dX11_partOfStreet_95 : decode cX11_partOfStreet 95 = .ok (.aload_n 0, 1) := by decide +kernel
theorem dX11_partOfStreet_96 : decode cX11_partOfStreet 96 = .ok (.getfield 130, 3) := by decide +kernel
theorem dX11_partOfStreet_99 : decode cX11_partOfStreet 99 = .ok (.invokestatic 137, 3) := by decide +kernel
theorem dX11_partOfStreet_102 : decode cX11_partOfStreet 102 = .ok (.ifCond .eq 13, 3) := by decide +kernel
theorem dX11_partOfStreet_105 : decode cX11_partOfStreet 105 = .ok (.aload_n 0, 1) := by decide +kernel
theorem dX11_partOfStreet_106 : decode cX11_partOfStreet 106 = .ok (.getfield 152, 3) := by decide +kernel
theorem dX11_partOfStreet_109 : decode cX11_partOfStreet 109 = .ok (.iload_n 1, 1) := by decide +kernel
theorem dX11_partOfStreet_110 : decode cX11_partOfStreet 110 = .ok (.bipush 50, 2) := by decide +kernel
theorem dX11_partOfStreet_112 : decode cX11_partOfStreet 112 = .ok (.isub, 1) := by decide +kernel
theorem dX11_partOfStreet_113 : decode cX11_partOfStreet 113 = .ok (.iaload, 1) := by decide +kernel
theorem dX11_partOfStreet_114 : decode cX11_partOfStreet 114 = .ok (.ireturn, 1) := by decide +kernel
theorem dX11_partOfStreet_115 : decode cX11_partOfStreet 115 = .ok (.iload_n 1, 1) := by decide +kernel
theorem dX11_partOfStreet_116 : decode cX11_partOfStreet 116 = .ok (.bipush 100, 2) := by decide +kernel
theorem dX11_partOfStreet_118 : decode cX11_partOfStreet 118 = .ok (.aload_n 0, 1) := by decide +kernel
theorem dX11_partOfStreet_119 : decode cX11_partOfStreet 119 = .ok (.getfield 124, 3) := by decide +kernel
theorem dX11_partOfStreet_122 : decode cX11_partOfStreet 122 = .ok (.invokestatic 137, 3) := by decide +kernel
theorem dX11_partOfStreet_125 : decode cX11_partOfStreet 125 = .ok (.ifCond .eq 13, 3) := by decide +kernel
theorem dX11_partOfStreet_128 : decode cX11_partOfStreet 128 = .ok (.aload_n 0, 1) := by decide +kernel
theorem dX11_partOfStreet_129 : decode cX11_partOfStreet 129 = .ok (.getfield 155, 3) := by decide +kernel
theorem dX11_partOfStreet_132 : decode cX11_partOfStreet 132 = .ok (.iload_n 1, 1) := by decide +kernel
theorem dX11_partOfStreet_133 : decode cX11_partOfStreet 133 = .ok (.bipush 100, 2) := by decide +kernel
theorem dX11_partOfStreet_135 : decode cX11_partOfStreet 135 = .ok (.isub, 1) := by decide +kernel
theorem dX11_partOfStreet_136 : decode cX11_partOfStreet 136 = .ok (.iaload, 1) := by decide +kernel
theorem dX11_partOfStreet_137 : decode cX11_partOfStreet 137 = .ok (.ireturn, 1) := by decide +kernel
theorem dX11_partOfStreet_138 : decode cX11_partOfStreet 138 = .ok (.iload_n 1, 1) := by decide +kernel
theorem dX11_partOfStreet_139 : decode cX11_partOfStreet 139 = .ok (.sipush 200, 3) := by decide +kernel
theorem dX11_partOfStreet_142 : decode cX11_partOfStreet 142 = .ok (.aload_n 0, 1) := by decide +kernel
theorem dX11_partOfStreet_143 : decode cX11_partOfStreet 143 = .ok (.getfield 124, 3) := by decide +kernel
theorem dX11_partOfStreet_146 : decode cX11_partOfStreet 146 = .ok (.invokestatic 137, 3) := by decide +kernel
theorem dX11_partOfStreet_149 : decode cX11_partOfStreet 149 = .ok (.ifCond .eq 14, 3) := by decide +kernel
theorem dX11_partOfStreet_152 : decode cX11_partOfStreet 152 = .ok (.aload_n 0, 1) := by decide +kernel
theorem dX11_partOfStreet_153 : decode cX11_partOfStreet 153 = .ok (.getfield 158, 3) := by decide +kernel
theorem dX11_partOfStreet_156 : decode cX11_partOfStreet 156 = .ok (.iload_n 1, 1) := by decide +kernel
theorem dX11_partOfStreet_157 : decode cX11_partOfStreet 157 = .ok (.sipush 200, 3) := by decide +kernel
theorem dX11_partOfStreet_160 : decode cX11_partOfStreet 160 = .ok (.isub, 1) := by decide +kernel
theorem dX11_partOfStreet_161 : decode cX11_partOfStreet 161 = .ok (.iaload, 1) := by decide +kernel
theorem dX11_partOfStreet_162 : decode cX11_partOfStreet 162 = .ok (.ireturn, 1) := by decide +kernel
theorem dX11_partOfStreet_163 : decode cX11_partOfStreet 163 = .ok (.bipush (-2), 2) := by decide +kernel
theorem dX11_partOfStreet_165 : decode cX11_partOfStreet 165 = .ok (.ireturn, 1) := by decide +kernel
theorem dX11_deed_0 : decode cX11_deed 0 = .ok (.aload_n 0, 1) := by decide +kernel
theorem dX11_deed_1 : decode cX11_deed 1 = .ok (.iload_n 1, 1) := by decide +kernel
theorem dX11_deed_2 : decode cX11_deed 2 = .ok (.invokevirtual 161, 3) := by decide +kernel
theorem dX11_deed_5 : decode cX11_deed 5 = .ok (.ifCond .ne 6, 3) := by decide +kernel
theorem dX11_deed_8 : decode cX11_deed 8 = .ok (.bipush (-2), 2) := by decide +kernel
theorem dX11_deed_10 : decode cX11_deed 10 = .ok (.ireturn, 1) := by decide +kernel
theorem dX11_deed_11 : decode cX11_deed 11 = .ok (.aload_n 0, 1) := by decide +kernel
theorem dX11_deed_12 : decode cX11_deed 12 = .ok (.getfield 12, 3) := by decide +kernel
theorem dX11_deed_15 : decode cX11_deed 15 = .ok (.getfield 164, 3) := by decide +kernel
theorem dX11_deed_18 : decode cX11_deed 18 = .ok (.iload_n 1, 1) := by decide +kernel
theorem dX11_deed_19 : decode cX11_deed 19 = .ok (.aaload, 1) := by decide +kernel
theorem dX11_deed_20 : decode cX11_deed 20 = .ok (.astore 4, 2) := by decide +kernel
theorem dX11_deed_22 : decode cX11_deed 22 = .ok (.iload_n 2, 1) := by decide +kernel
theorem dX11_deed_23 : decode cX11_deed 23 = .ok (.iconst (-1), 1) := by decide +kernel
theorem dX11_deed_24 : decode cX11_deed 24 = .ok (.if_icmp .ne 18, 3) := by decide +kernel
theorem dX11_deed_27 : decode cX11_deed 27 = .ok (.iload_n 3, 1) := by decide +kernel
theorem dX11_deed_28 : decode cX11_deed 28 = .ok (.ifCond .ne 11, 3) := by decide +kernel
theorem dX11_deed_31 : decode cX11_deed 31 = .ok (.aload 4, 2) := by decide +kernel
theorem dX11_deed_33 : decode cX11_deed 33 = .ok (.getfield 168, 3) := by decide +kernel
theorem dX11_deed_36 : decode cX11_deed 36 = .ok (.goto 5, 3) := by decide +kernel
theorem dX11_deed_39 : decode cX11_deed 39 = .ok (.bipush (-2), 2) := by decide +kernel
theorem dX11_deed_41 : decode cX11_deed 41 = .ok (.ireturn, 1) := by decide +kernel
theorem dX11_deed_42 : decode cX11_deed 42 = .ok (.iload_n 2, 1) := by decide +kernel
theorem dX11_deed_43 : decode cX11_deed 43 = .ok (.ifCond .lt 21, 3) := by decide +kernel
theorem dX11_deed_46 : decode cX11_deed 46 = .ok (.iload_n 2, 1) := by decide +kernel
theorem dX11_deed_47 : decode cX11_deed 47 = .ok (.aload 4, 2) := by decide +kernel
theorem dX11_deed_49 : decode cX11_deed 49 = .ok (.getfield 168, 3) := by decide +kernel
theorem dX11_deed_52 : decode cX11_deed 52 = .ok (.if_icmp .ge 12, 3) := by decide +kernel
theorem dX11_deed_55 : decode cX11_deed 55 = .ok (.iload_n 3, 1) := by decide +kernel
theorem dX11_deed_56 : decode cX11_deed 56 = .ok (.ifCond .lt 8, 3) := by decide +kernel
theorem dX11_deed_59 : decode cX11_deed 59 = .ok (.iload_n 3, 1) := by decide +kernel
theorem dX11_deed_60 : decode cX11_deed 60 = .ok (.iconst 3, 1) := by decide +kernel
theorem dX11_deed_61 : decode cX11_deed 61 = .ok (.if_icmp .le 6, 3) := by decide +kernel
theorem dX11_deed_64 : decode cX11_deed 64 = .ok (.bipush (-2), 2) := by decide +kernel
theorem dX11_deed_66 : decode cX11_deed 66 = .ok (.ireturn, 1) := by decide +kernel
theorem dX11_deed_67 : decode cX11_deed 67 = .ok (.iload_n 3, 1) := by decide +kernel
theorem dX11_deed_68 : decode cX11_deed 68 = .ok (.ifCond .ne 16, 3) := by decide +kernel
theorem dX11_deed_71 : decode cX11_deed 71 = .ok (.aload 4, 2) := by decide +kernel
theorem dX11_deed_73 : decode cX11_deed 73 = .ok (.getfield 172, 3) := by decide +kernel
theorem dX11_deed_76 : decode cX11_deed 76 = .ok (.iload_n 2, 1) := by decide +kernel
theorem dX11_deed_77 : decode cX11_deed 77 = .ok (.iaload, 1) := by decide +kernel
theorem dX11_deed_78 : decode cX11_deed 78 = .ok (.bipush 6, 2) := by decide +kernel
theorem dX11_deed_80 : decode cX11_deed 80 = .ok (.isub, 1) := by decide +kernel
theorem dX11_deed_81 : decode cX11_deed 81 = .ok (.goto 12, 3) := by decide +kernel
theorem dX11_deed_84 : decode cX11_deed 84 = .ok (.aload 4, 2) := by decide +kernel
theorem dX11_deed_86 : decode cX11_deed 86 = .ok (.iload_n 2, 1) := by decide +kernel
theorem dX11_deed_87 : decode cX11_deed 87 = .ok (.iload_n 3, 1) := by decide +kernel
theorem dX11_deed_88 : decode cX11_deed 88 = .ok (.iconst 1, 1) := by decide +kernel
theorem dX11_deed_89 : decode cX11_deed 89 = .ok (.isub, 1) := by decide +kernel
theorem dX11_deed_90 : decode cX11_deed 90 = .ok (.invokevirtual 175, 3) := by decide +kernel
theorem dX11_deed_93 : decode cX11_deed 93 = .ok (.ireturn, 1) := by decide +kernel
theorem dX11_bestTaking_0 : decode cX11_bestTaking 0 = .ok (.iconst 1, 1) := by decide +kernel
theorem dX11_bestTaking_1 : decode cX11_bestTaking 1 = .ok (.istore_n 3, 1) := by decide +kernel
theorem dX11_bestTaking_2 : decode cX11_bestTaking 2 = .ok (.iconst 2, 1) := by decide +kernel
theorem dX11_bestTaking_3 : decode cX11_bestTaking 3 = .ok (.istore 4, 2) := by decide +kernel
theorem dX11_bestTaking_5 : decode cX11_bestTaking 5 = .ok (.iload 4, 2) := by decide +kernel
theorem dX11_bestTaking_7 : decode cX11_bestTaking 7 = .ok (.iconst 3, 1) := by decide +kernel
theorem dX11_bestTaking_8 : decode cX11_bestTaking 8 = .ok (.if_icmp .gt 41, 3) := by decide +kernel
theorem dX11_bestTaking_11 : decode cX11_bestTaking 11 = .ok (.iload_n 2, 1) := by decide +kernel
theorem dX11_bestTaking_12 : decode cX11_bestTaking 12 = .ok (.iload 4, 2) := by decide +kernel
theorem dX11_bestTaking_14 : decode cX11_bestTaking 14 = .ok (.iadd, 1) := by decide +kernel
theorem dX11_bestTaking_15 : decode cX11_bestTaking 15 = .ok (.aload_n 1, 1) := by decide +kernel
theorem dX11_bestTaking_16 : decode cX11_bestTaking 16 = .ok (.getfield 124, 3) := by decide +kernel
theorem dX11_bestTaking_19 : decode cX11_bestTaking 19 = .ok (.if_icmp .gt 30, 3) := by decide +kernel
theorem dX11_bestTaking_22 : decode cX11_bestTaking 22 = .ok (.aload_n 0, 1) := by decide +kernel
theorem dX11_bestTaking_23 : decode cX11_bestTaking 23 = .ok (.aload_n 1, 1) := by decide +kernel
theorem dX11_bestTaking_24 : decode cX11_bestTaking 24 = .ok (.iload_n 2, 1) := by decide +kernel
theorem dX11_bestTaking_25 : decode cX11_bestTaking 25 = .ok (.iload 4, 2) := by decide +kernel
theorem dX11_bestTaking_27 : decode cX11_bestTaking 27 = .ok (.invokevirtual 281, 3) := by decide +kernel
theorem dX11_bestTaking_30 : decode cX11_bestTaking 30 = .ok (.aload_n 0, 1) := by decide +kernel
theorem dX11_bestTaking_31 : decode cX11_bestTaking 31 = .ok (.aload_n 1, 1) := by decide +kernel
theorem dX11_bestTaking_32 : decode cX11_bestTaking 32 = .ok (.iload_n 2, 1) := by decide +kernel
theorem dX11_bestTaking_33 : decode cX11_bestTaking 33 = .ok (.iload_n 3, 1) := by decide +kernel
theorem dX11_bestTaking_34 : decode cX11_bestTaking 34 = .ok (.invokevirtual 281, 3) := by decide +kernel
theorem dX11_bestTaking_37 : decode cX11_bestTaking 37 = .ok (.if_icmp .le 6, 3) := by decide +kernel
theorem dX11_bestTaking_40 : decode cX11_bestTaking 40 = .ok (.iload 4, 2) := by decide +kernel
theorem dX11_bestTaking_42 : decode cX11_bestTaking 42 = .ok (.istore_n 3, 1) := by decide +kernel
theorem dX11_bestTaking_43 : decode cX11_bestTaking 43 = .ok (.iinc 4 1, 3) := by decide +kernel
theorem dX11_bestTaking_46 : decode cX11_bestTaking 46 = .ok (.goto (-41), 3) := by decide +kernel
theorem dX11_bestTaking_49 : decode cX11_bestTaking 49 = .ok (.iload_n 3, 1) := by decide +kernel
theorem dX11_bestTaking_50 : decode cX11_bestTaking 50 = .ok (.ireturn, 1) := by decide +kernel
theorem dX11_waysLeft_0 : decode cX11_waysLeft 0 = .ok (.lconst 0, 1) := by decide +kernel
theorem dX11_waysLeft_1 : decode cX11_waysLeft 1 = .ok (.lstore_n 3, 1) := by decide +kernel
theorem dX11_waysLeft_2 : decode cX11_waysLeft 2 = .ok (.iload_n 1, 1) := by decide +kernel
theorem dX11_waysLeft_3 : decode cX11_waysLeft 3 = .ok (.istore 5, 2) := by decide +kernel
theorem dX11_waysLeft_5 : decode cX11_waysLeft 5 = .ok (.iload 5, 2) := by decide +kernel
theorem dX11_waysLeft_7 : decode cX11_waysLeft 7 = .ok (.iload_n 0, 1) := by decide +kernel
theorem dX11_waysLeft_8 : decode cX11_waysLeft 8 = .ok (.if_icmp .gt 39, 3) := by decide +kernel
theorem dX11_waysLeft_11 : decode cX11_waysLeft 11 = .ok (.lload_n 3, 1) := by decide +kernel
theorem dX11_waysLeft_12 : decode cX11_waysLeft 12 = .ok (.iload_n 0, 1) := by decide +kernel
theorem dX11_waysLeft_13 : decode cX11_waysLeft 13 = .ok (.iload 5, 2) := by decide +kernel
theorem dX11_waysLeft_15 : decode cX11_waysLeft 15 = .ok (.invokestatic 309, 3) := by decide +kernel
theorem dX11_waysLeft_18 : decode cX11_waysLeft 18 = .ok (.bipush 10, 2) := by decide +kernel
theorem dX11_waysLeft_20 : decode cX11_waysLeft 20 = .ok (.iload_n 2, 1) := by decide +kernel
theorem dX11_waysLeft_21 : decode cX11_waysLeft 21 = .ok (.isub, 1) := by decide +kernel
theorem dX11_waysLeft_22 : decode cX11_waysLeft 22 = .ok (.i2l, 1) := by decide +kernel
theorem dX11_waysLeft_23 : decode cX11_waysLeft 23 = .ok (.iload 5, 2) := by decide +kernel
theorem dX11_waysLeft_25 : decode cX11_waysLeft 25 = .ok (.invokestatic 299, 3) := by decide +kernel
theorem dX11_waysLeft_28 : decode cX11_waysLeft 28 = .ok (.lmul, 1) := by decide +kernel
theorem dX11_waysLeft_29 : decode cX11_waysLeft 29 = .ok (.iload_n 2, 1) := by decide +kernel
theorem dX11_waysLeft_30 : decode cX11_waysLeft 30 = .ok (.i2l, 1) := by decide +kernel
theorem dX11_waysLeft_31 : decode cX11_waysLeft 31 = .ok (.iload_n 0, 1) := by decide +kernel
theorem dX11_waysLeft_32 : decode cX11_waysLeft 32 = .ok (.iload 5, 2) := by decide +kernel
theorem dX11_waysLeft_34 : decode cX11_waysLeft 34 = .ok (.isub, 1) := by decide +kernel
theorem dX11_waysLeft_35 : decode cX11_waysLeft 35 = .ok (.invokestatic 299, 3) := by decide +kernel
theorem dX11_waysLeft_38 : decode cX11_waysLeft 38 = .ok (.lmul, 1) := by decide +kernel
theorem dX11_waysLeft_39 : decode cX11_waysLeft 39 = .ok (.ladd, 1) := by decide +kernel
theorem dX11_waysLeft_40 : decode cX11_waysLeft 40 = .ok (.lstore_n 3, 1) := by decide +kernel
theorem dX11_waysLeft_41 : decode cX11_waysLeft 41 = .ok (.iinc 5 1, 3) := by decide +kernel
theorem dX11_waysLeft_44 : decode cX11_waysLeft 44 = .ok (.goto (-39), 3) := by decide +kernel
theorem dX11_waysLeft_47 : decode cX11_waysLeft 47 = .ok (.lload_n 3, 1) := by decide +kernel
theorem dX11_waysLeft_48 : decode cX11_waysLeft 48 = .ok (.lreturn, 1) := by decide +kernel
theorem dX11_lowest_0 : decode cX11_lowest 0 = .ok (.lload_n 0, 1) := by decide +kernel
theorem dX11_lowest_1 : decode cX11_lowest 1 = .ok (.lload_n 2, 1) := by decide +kernel
theorem dX11_lowest_2 : decode cX11_lowest 2 = .ok (.invokestatic 313, 3) := by decide +kernel
theorem dX11_lowest_5 : decode cX11_lowest 5 = .ok (.lstore 5, 2) := by decide +kernel
theorem dX11_lowest_7 : decode cX11_lowest 7 = .ok (.lload 5, 2) := by decide +kernel
theorem dX11_lowest_9 : decode cX11_lowest 9 = .ok (.lconst 1, 1) := by decide +kernel
theorem dX11_lowest_10 : decode cX11_lowest 10 = .ok (.lcmp, 1) := by decide +kernel
theorem dX11_lowest_11 : decode cX11_lowest 11 = .ok (.ifCond .ge 7, 3) := by decide +kernel
theorem dX11_lowest_14 : decode cX11_lowest 14 = .ok (.ldc2_w 250, 3) := by decide +kernel
theorem dX11_lowest_17 : decode cX11_lowest 17 = .ok (.lreturn, 1) := by decide +kernel
theorem dX11_lowest_18 : decode cX11_lowest 18 = .ok (.iload 4, 2) := by decide +kernel
theorem dX11_lowest_20 : decode cX11_lowest 20 = .ok (.ifCond .eq 7, 3) := by decide +kernel
theorem dX11_lowest_23 : decode cX11_lowest 23 = .ok (.lload_n 2, 1) := by decide +kernel
theorem dX11_lowest_24 : decode cX11_lowest 24 = .ok (.goto 4, 3) := by decide +kernel
theorem dX11_lowest_27 : decode cX11_lowest 27 = .ok (.lload_n 0, 1) := by decide +kernel
theorem dX11_lowest_28 : decode cX11_lowest 28 = .ok (.lload 5, 2) := by decide +kernel
theorem dX11_lowest_30 : decode cX11_lowest 30 = .ok (.ldiv, 1) := by decide +kernel
theorem dX11_lowest_31 : decode cX11_lowest 31 = .ok (.lreturn, 1) := by decide +kernel
theorem dX11_dayBefore_0 : decode cX11_dayBefore 0 = .ok (.lconst 0, 1) := by decide +kernel
theorem dX11_dayBefore_1 : decode cX11_dayBefore 1 = .ok (.lstore 4, 2) := by decide +kernel
theorem dX11_dayBefore_3 : decode cX11_dayBefore 3 = .ok (.iconst 0, 1) := by decide +kernel
theorem dX11_dayBefore_4 : decode cX11_dayBefore 4 = .ok (.istore 6, 2) := by decide +kernel
theorem dX11_dayBefore_6 : decode cX11_dayBefore 6 = .ok (.iload 6, 2) := by decide +kernel
theorem dX11_dayBefore_8 : decode cX11_dayBefore 8 = .ok (.bipush 9, 2) := by decide +kernel
theorem dX11_dayBefore_10 : decode cX11_dayBefore 10 = .ok (.if_icmp .gt 23, 3) := by decide +kernel
theorem dX11_dayBefore_13 : decode cX11_dayBefore 13 = .ok (.lload 4, 2) := by decide +kernel
theorem dX11_dayBefore_15 : decode cX11_dayBefore 15 = .ok (.iload 6, 2) := by decide +kernel
theorem dX11_dayBefore_17 : decode cX11_dayBefore 17 = .ok (.i2l, 1) := by decide +kernel
theorem dX11_dayBefore_18 : decode cX11_dayBefore 18 = .ok (.lload_n 2, 1) := by decide +kernel
theorem dX11_dayBefore_19 : decode cX11_dayBefore 19 = .ok (.lmul, 1) := by decide +kernel
theorem dX11_dayBefore_20 : decode cX11_dayBefore 20 = .ok (.lload_n 0, 1) := by decide +kernel
theorem dX11_dayBefore_21 : decode cX11_dayBefore 21 = .ok (.invokestatic 324, 3) := by decide +kernel
theorem dX11_dayBefore_24 : decode cX11_dayBefore 24 = .ok (.ladd, 1) := by decide +kernel
theorem dX11_dayBefore_25 : decode cX11_dayBefore 25 = .ok (.lstore 4, 2) := by decide +kernel
theorem dX11_dayBefore_27 : decode cX11_dayBefore 27 = .ok (.iinc 6 1, 3) := by decide +kernel
theorem dX11_dayBefore_30 : decode cX11_dayBefore 30 = .ok (.goto (-24), 3) := by decide +kernel
theorem dX11_dayBefore_33 : decode cX11_dayBefore 33 = .ok (.lload 4, 2) := by decide +kernel
theorem dX11_dayBefore_35 : decode cX11_dayBefore 35 = .ok (.lreturn, 1) := by decide +kernel
theorem dX11_fact_0 : decode cX11_fact 0 = .ok (.aload_n 0, 1) := by decide +kernel
theorem dX11_fact_1 : decode cX11_fact 1 = .ok (.iload_n 1, 1) := by decide +kernel
theorem dX11_fact_2 : decode cX11_fact 2 = .ok (.invokevirtual 329, 3) := by decide +kernel
theorem dX11_fact_5 : decode cX11_fact 5 = .ok (.ifCond .ne 6, 3) := by decide +kernel
theorem dX11_fact_8 : decode cX11_fact 8 = .ok (.bipush (-2), 2) := by decide +kernel
theorem dX11_fact_10 : decode cX11_fact 10 = .ok (.ireturn, 1) := by decide +kernel
theorem dX11_fact_11 : decode cX11_fact 11 = .ok (.aload_n 0, 1) := by decide +kernel
theorem dX11_fact_12 : decode cX11_fact 12 = .ok (.getfield 12, 3) := by decide +kernel
theorem dX11_fact_15 : decode cX11_fact 15 = .ok (.getfield 332, 3) := by decide +kernel
theorem dX11_fact_18 : decode cX11_fact 18 = .ok (.iload_n 1, 1) := by decide +kernel
theorem dX11_fact_19 : decode cX11_fact 19 = .ok (.aaload, 1) := by decide +kernel
theorem dX11_fact_20 : decode cX11_fact 20 = .ok (.astore 4, 2) := by decide +kernel
theorem dX11_fact_22 : decode cX11_fact 22 = .ok (.iload_n 2, 1) := by decide +kernel
theorem dX11_fact_23 : decode cX11_fact 23 = .ok (.iconst (-1), 1) := by decide +kernel
theorem dX11_fact_24 : decode cX11_fact 24 = .ok (.if_icmp .ne 18, 3) := by decide +kernel
theorem dX11_fact_27 : decode cX11_fact 27 = .ok (.iload_n 3, 1) := by decide +kernel
theorem dX11_fact_28 : decode cX11_fact 28 = .ok (.ifCond .ne 11, 3) := by decide +kernel
theorem dX11_fact_31 : decode cX11_fact 31 = .ok (.aload 4, 2) := by decide +kernel
theorem dX11_fact_33 : decode cX11_fact 33 = .ok (.getfield 168, 3) := by decide +kernel
theorem dX11_fact_36 : decode cX11_fact 36 = .ok (.goto 5, 3) := by decide +kernel
theorem dX11_fact_39 : decode cX11_fact 39 = .ok (.bipush (-2), 2) := by decide +kernel
theorem dX11_fact_41 : decode cX11_fact 41 = .ok (.ireturn, 1) := by decide +kernel
theorem dX11_fact_42 : decode cX11_fact 42 = .ok (.iload_n 2, 1) := by decide +kernel
theorem dX11_fact_43 : decode cX11_fact 43 = .ok (.ifCond .lt 21, 3) := by decide +kernel
theorem dX11_fact_46 : decode cX11_fact 46 = .ok (.iload_n 2, 1) := by decide +kernel
theorem dX11_fact_47 : decode cX11_fact 47 = .ok (.aload 4, 2) := by decide +kernel
theorem dX11_fact_49 : decode cX11_fact 49 = .ok (.getfield 168, 3) := by decide +kernel
theorem dX11_fact_52 : decode cX11_fact 52 = .ok (.if_icmp .ge 12, 3) := by decide +kernel
theorem dX11_fact_55 : decode cX11_fact 55 = .ok (.iload_n 3, 1) := by decide +kernel
theorem dX11_fact_56 : decode cX11_fact 56 = .ok (.ifCond .lt 8, 3) := by decide +kernel
theorem dX11_fact_59 : decode cX11_fact 59 = .ok (.iload_n 3, 1) := by decide +kernel
theorem dX11_fact_60 : decode cX11_fact 60 = .ok (.iconst 1, 1) := by decide +kernel
theorem dX11_fact_61 : decode cX11_fact 61 = .ok (.if_icmp .le 6, 3) := by decide +kernel
theorem dX11_fact_64 : decode cX11_fact 64 = .ok (.bipush (-2), 2) := by decide +kernel
theorem dX11_fact_66 : decode cX11_fact 66 = .ok (.ireturn, 1) := by decide +kernel
theorem dX11_fact_67 : decode cX11_fact 67 = .ok (.iload_n 3, 1) := by decide +kernel
theorem dX11_fact_68 : decode cX11_fact 68 = .ok (.iconst 1, 1) := by decide +kernel
theorem dX11_fact_69 : decode cX11_fact 69 = .ok (.if_icmp .ne 11, 3) := by decide +kernel
theorem dX11_fact_72 : decode cX11_fact 72 = .ok (.aload 4, 2) := by decide +kernel
theorem dX11_fact_74 : decode cX11_fact 74 = .ok (.iload_n 2, 1) := by decide +kernel
theorem dX11_fact_75 : decode cX11_fact 75 = .ok (.iconst 0, 1) := by decide +kernel
theorem dX11_fact_76 : decode cX11_fact 76 = .ok (.invokevirtual 175, 3) := by decide +kernel
theorem dX11_fact_79 : decode cX11_fact 79 = .ok (.ireturn, 1) := by decide +kernel
theorem dX11_fact_80 : decode cX11_fact 80 = .ok (.aload 4, 2) := by decide +kernel
theorem dX11_fact_82 : decode cX11_fact 82 = .ok (.getfield 172, 3) := by decide +kernel
theorem dX11_fact_85 : decode cX11_fact 85 = .ok (.iload_n 2, 1) := by decide +kernel
theorem dX11_fact_86 : decode cX11_fact 86 = .ok (.iaload, 1) := by decide +kernel
theorem dX11_fact_87 : decode cX11_fact 87 = .ok (.bipush 13, 2) := by decide +kernel
theorem dX11_fact_89 : decode cX11_fact 89 = .ok (.if_icmp .ne 7, 3) := by decide +kernel
theorem dX11_fact_92 : decode cX11_fact 92 = .ok (.iconst 1, 1) := by decide +kernel
theorem dX11_fact_93 : decode cX11_fact 93 = .ok (.goto 4, 3) := by decide +kernel
theorem dX11_fact_96 : decode cX11_fact 96 = .ok (.iconst 0, 1) := by decide +kernel
theorem dX11_fact_97 : decode cX11_fact 97 = .ok (.ireturn, 1) := by decide +kernel
theorem dJ0_length_8abf5_0 : decode cJ0_length_8abf5 0 = .ok (.aload_n 0, 1) := by decide +kernel
theorem dJ0_length_8abf5_1 : decode cJ0_length_8abf5 1 = .ok (.getfield 9, 3) := by decide +kernel
theorem dJ0_length_8abf5_4 : decode cJ0_length_8abf5 4 = .ok (.arraylength, 1) := by decide +kernel
theorem dJ0_length_8abf5_5 : decode cJ0_length_8abf5 5 = .ok (.aload_n 0, 1) := by decide +kernel
theorem dJ0_length_8abf5_6 : decode cJ0_length_8abf5 6 = .ok (.invokevirtual 335, 3) := by decide +kernel
theorem dJ0_length_8abf5_9 : decode cJ0_length_8abf5 9 = .ok (.ishr, 1) := by decide +kernel
theorem dJ0_length_8abf5_10 : decode cJ0_length_8abf5 10 = .ok (.ireturn, 1) := by decide +kernel
theorem dJ0_checkIndex_df160_0 : decode cJ0_checkIndex_df160 0 = .ok (.iload_n 0, 1) := by decide +kernel
theorem dJ0_checkIndex_df160_1 : decode cJ0_checkIndex_df160 1 = .ok (.iload_n 1, 1) := by decide +kernel
theorem dJ0_checkIndex_df160_2 : decode cJ0_checkIndex_df160 2 = .ok (.getstatic 1053, 3) := by decide +kernel
theorem dJ0_checkIndex_df160_5 : decode cJ0_checkIndex_df160 5 = .ok (.invokestatic 1059, 3) := by decide +kernel
theorem dJ0_checkIndex_df160_8 : decode cJ0_checkIndex_df160 8 = .ok (.pop, 1) := by decide +kernel
theorem dJ0_checkIndex_df160_9 : decode cJ0_checkIndex_df160 9 = .ok (.return_, 1) := by decide +kernel
theorem dJ7_fill_fda19_0 : decode cJ7_fill_fda19 0 = .ok (.aload_n 0, 1) := by decide +kernel
theorem dJ7_fill_fda19_1 : decode cJ7_fill_fda19 1 = .ok (.arraylength, 1) := by decide +kernel
theorem dJ7_fill_fda19_2 : decode cJ7_fill_fda19 2 = .ok (.iload_n 1, 1) := by decide +kernel
theorem dJ7_fill_fda19_3 : decode cJ7_fill_fda19 3 = .ok (.iload_n 2, 1) := by decide +kernel
theorem dJ7_fill_fda19_4 : decode cJ7_fill_fda19 4 = .ok (.invokestatic 13, 3) := by decide +kernel
theorem dJ7_fill_fda19_7 : decode cJ7_fill_fda19 7 = .ok (.iload_n 1, 1) := by decide +kernel
theorem dJ7_fill_fda19_8 : decode cJ7_fill_fda19 8 = .ok (.istore 4, 2) := by decide +kernel
theorem dJ7_fill_fda19_10 : decode cJ7_fill_fda19 10 = .ok (.iload 4, 2) := by decide +kernel
theorem dJ7_fill_fda19_12 : decode cJ7_fill_fda19 12 = .ok (.iload_n 2, 1) := by decide +kernel
theorem dJ7_fill_fda19_13 : decode cJ7_fill_fda19 13 = .ok (.if_icmp .ge 14, 3) := by decide +kernel
theorem dJ7_fill_fda19_16 : decode cJ7_fill_fda19 16 = .ok (.aload_n 0, 1) := by decide +kernel
theorem dJ7_fill_fda19_17 : decode cJ7_fill_fda19 17 = .ok (.iload 4, 2) := by decide +kernel
theorem dJ7_fill_fda19_19 : decode cJ7_fill_fda19 19 = .ok (.iload_n 3, 1) := by decide +kernel
theorem dJ7_fill_fda19_20 : decode cJ7_fill_fda19 20 = .ok (.iastore, 1) := by decide +kernel
theorem dJ7_fill_fda19_21 : decode cJ7_fill_fda19 21 = .ok (.iinc 4 1, 3) := by decide +kernel
theorem dJ7_fill_fda19_24 : decode cJ7_fill_fda19 24 = .ok (.goto (-14), 3) := by decide +kernel
theorem dJ7_fill_fda19_27 : decode cJ7_fill_fda19 27 = .ok (.return_, 1) := by decide +kernel
theorem dX0_bestCost_0 : decode cX0_bestCost 0 = .ok (.aload_n 0, 1) := by decide +kernel
theorem dX0_bestCost_1 : decode cX0_bestCost 1 = .ok (.aload_n 1, 1) := by decide +kernel
theorem dX0_bestCost_2 : decode cX0_bestCost 2 = .ok (.iload_n 2, 1) := by decide +kernel
theorem dX0_bestCost_3 : decode cX0_bestCost 3 = .ok (.invokevirtual 50, 3) := by decide +kernel
theorem dX0_bestCost_6 : decode cX0_bestCost 6 = .ok (.invokestatic 54, 3) := by decide +kernel
theorem dX0_bestCost_9 : decode cX0_bestCost 9 = .ok (.ireturn, 1) := by decide +kernel
theorem dX0_bestFirst_0 : decode cX0_bestFirst 0 = .ok (.aload_n 0, 1) := by decide +kernel
theorem dX0_bestFirst_1 : decode cX0_bestFirst 1 = .ok (.aload_n 1, 1) := by decide +kernel
theorem dX0_bestFirst_2 : decode cX0_bestFirst 2 = .ok (.iload_n 2, 1) := by decide +kernel
theorem dX0_bestFirst_3 : decode cX0_bestFirst 3 = .ok (.invokevirtual 50, 3) := by decide +kernel
theorem dX0_bestFirst_6 : decode cX0_bestFirst 6 = .ok (.iload_n 2, 1) := by decide +kernel
theorem dX0_bestFirst_7 : decode cX0_bestFirst 7 = .ok (.invokestatic 58, 3) := by decide +kernel
theorem dX0_bestFirst_10 : decode cX0_bestFirst 10 = .ok (.ireturn, 1) := by decide +kernel
theorem dX0_arrange_0 : decode cX0_arrange 0 = .ok (.aload_n 0, 1) := by decide +kernel
theorem dX0_arrange_1 : decode cX0_arrange 1 = .ok (.getfield 15, 3) := by decide +kernel
theorem dX0_arrange_4 : decode cX0_arrange 4 = .ok (.ldc2_w 30, 3) := by decide +kernel
theorem dX0_arrange_7 : decode cX0_arrange 7 = .ok (.invokestatic 69, 3) := by decide +kernel
theorem dX0_arrange_10 : decode cX0_arrange 10 = .ok (.aload_n 0, 1) := by decide +kernel
theorem dX0_arrange_11 : decode cX0_arrange 11 = .ok (.getfield 15, 3) := by decide +kernel
theorem dX0_arrange_14 : decode cX0_arrange 14 = .ok (.iconst 0, 1) := by decide +kernel
theorem dX0_arrange_15 : decode cX0_arrange 15 = .ok (.lconst 0, 1) := by decide +kernel
theorem dX0_arrange_16 : decode cX0_arrange 16 = .ok (.lastore, 1) := by decide +kernel
theorem dX0_arrange_17 : decode cX0_arrange 17 = .ok (.iconst 0, 1) := by decide +kernel
theorem dX0_arrange_18 : decode cX0_arrange 18 = .ok (.istore_n 3, 1) := by decide +kernel
theorem dX0_arrange_19 : decode cX0_arrange 19 = .ok (.iload_n 3, 1) := by decide +kernel
theorem dX0_arrange_20 : decode cX0_arrange 20 = .ok (.aload_n 1, 1) := by decide +kernel
theorem dX0_arrange_21 : decode cX0_arrange 21 = .ok (.getfield 27, 3) := by decide +kernel
theorem dX0_arrange_24 : decode cX0_arrange 24 = .ok (.if_icmp .ge 61, 3) := by decide +kernel
theorem dX0_arrange_27 : decode cX0_arrange 27 = .ok (.iconst 0, 1) := by decide +kernel
theorem dX0_arrange_28 : decode cX0_arrange 28 = .ok (.istore 4, 2) := by decide +kernel
theorem dX0_arrange_30 : decode cX0_arrange 30 = .ok (.iload 4, 2) := by decide +kernel
theorem dX0_arrange_32 : decode cX0_arrange 32 = .ok (.aload_n 1, 1) := by decide +kernel
theorem dX0_arrange_33 : decode cX0_arrange 33 = .ok (.invokevirtual 75, 3) := by decide +kernel
theorem dX0_arrange_36 : decode cX0_arrange 36 = .ok (.if_icmp .ge 43, 3) := by decide +kernel
theorem dX0_arrange_39 : decode cX0_arrange 39 = .ok (.aload_n 0, 1) := by decide +kernel
theorem dX0_arrange_40 : decode cX0_arrange 40 = .ok (.getfield 15, 3) := by decide +kernel
theorem dX0_arrange_43 : decode cX0_arrange 43 = .ok (.iload_n 3, 1) := by decide +kernel
theorem dX0_arrange_44 : decode cX0_arrange 44 = .ok (.bipush 64, 2) := by decide +kernel
theorem dX0_arrange_46 : decode cX0_arrange 46 = .ok (.imul, 1) := by decide +kernel
theorem dX0_arrange_47 : decode cX0_arrange 47 = .ok (.iload 4, 2) := by decide +kernel
theorem dX0_arrange_49 : decode cX0_arrange 49 = .ok (.iadd, 1) := by decide +kernel
theorem dX0_arrange_50 : decode cX0_arrange 50 = .ok (.laload, 1) := by decide +kernel
theorem dX0_arrange_51 : decode cX0_arrange 51 = .ok (.lstore 5, 2) := by decide +kernel
theorem dX0_arrange_53 : decode cX0_arrange 53 = .ok (.lload 5, 2) := by decide +kernel
theorem dX0_arrange_55 : decode cX0_arrange 55 = .ok (.ldc2_w 30, 3) := by decide +kernel
theorem dX0_arrange_58 : decode cX0_arrange 58 = .ok (.lcmp, 1) := by decide +kernel
theorem dX0_arrange_59 : decode cX0_arrange 59 = .ok (.ifCond .ge 14, 3) := by decide +kernel
theorem dX0_arrange_62 : decode cX0_arrange 62 = .ok (.aload_n 0, 1) := by decide +kernel
theorem dX0_arrange_63 : decode cX0_arrange 63 = .ok (.aload_n 1, 1) := by decide +kernel
theorem dX0_arrange_64 : decode cX0_arrange 64 = .ok (.iload_n 3, 1) := by decide +kernel
theorem dX0_arrange_65 : decode cX0_arrange 65 = .ok (.iload 4, 2) := by decide +kernel
theorem dX0_arrange_67 : decode cX0_arrange 67 = .ok (.iload_n 2, 1) := by decide +kernel
theorem dX0_arrange_68 : decode cX0_arrange 68 = .ok (.lload 5, 2) := by decide +kernel
theorem dX0_arrange_70 : decode cX0_arrange 70 = .ok (.invokevirtual 79, 3) := by decide +kernel
theorem dX0_arrange_73 : decode cX0_arrange 73 = .ok (.iinc 4 1, 3) := by decide +kernel
theorem dX0_arrange_76 : decode cX0_arrange 76 = .ok (.goto (-46), 3) := by decide +kernel
theorem dX0_arrange_79 : decode cX0_arrange 79 = .ok (.iinc 3 1, 3) := by decide +kernel
theorem dX0_arrange_82 : decode cX0_arrange 82 = .ok (.goto (-63), 3) := by decide +kernel
theorem dX0_arrange_85 : decode cX0_arrange 85 = .ok (.return_, 1) := by decide +kernel
theorem dX0_firstMinuteIn_0 : decode cX0_firstMinuteIn 0 = .ok (.aload_n 1, 1) := by decide +kernel
theorem dX0_firstMinuteIn_1 : decode cX0_firstMinuteIn 1 = .ok (.iload_n 3, 1) := by decide +kernel
theorem dX0_firstMinuteIn_2 : decode cX0_firstMinuteIn 2 = .ok (.invokevirtual 95, 3) := by decide +kernel
theorem dX0_firstMinuteIn_5 : decode cX0_firstMinuteIn 5 = .ok (.ifCond .eq 11, 3) := by decide +kernel
theorem dX0_firstMinuteIn_8 : decode cX0_firstMinuteIn 8 = .ok (.iload_n 2, 1) := by decide +kernel
theorem dX0_firstMinuteIn_9 : decode cX0_firstMinuteIn 9 = .ok (.iload_n 3, 1) := by decide +kernel
theorem dX0_firstMinuteIn_10 : decode cX0_firstMinuteIn 10 = .ok (.ishr, 1) := by decide +kernel
theorem dX0_firstMinuteIn_11 : decode cX0_firstMinuteIn 11 = .ok (.iconst 1, 1) := by decide +kernel
theorem dX0_firstMinuteIn_12 : decode cX0_firstMinuteIn 12 = .ok (.iand, 1) := by decide +kernel
theorem dX0_firstMinuteIn_13 : decode cX0_firstMinuteIn 13 = .ok (.ifCond .ne 5, 3) := by decide +kernel
theorem dX0_firstMinuteIn_16 : decode cX0_firstMinuteIn 16 = .ok (.iconst (-1), 1) := by decide +kernel
theorem dX0_firstMinuteIn_17 : decode cX0_firstMinuteIn 17 = .ok (.ireturn, 1) := by decide +kernel
theorem dX0_firstMinuteIn_18 : decode cX0_firstMinuteIn 18 = .ok (.aload_n 0, 1) := by decide +kernel
theorem dX0_firstMinuteIn_19 : decode cX0_firstMinuteIn 19 = .ok (.getfield 15, 3) := by decide +kernel
theorem dX0_firstMinuteIn_22 : decode cX0_firstMinuteIn 22 = .ok (.aload_n 1, 1) := by decide +kernel
theorem dX0_firstMinuteIn_23 : decode cX0_firstMinuteIn 23 = .ok (.getfield 27, 3) := by decide +kernel
theorem dX0_firstMinuteIn_26 : decode cX0_firstMinuteIn 26 = .ok (.bipush 64, 2) := by decide +kernel
theorem dX0_firstMinuteIn_28 : decode cX0_firstMinuteIn 28 = .ok (.imul, 1) := by decide +kernel
theorem dX0_firstMinuteIn_29 : decode cX0_firstMinuteIn 29 = .ok (.iload_n 2, 1) := by decide +kernel
theorem dX0_firstMinuteIn_30 : decode cX0_firstMinuteIn 30 = .ok (.iadd, 1) := by decide +kernel
theorem dX0_firstMinuteIn_31 : decode cX0_firstMinuteIn 31 = .ok (.laload, 1) := by decide +kernel
theorem dX0_firstMinuteIn_32 : decode cX0_firstMinuteIn 32 = .ok (.iload_n 3, 1) := by decide +kernel
theorem dX0_firstMinuteIn_33 : decode cX0_firstMinuteIn 33 = .ok (.invokestatic 58, 3) := by decide +kernel
theorem dX0_firstMinuteIn_36 : decode cX0_firstMinuteIn 36 = .ok (.ireturn, 1) := by decide +kernel
theorem dX0_arrangeGiven_0 : decode cX0_arrangeGiven 0 = .ok (.aload_n 0, 1) := by decide +kernel
theorem dX0_arrangeGiven_1 : decode cX0_arrangeGiven 1 = .ok (.getfield 18, 3) := by decide +kernel
theorem dX0_arrangeGiven_4 : decode cX0_arrangeGiven 4 = .ok (.ldc2_w 30, 3) := by decide +kernel
theorem dX0_arrangeGiven_7 : decode cX0_arrangeGiven 7 = .ok (.invokestatic 69, 3) := by decide +kernel
theorem dX0_arrangeGiven_10 : decode cX0_arrangeGiven 10 = .ok (.iconst 0, 1) := by decide +kernel
theorem dX0_arrangeGiven_11 : decode cX0_arrangeGiven 11 = .ok (.istore 4, 2) := by decide +kernel
theorem dX0_arrangeGiven_13 : decode cX0_arrangeGiven 13 = .ok (.iload 4, 2) := by decide +kernel
theorem dX0_arrangeGiven_15 : decode cX0_arrangeGiven 15 = .ok (.aload_n 1, 1) := by decide +kernel
theorem dX0_arrangeGiven_16 : decode cX0_arrangeGiven 16 = .ok (.getfield 27, 3) := by decide +kernel
theorem dX0_arrangeGiven_19 : decode cX0_arrangeGiven 19 = .ok (.if_icmp .ge 122, 3) := by decide +kernel
theorem dX0_arrangeGiven_22 : decode cX0_arrangeGiven 22 = .ok (.iconst 0, 1) := by decide +kernel
theorem dX0_arrangeGiven_23 : decode cX0_arrangeGiven 23 = .ok (.istore 5, 2) := by decide +kernel
theorem dX0_arrangeGiven_25 : decode cX0_arrangeGiven 25 = .ok (.iload 5, 2) := by decide +kernel
theorem dX0_arrangeGiven_27 : decode cX0_arrangeGiven 27 = .ok (.aload_n 1, 1) := by decide +kernel
theorem dX0_arrangeGiven_28 : decode cX0_arrangeGiven 28 = .ok (.invokevirtual 75, 3) := by decide +kernel
theorem dX0_arrangeGiven_31 : decode cX0_arrangeGiven 31 = .ok (.if_icmp .ge 104, 3) := by decide +kernel
theorem dX0_arrangeGiven_34 : decode cX0_arrangeGiven 34 = .ok (.aload_n 0, 1) := by decide +kernel
theorem dX0_arrangeGiven_35 : decode cX0_arrangeGiven 35 = .ok (.getfield 18, 3) := by decide +kernel
theorem dX0_arrangeGiven_38 : decode cX0_arrangeGiven 38 = .ok (.iload 4, 2) := by decide +kernel
theorem dX0_arrangeGiven_40 : decode cX0_arrangeGiven 40 = .ok (.iconst 1, 1) := by decide +kernel
theorem dX0_arrangeGiven_41 : decode cX0_arrangeGiven 41 = .ok (.iadd, 1) := by decide +kernel
theorem dX0_arrangeGiven_42 : decode cX0_arrangeGiven 42 = .ok (.bipush 64, 2) := by decide +kernel
theorem dX0_arrangeGiven_44 : decode cX0_arrangeGiven 44 = .ok (.imul, 1) := by decide +kernel
theorem dX0_arrangeGiven_45 : decode cX0_arrangeGiven 45 = .ok (.iload 5, 2) := by decide +kernel
theorem dX0_arrangeGiven_47 : decode cX0_arrangeGiven 47 = .ok (.iadd, 1) := by decide +kernel
theorem dX0_arrangeGiven_48 : decode cX0_arrangeGiven 48 = .ok (.aload_n 0, 1) := by decide +kernel
theorem dX0_arrangeGiven_49 : decode cX0_arrangeGiven 49 = .ok (.getfield 18, 3) := by decide +kernel
theorem dX0_arrangeGiven_52 : decode cX0_arrangeGiven 52 = .ok (.iload 4, 2) := by decide +kernel
theorem dX0_arrangeGiven_54 : decode cX0_arrangeGiven 54 = .ok (.bipush 64, 2) := by decide +kernel
theorem dX0_arrangeGiven_56 : decode cX0_arrangeGiven 56 = .ok (.imul, 1) := by decide +kernel
theorem dX0_arrangeGiven_57 : decode cX0_arrangeGiven 57 = .ok (.iload 5, 2) := by decide +kernel
theorem dX0_arrangeGiven_59 : decode cX0_arrangeGiven 59 = .ok (.iadd, 1) := by decide +kernel
theorem dX0_arrangeGiven_60 : decode cX0_arrangeGiven 60 = .ok (.laload, 1) := by decide +kernel
theorem dX0_arrangeGiven_61 : decode cX0_arrangeGiven 61 = .ok (.invokestatic 83, 3) := by decide +kernel
theorem dX0_arrangeGiven_64 : decode cX0_arrangeGiven 64 = .ok (.iconst 0, 1) := by decide +kernel
theorem dX0_arrangeGiven_65 : decode cX0_arrangeGiven 65 = .ok (.istore 6, 2) := by decide +kernel
theorem dX0_arrangeGiven_67 : decode cX0_arrangeGiven 67 = .ok (.iload 6, 2) := by decide +kernel
theorem dX0_arrangeGiven_69 : decode cX0_arrangeGiven 69 = .ok (.aload_n 1, 1) := by decide +kernel
theorem dX0_arrangeGiven_70 : decode cX0_arrangeGiven 70 = .ok (.getfield 21, 3) := by decide +kernel
theorem dX0_arrangeGiven_73 : decode cX0_arrangeGiven 73 = .ok (.if_icmp .ge 56, 3) := by decide +kernel
theorem dX0_arrangeGiven_76 : decode cX0_arrangeGiven 76 = .ok (.iload_n 3, 1) := by decide +kernel
theorem dX0_arrangeGiven_77 : decode cX0_arrangeGiven 77 = .ok (.iload 5, 2) := by decide +kernel
theorem dX0_arrangeGiven_79 : decode cX0_arrangeGiven 79 = .ok (.iconst (-1), 1) := by decide +kernel
theorem dX0_arrangeGiven_80 : decode cX0_arrangeGiven 80 = .ok (.ixor, 1) := by decide +kernel
theorem dX0_arrangeGiven_81 : decode cX0_arrangeGiven 81 = .ok (.iand, 1) := by decide +kernel
theorem dX0_arrangeGiven_82 : decode cX0_arrangeGiven 82 = .ok (.iload 6, 2) := by decide +kernel
theorem dX0_arrangeGiven_84 : decode cX0_arrangeGiven 84 = .ok (.ishr, 1) := by decide +kernel
theorem dX0_arrangeGiven_85 : decode cX0_arrangeGiven 85 = .ok (.iconst 1, 1) := by decide +kernel
theorem dX0_arrangeGiven_86 : decode cX0_arrangeGiven 86 = .ok (.iand, 1) := by decide +kernel
theorem dX0_arrangeGiven_87 : decode cX0_arrangeGiven 87 = .ok (.iconst 1, 1) := by decide +kernel
theorem dX0_arrangeGiven_88 : decode cX0_arrangeGiven 88 = .ok (.if_icmp .ne 35, 3) := by decide +kernel
theorem dX0_arrangeGiven_91 : decode cX0_arrangeGiven 91 = .ok (.aload_n 0, 1) := by decide +kernel
theorem dX0_arrangeGiven_92 : decode cX0_arrangeGiven 92 = .ok (.getfield 9, 3) := by decide +kernel
theorem dX0_arrangeGiven_95 : decode cX0_arrangeGiven 95 = .ok (.iload 6, 2) := by decide +kernel
theorem dX0_arrangeGiven_97 : decode cX0_arrangeGiven 97 = .ok (.bipush 40, 2) := by decide +kernel
theorem dX0_arrangeGiven_99 : decode cX0_arrangeGiven 99 = .ok (.imul, 1) := by decide +kernel
theorem dX0_arrangeGiven_100 : decode cX0_arrangeGiven 100 = .ok (.iload 4, 2) := by decide +kernel
theorem dX0_arrangeGiven_102 : decode cX0_arrangeGiven 102 = .ok (.iadd, 1) := by decide +kernel
theorem dX0_arrangeGiven_103 : decode cX0_arrangeGiven 103 = .ok (.laload, 1) := by decide +kernel
theorem dX0_arrangeGiven_104 : decode cX0_arrangeGiven 104 = .ok (.ldc2_w 30, 3) := by decide +kernel
theorem dX0_arrangeGiven_107 : decode cX0_arrangeGiven 107 = .ok (.lcmp, 1) := by decide +kernel
theorem dX0_arrangeGiven_108 : decode cX0_arrangeGiven 108 = .ok (.ifCond .ge 15, 3) := by decide +kernel
theorem dX0_arrangeGiven_111 : decode cX0_arrangeGiven 111 = .ok (.aload_n 0, 1) := by decide +kernel
theorem dX0_arrangeGiven_112 : decode cX0_arrangeGiven 112 = .ok (.aload_n 1, 1) := by decide +kernel
theorem dX0_arrangeGiven_113 : decode cX0_arrangeGiven 113 = .ok (.iload_n 2, 1) := by decide +kernel
theorem dX0_arrangeGiven_114 : decode cX0_arrangeGiven 114 = .ok (.iload 4, 2) := by decide +kernel
theorem dX0_arrangeGiven_116 : decode cX0_arrangeGiven 116 = .ok (.iload 5, 2) := by decide +kernel
theorem dX0_arrangeGiven_118 : decode cX0_arrangeGiven 118 = .ok (.iload 6, 2) := by decide +kernel
theorem dX0_arrangeGiven_120 : decode cX0_arrangeGiven 120 = .ok (.invokevirtual 147, 3) := by decide +kernel
theorem dX0_arrangeGiven_123 : decode cX0_arrangeGiven 123 = .ok (.iinc 6 1, 3) := by decide +kernel
theorem dX0_arrangeGiven_126 : decode cX0_arrangeGiven 126 = .ok (.goto (-59), 3) := by decide +kernel
theorem dX0_arrangeGiven_129 : decode cX0_arrangeGiven 129 = .ok (.iinc 5 1, 3) := by decide +kernel
theorem dX0_arrangeGiven_132 : decode cX0_arrangeGiven 132 = .ok (.goto (-107), 3) := by decide +kernel
theorem dX0_arrangeGiven_135 : decode cX0_arrangeGiven 135 = .ok (.iinc 4 1, 3) := by decide +kernel
theorem dX0_arrangeGiven_138 : decode cX0_arrangeGiven 138 = .ok (.goto (-125), 3) := by decide +kernel
theorem dX0_arrangeGiven_141 : decode cX0_arrangeGiven 141 = .ok (.return_, 1) := by decide +kernel
theorem dX3_begin_0 : decode cX3_begin 0 = .ok (.aload_n 0, 1) := by decide +kernel
theorem dX3_begin_1 : decode cX3_begin 1 = .ok (.getfield 12, 3) := by decide +kernel
theorem dX3_begin_4 : decode cX3_begin 4 = .ok (.aload_n 1, 1) := by decide +kernel
theorem dX3_begin_5 : decode cX3_begin 5 = .ok (.invokevirtual 36, 3) := by decide +kernel
theorem dX3_begin_8 : decode cX3_begin 8 = .ok (.aload_n 0, 1) := by decide +kernel
theorem dX3_begin_9 : decode cX3_begin 9 = .ok (.getfield 22, 3) := by decide +kernel
theorem dX3_begin_12 : decode cX3_begin 12 = .ok (.iconst (-1), 1) := by decide +kernel
theorem dX3_begin_13 : decode cX3_begin 13 = .ok (.invokestatic 40, 3) := by decide +kernel
theorem dX3_begin_16 : decode cX3_begin 16 = .ok (.aload_n 0, 1) := by decide +kernel
theorem dX3_begin_17 : decode cX3_begin 17 = .ok (.getfield 26, 3) := by decide +kernel
theorem dX3_begin_20 : decode cX3_begin 20 = .ok (.iconst 0, 1) := by decide +kernel
theorem dX3_begin_21 : decode cX3_begin 21 = .ok (.invokestatic 40, 3) := by decide +kernel
theorem dX3_begin_24 : decode cX3_begin 24 = .ok (.aload_n 0, 1) := by decide +kernel
theorem dX3_begin_25 : decode cX3_begin 25 = .ok (.getfield 29, 3) := by decide +kernel
theorem dX3_begin_28 : decode cX3_begin 28 = .ok (.iconst 0, 1) := by decide +kernel
theorem dX3_begin_29 : decode cX3_begin 29 = .ok (.invokestatic 40, 3) := by decide +kernel
theorem dX3_begin_32 : decode cX3_begin 32 = .ok (.iconst 0, 1) := by decide +kernel
theorem dX3_begin_33 : decode cX3_begin 33 = .ok (.istore_n 2, 1) := by decide +kernel
theorem dX3_begin_34 : decode cX3_begin 34 = .ok (.iload_n 2, 1) := by decide +kernel
theorem dX3_begin_35 : decode cX3_begin 35 = .ok (.bipush 40, 2) := by decide +kernel
theorem dX3_begin_37 : decode cX3_begin 37 = .ok (.if_icmp .ge 16, 3) := by decide +kernel
theorem dX3_begin_40 : decode cX3_begin 40 = .ok (.aload_n 0, 1) := by decide +kernel
theorem dX3_begin_41 : decode cX3_begin 41 = .ok (.getfield 18, 3) := by decide +kernel
theorem dX3_begin_44 : decode cX3_begin 44 = .ok (.iload_n 2, 1) := by decide +kernel
theorem dX3_begin_45 : decode cX3_begin 45 = .ok (.iconst 0, 1) := by decide +kernel
theorem dX3_begin_46 : decode cX3_begin 46 = .ok (.bastore, 1) := by decide +kernel
theorem dX3_begin_47 : decode cX3_begin 47 = .ok (.iinc 2 1, 3) := by decide +kernel
theorem dX3_begin_50 : decode cX3_begin 50 = .ok (.goto (-16), 3) := by decide +kernel
theorem dX3_begin_53 : decode cX3_begin 53 = .ok (.aload_n 0, 1) := by decide +kernel
theorem dX3_begin_54 : decode cX3_begin 54 = .ok (.iconst (-1), 1) := by decide +kernel
theorem dX3_begin_55 : decode cX3_begin 55 = .ok (.putfield 32, 3) := by decide +kernel
theorem dX3_begin_58 : decode cX3_begin 58 = .ok (.return_, 1) := by decide +kernel
theorem dX3_buys_0 : decode cX3_buys 0 = .ok (.aload_n 0, 1) := by decide +kernel
theorem dX3_buys_1 : decode cX3_buys 1 = .ok (.iload_n 1, 1) := by decide +kernel
theorem dX3_buys_2 : decode cX3_buys 2 = .ok (.iload_n 2, 1) := by decide +kernel
theorem dX3_buys_3 : decode cX3_buys 3 = .ok (.invokevirtual 95, 3) := by decide +kernel
theorem dX3_buys_6 : decode cX3_buys 6 = .ok (.ifCond .eq 12, 3) := by decide +kernel
theorem dX3_buys_9 : decode cX3_buys 9 = .ok (.aload_n 0, 1) := by decide +kernel
theorem dX3_buys_10 : decode cX3_buys 10 = .ok (.getfield 18, 3) := by decide +kernel
theorem dX3_buys_13 : decode cX3_buys 13 = .ok (.iload_n 2, 1) := by decide +kernel
theorem dX3_buys_14 : decode cX3_buys 14 = .ok (.baload, 1) := by decide +kernel
theorem dX3_buys_15 : decode cX3_buys 15 = .ok (.ifCond .eq 5, 3) := by decide +kernel
theorem dX3_buys_18 : decode cX3_buys 18 = .ok (.iconst 0, 1) := by decide +kernel
theorem dX3_buys_19 : decode cX3_buys 19 = .ok (.ireturn, 1) := by decide +kernel
theorem dX3_buys_20 : decode cX3_buys 20 = .ok (.aload_n 0, 1) := by decide +kernel
theorem dX3_buys_21 : decode cX3_buys 21 = .ok (.getfield 12, 3) := by decide +kernel
theorem dX3_buys_24 : decode cX3_buys 24 = .ok (.getfield 98, 3) := by decide +kernel
theorem dX3_buys_27 : decode cX3_buys 27 = .ok (.iload_n 2, 1) := by decide +kernel
theorem dX3_buys_28 : decode cX3_buys 28 = .ok (.iaload, 1) := by decide +kernel
theorem dX3_buys_29 : decode cX3_buys 29 = .ok (.istore_n 3, 1) := by decide +kernel
theorem dX3_buys_30 : decode cX3_buys 30 = .ok (.aload_n 0, 1) := by decide +kernel
theorem dX3_buys_31 : decode cX3_buys 31 = .ok (.getfield 12, 3) := by decide +kernel
theorem dX3_buys_34 : decode cX3_buys 34 = .ok (.getfield 92, 3) := by decide +kernel
theorem dX3_buys_37 : decode cX3_buys 37 = .ok (.iload_n 2, 1) := by decide +kernel
theorem dX3_buys_38 : decode cX3_buys 38 = .ok (.iaload, 1) := by decide +kernel
theorem dX3_buys_39 : decode cX3_buys 39 = .ok (.istore 4, 2) := by decide +kernel
theorem dX3_buys_41 : decode cX3_buys 41 = .ok (.iload 4, 2) := by decide +kernel
theorem dX3_buys_43 : decode cX3_buys 43 = .ok (.iload_n 1, 1) := by decide +kernel
theorem dX3_buys_44 : decode cX3_buys 44 = .ok (.if_icmp .eq 16, 3) := by decide +kernel
theorem dX3_buys_47 : decode cX3_buys 47 = .ok (.aload_n 0, 1) := by decide +kernel
theorem dX3_buys_48 : decode cX3_buys 48 = .ok (.getfield 12, 3) := by decide +kernel
theorem dX3_buys_51 : decode cX3_buys 51 = .ok (.getfield 101, 3) := by decide +kernel
theorem dX3_buys_54 : decode cX3_buys 54 = .ok (.iload_n 1, 1) := by decide +kernel
theorem dX3_buys_55 : decode cX3_buys 55 = .ok (.iaload, 1) := by decide +kernel
theorem dX3_buys_56 : decode cX3_buys 56 = .ok (.iload_n 3, 1) := by decide +kernel
theorem dX3_buys_57 : decode cX3_buys 57 = .ok (.if_icmp .ge 5, 3) := by decide +kernel
theorem dX3_buys_60 : decode cX3_buys 60 = .ok (.iconst 0, 1) := by decide +kernel
theorem dX3_buys_61 : decode cX3_buys 61 = .ok (.ireturn, 1) := by decide +kernel
theorem dX3_buys_62 : decode cX3_buys 62 = .ok (.aload_n 0, 1) := by decide +kernel
theorem dX3_buys_63 : decode cX3_buys 63 = .ok (.getfield 12, 3) := by decide +kernel
theorem dX3_buys_66 : decode cX3_buys 66 = .ok (.getfield 101, 3) := by decide +kernel
theorem dX3_buys_69 : decode cX3_buys 69 = .ok (.iload_n 1, 1) := by decide +kernel
theorem dX3_buys_70 : decode cX3_buys 70 = .ok (.dup2, 1) := by decide +kernel
theorem dX3_buys_71 : decode cX3_buys 71 = .ok (.iaload, 1) := by decide +kernel
theorem dX3_buys_72 : decode cX3_buys 72 = .ok (.iload_n 3, 1) := by decide +kernel
theorem dX3_buys_73 : decode cX3_buys 73 = .ok (.isub, 1) := by decide +kernel
theorem dX3_buys_74 : decode cX3_buys 74 = .ok (.iastore, 1) := by decide +kernel
theorem dX3_buys_75 : decode cX3_buys 75 = .ok (.iload 4, 2) := by decide +kernel
theorem dX3_buys_77 : decode cX3_buys 77 = .ok (.ifCond .lt 17, 3) := by decide +kernel
theorem dX3_buys_80 : decode cX3_buys 80 = .ok (.aload_n 0, 1) := by decide +kernel
theorem dX3_buys_81 : decode cX3_buys 81 = .ok (.getfield 12, 3) := by decide +kernel
theorem dX3_buys_84 : decode cX3_buys 84 = .ok (.getfield 101, 3) := by decide +kernel
theorem dX3_buys_87 : decode cX3_buys 87 = .ok (.iload 4, 2) := by decide +kernel
theorem dX3_buys_89 : decode cX3_buys 89 = .ok (.dup2, 1) := by decide +kernel
theorem dX3_buys_90 : decode cX3_buys 90 = .ok (.iaload, 1) := by decide +kernel
theorem dX3_buys_91 : decode cX3_buys 91 = .ok (.iload_n 3, 1) := by decide +kernel
theorem dX3_buys_92 : decode cX3_buys 92 = .ok (.iadd, 1) := by decide +kernel
theorem dX3_buys_93 : decode cX3_buys 93 = .ok (.iastore, 1) := by decide +kernel
theorem dX3_buys_94 : decode cX3_buys 94 = .ok (.aload_n 0, 1) := by decide +kernel
theorem dX3_buys_95 : decode cX3_buys 95 = .ok (.iload_n 2, 1) := by decide +kernel
theorem dX3_buys_96 : decode cX3_buys 96 = .ok (.iload_n 1, 1) := by decide +kernel
theorem dX3_buys_97 : decode cX3_buys 97 = .ok (.invokevirtual 104, 3) := by decide +kernel
theorem dX3_buys_100 : decode cX3_buys 100 = .ok (.iconst 1, 1) := by decide +kernel
theorem dX3_buys_101 : decode cX3_buys 101 = .ok (.ireturn, 1) := by decide +kernel
theorem dX3_sells_0 : decode cX3_sells 0 = .ok (.aload_n 0, 1) := by decide +kernel
theorem dX3_sells_1 : decode cX3_sells 1 = .ok (.iload_n 1, 1) := by decide +kernel
theorem dX3_sells_2 : decode cX3_sells 2 = .ok (.iload_n 2, 1) := by decide +kernel
theorem dX3_sells_3 : decode cX3_sells 3 = .ok (.invokevirtual 95, 3) := by decide +kernel
theorem dX3_sells_6 : decode cX3_sells 6 = .ok (.ifCond .eq 12, 3) := by decide +kernel
theorem dX3_sells_9 : decode cX3_sells 9 = .ok (.aload_n 0, 1) := by decide +kernel
theorem dX3_sells_10 : decode cX3_sells 10 = .ok (.iload_n 1, 1) := by decide +kernel
theorem dX3_sells_11 : decode cX3_sells 11 = .ok (.iload_n 2, 1) := by decide +kernel
theorem dX3_sells_12 : decode cX3_sells 12 = .ok (.invokevirtual 108, 3) := by decide +kernel
theorem dX3_sells_15 : decode cX3_sells 15 = .ok (.ifCond .ne 5, 3) := by decide +kernel
theorem dX3_sells_18 : decode cX3_sells 18 = .ok (.iconst 0, 1) := by decide +kernel
theorem dX3_sells_19 : decode cX3_sells 19 = .ok (.ireturn, 1) := by decide +kernel
theorem dX3_sells_20 : decode cX3_sells 20 = .ok (.aload_n 0, 1) := by decide +kernel
theorem dX3_sells_21 : decode cX3_sells 21 = .ok (.getfield 12, 3) := by decide +kernel
theorem dX3_sells_24 : decode cX3_sells 24 = .ok (.getfield 101, 3) := by decide +kernel
theorem dX3_sells_27 : decode cX3_sells 27 = .ok (.iload_n 1, 1) := by decide +kernel
theorem dX3_sells_28 : decode cX3_sells 28 = .ok (.dup2, 1) := by decide +kernel
theorem dX3_sells_29 : decode cX3_sells 29 = .ok (.iaload, 1) := by decide +kernel
theorem dX3_sells_30 : decode cX3_sells 30 = .ok (.aload_n 0, 1) := by decide +kernel
theorem dX3_sells_31 : decode cX3_sells 31 = .ok (.getfield 12, 3) := by decide +kernel
theorem dX3_sells_34 : decode cX3_sells 34 = .ok (.getfield 98, 3) := by decide +kernel
theorem dX3_sells_37 : decode cX3_sells 37 = .ok (.iload_n 2, 1) := by decide +kernel
theorem dX3_sells_38 : decode cX3_sells 38 = .ok (.iaload, 1) := by decide +kernel
theorem dX3_sells_39 : decode cX3_sells 39 = .ok (.iadd, 1) := by decide +kernel
theorem dX3_sells_40 : decode cX3_sells 40 = .ok (.iastore, 1) := by decide +kernel
theorem dX3_sells_41 : decode cX3_sells 41 = .ok (.aload_n 0, 1) := by decide +kernel
theorem dX3_sells_42 : decode cX3_sells 42 = .ok (.iload_n 2, 1) := by decide +kernel
theorem dX3_sells_43 : decode cX3_sells 43 = .ok (.iconst (-1), 1) := by decide +kernel
theorem dX3_sells_44 : decode cX3_sells 44 = .ok (.invokevirtual 104, 3) := by decide +kernel
theorem dX3_sells_47 : decode cX3_sells 47 = .ok (.iconst 1, 1) := by decide +kernel
theorem dX3_sells_48 : decode cX3_sells 48 = .ok (.ireturn, 1) := by decide +kernel
theorem dX3_thinks_0 : decode cX3_thinks 0 = .ok (.aload_n 0, 1) := by decide +kernel
theorem dX3_thinks_1 : decode cX3_thinks 1 = .ok (.iload_n 1, 1) := by decide +kernel
theorem dX3_thinks_2 : decode cX3_thinks 2 = .ok (.iload_n 2, 1) := by decide +kernel
theorem dX3_thinks_3 : decode cX3_thinks 3 = .ok (.invokevirtual 95, 3) := by decide +kernel
theorem dX3_thinks_6 : decode cX3_thinks 6 = .ok (.ifCond .eq 12, 3) := by decide +kernel
theorem dX3_thinks_9 : decode cX3_thinks 9 = .ok (.aload_n 0, 1) := by decide +kernel
theorem dX3_thinks_10 : decode cX3_thinks 10 = .ok (.iload_n 1, 1) := by decide +kernel
theorem dX3_thinks_11 : decode cX3_thinks 11 = .ok (.iload_n 2, 1) := by decide +kernel
theorem dX3_thinks_12 : decode cX3_thinks 12 = .ok (.invokevirtual 108, 3) := by decide +kernel
theorem dX3_thinks_15 : decode cX3_thinks 15 = .ok (.ifCond .ne 5, 3) := by decide +kernel
theorem dX3_thinks_18 : decode cX3_thinks 18 = .ok (.iconst 0, 1) := by decide +kernel
theorem dX3_thinks_19 : decode cX3_thinks 19 = .ok (.ireturn, 1) := by decide +kernel
theorem dX3_thinks_20 : decode cX3_thinks 20 = .ok (.aload_n 0, 1) := by decide +kernel
theorem dX3_thinks_21 : decode cX3_thinks 21 = .ok (.getfield 18, 3) := by decide +kernel
theorem dX3_thinks_24 : decode cX3_thinks 24 = .ok (.iload_n 2, 1) := by decide +kernel
theorem dX3_thinks_25 : decode cX3_thinks 25 = .ok (.iconst 1, 1) := by decide +kernel
theorem dX3_thinks_26 : decode cX3_thinks 26 = .ok (.bastore, 1) := by decide +kernel
theorem dX3_thinks_27 : decode cX3_thinks 27 = .ok (.aload_n 0, 1) := by decide +kernel
theorem dX3_thinks_28 : decode cX3_thinks 28 = .ok (.getfield 32, 3) := by decide +kernel
theorem dX3_thinks_31 : decode cX3_thinks 31 = .ok (.iconst (-1), 1) := by decide +kernel
theorem dX3_thinks_32 : decode cX3_thinks 32 = .ok (.if_icmp .ne 8, 3) := by decide +kernel
theorem dX3_thinks_35 : decode cX3_thinks 35 = .ok (.aload_n 0, 1) := by decide +kernel
theorem dX3_thinks_36 : decode cX3_thinks 36 = .ok (.iload_n 1, 1) := by decide +kernel
theorem dX3_thinks_37 : decode cX3_thinks 37 = .ok (.putfield 32, 3) := by decide +kernel
theorem dX3_thinks_40 : decode cX3_thinks 40 = .ok (.iconst 1, 1) := by decide +kernel
theorem dX3_thinks_41 : decode cX3_thinks 41 = .ok (.ireturn, 1) := by decide +kernel
theorem dX3_steals_0 : decode cX3_steals 0 = .ok (.aload_n 0, 1) := by decide +kernel
theorem dX3_steals_1 : decode cX3_steals 1 = .ok (.iload_n 1, 1) := by decide +kernel
theorem dX3_steals_2 : decode cX3_steals 2 = .ok (.iload_n 2, 1) := by decide +kernel
theorem dX3_steals_3 : decode cX3_steals 3 = .ok (.invokevirtual 95, 3) := by decide +kernel
theorem dX3_steals_6 : decode cX3_steals 6 = .ok (.ifCond .eq 12, 3) := by decide +kernel
theorem dX3_steals_9 : decode cX3_steals 9 = .ok (.aload_n 0, 1) := by decide +kernel
theorem dX3_steals_10 : decode cX3_steals 10 = .ok (.getfield 18, 3) := by decide +kernel
theorem dX3_steals_13 : decode cX3_steals 13 = .ok (.iload_n 2, 1) := by decide +kernel
theorem dX3_steals_14 : decode cX3_steals 14 = .ok (.baload, 1) := by decide +kernel
theorem dX3_steals_15 : decode cX3_steals 15 = .ok (.ifCond .eq 5, 3) := by decide +kernel
theorem dX3_steals_18 : decode cX3_steals 18 = .ok (.iconst 0, 1) := by decide +kernel
theorem dX3_steals_19 : decode cX3_steals 19 = .ok (.ireturn, 1) := by decide +kernel
theorem dX3_steals_20 : decode cX3_steals 20 = .ok (.aload_n 0, 1) := by decide +kernel
theorem dX3_steals_21 : decode cX3_steals 21 = .ok (.getfield 12, 3) := by decide +kernel
theorem dX3_steals_24 : decode cX3_steals 24 = .ok (.getfield 92, 3) := by decide +kernel
theorem dX3_steals_27 : decode cX3_steals 27 = .ok (.iload_n 2, 1) := by decide +kernel
theorem dX3_steals_28 : decode cX3_steals 28 = .ok (.iaload, 1) := by decide +kernel
theorem dX3_steals_29 : decode cX3_steals 29 = .ok (.istore_n 3, 1) := by decide +kernel
theorem dX3_steals_30 : decode cX3_steals 30 = .ok (.iload_n 3, 1) := by decide +kernel
theorem dX3_steals_31 : decode cX3_steals 31 = .ok (.ifCond .lt 8, 3) := by decide +kernel
theorem dX3_steals_34 : decode cX3_steals 34 = .ok (.iload_n 3, 1) := by decide +kernel
theorem dX3_steals_35 : decode cX3_steals 35 = .ok (.iload_n 1, 1) := by decide +kernel
theorem dX3_steals_36 : decode cX3_steals 36 = .ok (.if_icmp .ne 5, 3) := by decide +kernel
theorem dX3_steals_39 : decode cX3_steals 39 = .ok (.iconst 0, 1) := by decide +kernel
theorem dX3_steals_40 : decode cX3_steals 40 = .ok (.ireturn, 1) := by decide +kernel
theorem dX3_steals_41 : decode cX3_steals 41 = .ok (.aload_n 0, 1) := by decide +kernel
theorem dX3_steals_42 : decode cX3_steals 42 = .ok (.getfield 26, 3) := by decide +kernel
theorem dX3_steals_45 : decode cX3_steals 45 = .ok (.iload_n 3, 1) := by decide +kernel
theorem dX3_steals_46 : decode cX3_steals 46 = .ok (.dup2, 1) := by decide +kernel
theorem dX3_steals_47 : decode cX3_steals 47 = .ok (.iaload, 1) := by decide +kernel
theorem dX3_steals_48 : decode cX3_steals 48 = .ok (.iconst 1, 1) := by decide +kernel
theorem dX3_steals_49 : decode cX3_steals 49 = .ok (.iadd, 1) := by decide +kernel
theorem dX3_steals_50 : decode cX3_steals 50 = .ok (.iastore, 1) := by decide +kernel
theorem dX3_steals_51 : decode cX3_steals 51 = .ok (.aload_n 0, 1) := by decide +kernel
theorem dX3_steals_52 : decode cX3_steals 52 = .ok (.iload_n 2, 1) := by decide +kernel
theorem dX3_steals_53 : decode cX3_steals 53 = .ok (.iload_n 1, 1) := by decide +kernel
theorem dX3_steals_54 : decode cX3_steals 54 = .ok (.invokevirtual 104, 3) := by decide +kernel
theorem dX3_steals_57 : decode cX3_steals 57 = .ok (.iconst 1, 1) := by decide +kernel
theorem dX3_steals_58 : decode cX3_steals 58 = .ok (.ireturn, 1) := by decide +kernel
theorem dX3_does_0 : decode cX3_does 0 = .ok (.aload_n 0, 1) := by decide +kernel
theorem dX3_does_1 : decode cX3_does 1 = .ok (.iload_n 1, 1) := by decide +kernel
theorem dX3_does_2 : decode cX3_does 2 = .ok (.iload_n 3, 1) := by decide +kernel
theorem dX3_does_3 : decode cX3_does 3 = .ok (.invokevirtual 95, 3) := by decide +kernel
theorem dX3_does_6 : decode cX3_does 6 = .ok (.ifCond .eq 14, 3) := by decide +kernel
theorem dX3_does_9 : decode cX3_does 9 = .ok (.aload_n 0, 1) := by decide +kernel
theorem dX3_does_10 : decode cX3_does 10 = .ok (.getfield 12, 3) := by decide +kernel
theorem dX3_does_13 : decode cX3_does 13 = .ok (.iload_n 2, 1) := by decide +kernel
theorem dX3_does_14 : decode cX3_does 14 = .ok (.invokevirtual 111, 3) := by decide +kernel
theorem dX3_does_17 : decode cX3_does 17 = .ok (.ifCond .ne 5, 3) := by decide +kernel
theorem dX3_does_20 : decode cX3_does 20 = .ok (.iconst 0, 1) := by decide +kernel
theorem dX3_does_21 : decode cX3_does 21 = .ok (.ireturn, 1) := by decide +kernel
theorem dX3_does_22 : decode cX3_does 22 = .ok (.aload_n 0, 1) := by decide +kernel
theorem dX3_does_23 : decode cX3_does 23 = .ok (.getfield 22, 3) := by decide +kernel
theorem dX3_does_26 : decode cX3_does 26 = .ok (.iload_n 2, 1) := by decide +kernel
theorem dX3_does_27 : decode cX3_does 27 = .ok (.iaload, 1) := by decide +kernel
theorem dX3_does_28 : decode cX3_does 28 = .ok (.iconst (-1), 1) := by decide +kernel
theorem dX3_does_29 : decode cX3_does 29 = .ok (.if_icmp .ne 20, 3) := by decide +kernel
theorem dX3_does_32 : decode cX3_does 32 = .ok (.aload_n 0, 1) := by decide +kernel
theorem dX3_does_33 : decode cX3_does 33 = .ok (.getfield 12, 3) := by decide +kernel
theorem dX3_does_36 : decode cX3_does 36 = .ok (.iload_n 2, 1) := by decide +kernel
theorem dX3_does_37 : decode cX3_does 37 = .ok (.iload_n 3, 1) := by decide +kernel
theorem dX3_does_38 : decode cX3_does 38 = .ok (.aload_n 0, 1) := by decide +kernel
theorem dX3_does_39 : decode cX3_does 39 = .ok (.iload_n 1, 1) := by decide +kernel
theorem dX3_does_40 : decode cX3_does 40 = .ok (.invokevirtual 114, 3) := by decide +kernel
theorem dX3_does_43 : decode cX3_does 43 = .ok (.invokevirtual 118, 3) := by decide +kernel
theorem dX3_does_46 : decode cX3_does 46 = .ok (.ifCond .ne 5, 3) := by decide +kernel
theorem dX3_does_49 : decode cX3_does 49 = .ok (.iconst 0, 1) := by decide +kernel
theorem dX3_does_50 : decode cX3_does 50 = .ok (.ireturn, 1) := by decide +kernel
theorem dX3_does_51 : decode cX3_does 51 = .ok (.iload_n 3, 1) := by decide +kernel
theorem dX3_does_52 : decode cX3_does 52 = .ok (.istore 4, 2) := by decide +kernel
theorem dX3_does_54 : decode cX3_does 54 = .ok (.iload 4, 2) := by decide +kernel
theorem dX3_does_56 : decode cX3_does 56 = .ok (.iload_n 3, 1) := by decide +kernel
theorem dX3_does_57 : decode cX3_does 57 = .ok (.aload_n 0, 1) := by decide +kernel
theorem dX3_does_58 : decode cX3_does 58 = .ok (.getfield 12, 3) := by decide +kernel
theorem dX3_does_61 : decode cX3_does 61 = .ok (.getfield 122, 3) := by decide +kernel
theorem dX3_does_64 : decode cX3_does 64 = .ok (.iload_n 2, 1) := by decide +kernel
theorem dX3_does_65 : decode cX3_does 65 = .ok (.iaload, 1) := by decide +kernel
theorem dX3_does_66 : decode cX3_does 66 = .ok (.iadd, 1) := by decide +kernel
theorem dX3_does_67 : decode cX3_does 67 = .ok (.if_icmp .ge 17, 3) := by decide +kernel
theorem dX3_does_70 : decode cX3_does 70 = .ok (.aload_n 0, 1) := by decide +kernel
theorem dX3_does_71 : decode cX3_does 71 = .ok (.getfield 18, 3) := by decide +kernel
theorem dX3_does_74 : decode cX3_does 74 = .ok (.iload 4, 2) := by decide +kernel
theorem dX3_does_76 : decode cX3_does 76 = .ok (.iconst 1, 1) := by decide +kernel
theorem dX3_does_77 : decode cX3_does 77 = .ok (.bastore, 1) := by decide +kernel
theorem dX3_does_78 : decode cX3_does 78 = .ok (.iinc 4 1, 3) := by decide +kernel
theorem dX3_does_81 : decode cX3_does 81 = .ok (.goto (-27), 3) := by decide +kernel
theorem dX3_does_84 : decode cX3_does 84 = .ok (.aload_n 0, 1) := by decide +kernel
theorem dX3_does_85 : decode cX3_does 85 = .ok (.getfield 22, 3) := by decide +kernel
theorem dX3_does_88 : decode cX3_does 88 = .ok (.iload_n 2, 1) := by decide +kernel
theorem dX3_does_89 : decode cX3_does 89 = .ok (.iload_n 1, 1) := by decide +kernel
theorem dX3_does_90 : decode cX3_does 90 = .ok (.iastore, 1) := by decide +kernel
theorem dX3_does_91 : decode cX3_does 91 = .ok (.aload_n 0, 1) := by decide +kernel
theorem dX3_does_92 : decode cX3_does 92 = .ok (.getfield 12, 3) := by decide +kernel
theorem dX3_does_95 : decode cX3_does 95 = .ok (.getfield 101, 3) := by decide +kernel
theorem dX3_does_98 : decode cX3_does 98 = .ok (.iload_n 1, 1) := by decide +kernel
theorem dX3_does_99 : decode cX3_does 99 = .ok (.dup2, 1) := by decide +kernel
theorem dX3_does_100 : decode cX3_does 100 = .ok (.iaload, 1) := by decide +kernel
theorem dX3_does_101 : decode cX3_does 101 = .ok (.aload_n 0, 1) := by decide +kernel
theorem dX3_does_102 : decode cX3_does 102 = .ok (.getfield 12, 3) := by decide +kernel
theorem dX3_does_105 : decode cX3_does 105 = .ok (.getfield 125, 3) := by decide +kernel
theorem dX3_does_108 : decode cX3_does 108 = .ok (.iload_n 2, 1) := by decide +kernel
theorem dX3_does_109 : decode cX3_does 109 = .ok (.iaload, 1) := by decide +kernel
theorem dX3_does_110 : decode cX3_does 110 = .ok (.iadd, 1) := by decide +kernel
theorem dX3_does_111 : decode cX3_does 111 = .ok (.iastore, 1) := by decide +kernel
theorem dX3_does_112 : decode cX3_does 112 = .ok (.iconst 1, 1) := by decide +kernel
theorem dX3_does_113 : decode cX3_does 113 = .ok (.ireturn, 1) := by decide +kernel
theorem dX3_answer_0 : decode cX3_answer 0 = .ok (.iload_n 1, 1) := by decide +kernel
theorem dX3_answer_1 : decode cX3_answer 1 = .ok (.tableswitch 42 0 2 #[27, 32, 37], 27) := by decide +kernel
theorem dX3_answer_28 : decode cX3_answer 28 = .ok (.aload_n 0, 1) := by decide +kernel
theorem dX3_answer_29 : decode cX3_answer 29 = .ok (.invokevirtual 154, 3) := by decide +kernel
theorem dX3_answer_32 : decode cX3_answer 32 = .ok (.ireturn, 1) := by decide +kernel
theorem dX3_answer_33 : decode cX3_answer 33 = .ok (.aload_n 0, 1) := by decide +kernel
theorem dX3_answer_34 : decode cX3_answer 34 = .ok (.invokevirtual 158, 3) := by decide +kernel
theorem dX3_answer_37 : decode cX3_answer 37 = .ok (.ireturn, 1) := by decide +kernel
theorem dX3_answer_38 : decode cX3_answer 38 = .ok (.aload_n 0, 1) := by decide +kernel
theorem dX3_answer_39 : decode cX3_answer 39 = .ok (.invokevirtual 161, 3) := by decide +kernel
theorem dX3_answer_42 : decode cX3_answer 42 = .ok (.ireturn, 1) := by decide +kernel
theorem dX3_answer_43 : decode cX3_answer 43 = .ok (.aload_n 0, 1) := by decide +kernel
theorem dX3_answer_44 : decode cX3_answer 44 = .ok (.iload_n 1, 1) := by decide +kernel
theorem dX3_answer_45 : decode cX3_answer 45 = .ok (.invokevirtual 164, 3) := by decide +kernel
theorem dX3_answer_48 : decode cX3_answer 48 = .ok (.ireturn, 1) := by decide +kernel
theorem dX4_clear_0 : decode cX4_clear 0 = .ok (.aload_n 0, 1) := by decide +kernel
theorem dX4_clear_1 : decode cX4_clear 1 = .ok (.getfield 21, 3) := by decide +kernel
theorem dX4_clear_4 : decode cX4_clear 4 = .ok (.invokevirtual 73, 3) := by decide +kernel
theorem dX4_clear_7 : decode cX4_clear 7 = .ok (.aload_n 0, 1) := by decide +kernel
theorem dX4_clear_8 : decode cX4_clear 8 = .ok (.getfield 30, 3) := by decide +kernel
theorem dX4_clear_11 : decode cX4_clear 11 = .ok (.iconst 0, 1) := by decide +kernel
theorem dX4_clear_12 : decode cX4_clear 12 = .ok (.putfield 74, 3) := by decide +kernel
theorem dX4_clear_15 : decode cX4_clear 15 = .ok (.aload_n 0, 1) := by decide +kernel
theorem dX4_clear_16 : decode cX4_clear 16 = .ok (.getfield 34, 3) := by decide +kernel
theorem dX4_clear_19 : decode cX4_clear 19 = .ok (.iconst 0, 1) := by decide +kernel
theorem dX4_clear_20 : decode cX4_clear 20 = .ok (.putfield 74, 3) := by decide +kernel
theorem dX4_clear_23 : decode cX4_clear 23 = .ok (.aload_n 0, 1) := by decide +kernel
theorem dX4_clear_24 : decode cX4_clear 24 = .ok (.getfield 40, 3) := by decide +kernel
theorem dX4_clear_27 : decode cX4_clear 27 = .ok (.invokevirtual 77, 3) := by decide +kernel
theorem dX4_clear_30 : decode cX4_clear 30 = .ok (.aload_n 0, 1) := by decide +kernel
theorem dX4_clear_31 : decode cX4_clear 31 = .ok (.iconst 0, 1) := by decide +kernel
theorem dX4_clear_32 : decode cX4_clear 32 = .ok (.putfield 59, 3) := by decide +kernel
theorem dX4_clear_35 : decode cX4_clear 35 = .ok (.aload_n 0, 1) := by decide +kernel
theorem dX4_clear_36 : decode cX4_clear 36 = .ok (.iconst (-1), 1) := by decide +kernel
theorem dX4_clear_37 : decode cX4_clear 37 = .ok (.putfield 78, 3) := by decide +kernel
theorem dX4_clear_40 : decode cX4_clear 40 = .ok (.aload_n 0, 1) := by decide +kernel
theorem dX4_clear_41 : decode cX4_clear 41 = .ok (.iconst 0, 1) := by decide +kernel
theorem dX4_clear_42 : decode cX4_clear 42 = .ok (.putfield 81, 3) := by decide +kernel
theorem dX4_clear_45 : decode cX4_clear 45 = .ok (.aload_n 0, 1) := by decide +kernel
theorem dX4_clear_46 : decode cX4_clear 46 = .ok (.iconst (-1), 1) := by decide +kernel
theorem dX4_clear_47 : decode cX4_clear 47 = .ok (.putfield 84, 3) := by decide +kernel
theorem dX4_clear_50 : decode cX4_clear 50 = .ok (.aload_n 0, 1) := by decide +kernel
theorem dX4_clear_51 : decode cX4_clear 51 = .ok (.iconst (-1), 1) := by decide +kernel
theorem dX4_clear_52 : decode cX4_clear 52 = .ok (.putfield 87, 3) := by decide +kernel
theorem dX4_clear_55 : decode cX4_clear 55 = .ok (.return_, 1) := by decide +kernel
theorem dX4_numberOrNone_0 : decode cX4_numberOrNone 0 = .ok (.iload_n 2, 1) := by decide +kernel
theorem dX4_numberOrNone_1 : decode cX4_numberOrNone 1 = .ok (.iload_n 1, 1) := by decide +kernel
theorem dX4_numberOrNone_2 : decode cX4_numberOrNone 2 = .ok (.invokestatic 119, 3) := by decide +kernel
theorem dX4_numberOrNone_5 : decode cX4_numberOrNone 5 = .ok (.invokevirtual 123, 3) := by decide +kernel
theorem dX4_numberOrNone_8 : decode cX4_numberOrNone 8 = .ok (.if_icmp .ge 12, 3) := by decide +kernel
theorem dX4_numberOrNone_11 : decode cX4_numberOrNone 11 = .ok (.aload_n 0, 1) := by decide +kernel
theorem dX4_numberOrNone_12 : decode cX4_numberOrNone 12 = .ok (.getfield 44, 3) := by decide +kernel
theorem dX4_numberOrNone_15 : decode cX4_numberOrNone 15 = .ok (.iload_n 2, 1) := by decide +kernel
theorem dX4_numberOrNone_16 : decode cX4_numberOrNone 16 = .ok (.iaload, 1) := by decide +kernel
theorem dX4_numberOrNone_17 : decode cX4_numberOrNone 17 = .ok (.goto 4, 3) := by decide +kernel
theorem dX4_numberOrNone_20 : decode cX4_numberOrNone 20 = .ok (.iconst (-1), 1) := by decide +kernel
theorem dX4_numberOrNone_21 : decode cX4_numberOrNone 21 = .ok (.ireturn, 1) := by decide +kernel
theorem dX4_tellStreet_0 : decode cX4_tellStreet 0 = .ok (.iload_n 1, 1) := by decide +kernel
theorem dX4_tellStreet_1 : decode cX4_tellStreet 1 = .ok (.tableswitch 224 0 4 #[35, 51, 67, 107, 157], 35) := by decide +kernel
theorem dX4_tellStreet_36 : decode cX4_tellStreet 36 = .ok (.aload_n 0, 1) := by decide +kernel
theorem dX4_tellStreet_37 : decode cX4_tellStreet 37 = .ok (.getfield 21, 3) := by decide +kernel
theorem dX4_tellStreet_40 : decode cX4_tellStreet 40 = .ok (.aload_n 0, 1) := by decide +kernel
theorem dX4_tellStreet_41 : decode cX4_tellStreet 41 = .ok (.getfield 44, 3) := by decide +kernel
theorem dX4_tellStreet_44 : decode cX4_tellStreet 44 = .ok (.iconst 0, 1) := by decide +kernel
theorem dX4_tellStreet_45 : decode cX4_tellStreet 45 = .ok (.iaload, 1) := by decide +kernel
theorem dX4_tellStreet_46 : decode cX4_tellStreet 46 = .ok (.putfield 90, 3) := by decide +kernel
theorem dX4_tellStreet_49 : decode cX4_tellStreet 49 = .ok (.goto 180, 3) := by decide +kernel
theorem dX4_tellStreet_52 : decode cX4_tellStreet 52 = .ok (.aload_n 0, 1) := by decide +kernel
theorem dX4_tellStreet_53 : decode cX4_tellStreet 53 = .ok (.getfield 21, 3) := by decide +kernel
theorem dX4_tellStreet_56 : decode cX4_tellStreet 56 = .ok (.aload_n 0, 1) := by decide +kernel
theorem dX4_tellStreet_57 : decode cX4_tellStreet 57 = .ok (.getfield 44, 3) := by decide +kernel
theorem dX4_tellStreet_60 : decode cX4_tellStreet 60 = .ok (.iconst 0, 1) := by decide +kernel
theorem dX4_tellStreet_61 : decode cX4_tellStreet 61 = .ok (.iaload, 1) := by decide +kernel
theorem dX4_tellStreet_62 : decode cX4_tellStreet 62 = .ok (.putfield 93, 3) := by decide +kernel
theorem dX4_tellStreet_65 : decode cX4_tellStreet 65 = .ok (.goto 164, 3) := by decide +kernel
theorem dX4_tellStreet_68 : decode cX4_tellStreet 68 = .ok (.aload_n 0, 1) := by decide +kernel
theorem dX4_tellStreet_69 : decode cX4_tellStreet 69 = .ok (.getfield 21, 3) := by decide +kernel
theorem dX4_tellStreet_72 : decode cX4_tellStreet 72 = .ok (.getfield 229, 3) := by decide +kernel
theorem dX4_tellStreet_75 : decode cX4_tellStreet 75 = .ok (.aload_n 0, 1) := by decide +kernel
theorem dX4_tellStreet_76 : decode cX4_tellStreet 76 = .ok (.getfield 44, 3) := by decide +kernel
theorem dX4_tellStreet_79 : decode cX4_tellStreet 79 = .ok (.iconst 0, 1) := by decide +kernel
theorem dX4_tellStreet_80 : decode cX4_tellStreet 80 = .ok (.iaload, 1) := by decide +kernel
theorem dX4_tellStreet_81 : decode cX4_tellStreet 81 = .ok (.aload_n 0, 1) := by decide +kernel
theorem dX4_tellStreet_82 : decode cX4_tellStreet 82 = .ok (.getfield 44, 3) := by decide +kernel
theorem dX4_tellStreet_85 : decode cX4_tellStreet 85 = .ok (.iconst 1, 1) := by decide +kernel
theorem dX4_tellStreet_86 : decode cX4_tellStreet 86 = .ok (.iaload, 1) := by decide +kernel
theorem dX4_tellStreet_87 : decode cX4_tellStreet 87 = .ok (.iastore, 1) := by decide +kernel
theorem dX4_tellStreet_88 : decode cX4_tellStreet 88 = .ok (.aload_n 0, 1) := by decide +kernel
theorem dX4_tellStreet_89 : decode cX4_tellStreet 89 = .ok (.aload_n 0, 1) := by decide +kernel
theorem dX4_tellStreet_90 : decode cX4_tellStreet 90 = .ok (.getfield 87, 3) := by decide +kernel
theorem dX4_tellStreet_93 : decode cX4_tellStreet 93 = .ok (.aload_n 0, 1) := by decide +kernel
theorem dX4_tellStreet_94 : decode cX4_tellStreet 94 = .ok (.getfield 44, 3) := by decide +kernel
theorem dX4_tellStreet_97 : decode cX4_tellStreet 97 = .ok (.iconst 0, 1) := by decide +kernel
theorem dX4_tellStreet_98 : decode cX4_tellStreet 98 = .ok (.iaload, 1) := by decide +kernel
theorem dX4_tellStreet_99 : decode cX4_tellStreet 99 = .ok (.invokestatic 231, 3) := by decide +kernel
theorem dX4_tellStreet_102 : decode cX4_tellStreet 102 = .ok (.putfield 87, 3) := by decide +kernel
theorem dX4_tellStreet_105 : decode cX4_tellStreet 105 = .ok (.goto 124, 3) := by decide +kernel
theorem dX4_tellStreet_108 : decode cX4_tellStreet 108 = .ok (.aload_n 0, 1) := by decide +kernel
theorem dX4_tellStreet_109 : decode cX4_tellStreet 109 = .ok (.getfield 21, 3) := by decide +kernel
theorem dX4_tellStreet_112 : decode cX4_tellStreet 112 = .ok (.getfield 236, 3) := by decide +kernel
theorem dX4_tellStreet_115 : decode cX4_tellStreet 115 = .ok (.aload_n 0, 1) := by decide +kernel
theorem dX4_tellStreet_116 : decode cX4_tellStreet 116 = .ok (.getfield 44, 3) := by decide +kernel
theorem dX4_tellStreet_119 : decode cX4_tellStreet 119 = .ok (.iconst 0, 1) := by decide +kernel
theorem dX4_tellStreet_120 : decode cX4_tellStreet 120 = .ok (.iaload, 1) := by decide +kernel
theorem dX4_tellStreet_121 : decode cX4_tellStreet 121 = .ok (.aload_n 0, 1) := by decide +kernel
theorem dX4_tellStreet_122 : decode cX4_tellStreet 122 = .ok (.getfield 44, 3) := by decide +kernel
theorem dX4_tellStreet_125 : decode cX4_tellStreet 125 = .ok (.iconst 1, 1) := by decide +kernel
theorem dX4_tellStreet_126 : decode cX4_tellStreet 126 = .ok (.iaload, 1) := by decide +kernel
theorem dX4_tellStreet_127 : decode cX4_tellStreet 127 = .ok (.iconst 1, 1) := by decide +kernel
theorem dX4_tellStreet_128 : decode cX4_tellStreet 128 = .ok (.iadd, 1) := by decide +kernel
theorem dX4_tellStreet_129 : decode cX4_tellStreet 129 = .ok (.aload_n 0, 1) := by decide +kernel
theorem dX4_tellStreet_130 : decode cX4_tellStreet 130 = .ok (.getfield 44, 3) := by decide +kernel
theorem dX4_tellStreet_133 : decode cX4_tellStreet 133 = .ok (.iconst 2, 1) := by decide +kernel
theorem dX4_tellStreet_134 : decode cX4_tellStreet 134 = .ok (.iaload, 1) := by decide +kernel
theorem dX4_tellStreet_135 : decode cX4_tellStreet 135 = .ok (.invokestatic 238, 3) := by decide +kernel
theorem dX4_tellStreet_138 : decode cX4_tellStreet 138 = .ok (.aload_n 0, 1) := by decide +kernel
theorem dX4_tellStreet_139 : decode cX4_tellStreet 139 = .ok (.aload_n 0, 1) := by decide +kernel
theorem dX4_tellStreet_140 : decode cX4_tellStreet 140 = .ok (.getfield 84, 3) := by decide +kernel
theorem dX4_tellStreet_143 : decode cX4_tellStreet 143 = .ok (.aload_n 0, 1) := by decide +kernel
theorem dX4_tellStreet_144 : decode cX4_tellStreet 144 = .ok (.getfield 44, 3) := by decide +kernel
theorem dX4_tellStreet_147 : decode cX4_tellStreet 147 = .ok (.iconst 1, 1) := by decide +kernel
theorem dX4_tellStreet_148 : decode cX4_tellStreet 148 = .ok (.iaload, 1) := by decide +kernel
theorem dX4_tellStreet_149 : decode cX4_tellStreet 149 = .ok (.invokestatic 231, 3) := by decide +kernel
theorem dX4_tellStreet_152 : decode cX4_tellStreet 152 = .ok (.putfield 84, 3) := by decide +kernel
theorem dX4_tellStreet_155 : decode cX4_tellStreet 155 = .ok (.goto 74, 3) := by decide +kernel
theorem dX4_tellStreet_158 : decode cX4_tellStreet 158 = .ok (.aload_n 0, 1) := by decide +kernel
theorem dX4_tellStreet_159 : decode cX4_tellStreet 159 = .ok (.getfield 21, 3) := by decide +kernel
theorem dX4_tellStreet_162 : decode cX4_tellStreet 162 = .ok (.getfield 244, 3) := by decide +kernel
theorem dX4_tellStreet_165 : decode cX4_tellStreet 165 = .ok (.aload_n 0, 1) := by decide +kernel
theorem dX4_tellStreet_166 : decode cX4_tellStreet 166 = .ok (.getfield 44, 3) := by decide +kernel
theorem dX4_tellStreet_169 : decode cX4_tellStreet 169 = .ok (.iconst 1, 1) := by decide +kernel
theorem dX4_tellStreet_170 : decode cX4_tellStreet 170 = .ok (.iaload, 1) := by decide +kernel
theorem dX4_tellStreet_171 : decode cX4_tellStreet 171 = .ok (.aload_n 0, 1) := by decide +kernel
theorem dX4_tellStreet_172 : decode cX4_tellStreet 172 = .ok (.getfield 44, 3) := by decide +kernel
theorem dX4_tellStreet_175 : decode cX4_tellStreet 175 = .ok (.iconst 2, 1) := by decide +kernel
theorem dX4_tellStreet_176 : decode cX4_tellStreet 176 = .ok (.iaload, 1) := by decide +kernel
theorem dX4_tellStreet_177 : decode cX4_tellStreet 177 = .ok (.iconst 1, 1) := by decide +kernel
theorem dX4_tellStreet_178 : decode cX4_tellStreet 178 = .ok (.iadd, 1) := by decide +kernel
theorem dX4_tellStreet_179 : decode cX4_tellStreet 179 = .ok (.aload_n 0, 1) := by decide +kernel
theorem dX4_tellStreet_180 : decode cX4_tellStreet 180 = .ok (.getfield 44, 3) := by decide +kernel
theorem dX4_tellStreet_183 : decode cX4_tellStreet 183 = .ok (.iconst 0, 1) := by decide +kernel
theorem dX4_tellStreet_184 : decode cX4_tellStreet 184 = .ok (.iaload, 1) := by decide +kernel
theorem dX4_tellStreet_185 : decode cX4_tellStreet 185 = .ok (.invokestatic 238, 3) := by decide +kernel
theorem dX4_tellStreet_188 : decode cX4_tellStreet 188 = .ok (.aload_n 0, 1) := by decide +kernel
theorem dX4_tellStreet_189 : decode cX4_tellStreet 189 = .ok (.aload_n 0, 1) := by decide +kernel
theorem dX4_tellStreet_190 : decode cX4_tellStreet 190 = .ok (.getfield 87, 3) := by decide +kernel
theorem dX4_tellStreet_193 : decode cX4_tellStreet 193 = .ok (.aload_n 0, 1) := by decide +kernel
theorem dX4_tellStreet_194 : decode cX4_tellStreet 194 = .ok (.getfield 44, 3) := by decide +kernel
theorem dX4_tellStreet_197 : decode cX4_tellStreet 197 = .ok (.iconst 0, 1) := by decide +kernel
theorem dX4_tellStreet_198 : decode cX4_tellStreet 198 = .ok (.iaload, 1) := by decide +kernel
theorem dX4_tellStreet_199 : decode cX4_tellStreet 199 = .ok (.invokestatic 231, 3) := by decide +kernel
theorem dX4_tellStreet_202 : decode cX4_tellStreet 202 = .ok (.putfield 87, 3) := by decide +kernel
theorem dX4_tellStreet_205 : decode cX4_tellStreet 205 = .ok (.aload_n 0, 1) := by decide +kernel
theorem dX4_tellStreet_206 : decode cX4_tellStreet 206 = .ok (.aload_n 0, 1) := by decide +kernel
theorem dX4_tellStreet_207 : decode cX4_tellStreet 207 = .ok (.getfield 84, 3) := by decide +kernel
theorem dX4_tellStreet_210 : decode cX4_tellStreet 210 = .ok (.aload_n 0, 1) := by decide +kernel
theorem dX4_tellStreet_211 : decode cX4_tellStreet 211 = .ok (.getfield 44, 3) := by decide +kernel
theorem dX4_tellStreet_214 : decode cX4_tellStreet 214 = .ok (.iconst 2, 1) := by decide +kernel
theorem dX4_tellStreet_215 : decode cX4_tellStreet 215 = .ok (.iaload, 1) := by decide +kernel
theorem dX4_tellStreet_216 : decode cX4_tellStreet 216 = .ok (.invokestatic 231, 3) := by decide +kernel
theorem dX4_tellStreet_219 : decode cX4_tellStreet 219 = .ok (.putfield 84, 3) := by decide +kernel
theorem dX4_tellStreet_222 : decode cX4_tellStreet 222 = .ok (.goto 7, 3) := by decide +kernel
theorem dX4_tellStreet_225 : decode cX4_tellStreet 225 = .ok (.aload_n 0, 1) := by decide +kernel
theorem dX4_tellStreet_226 : decode cX4_tellStreet 226 = .ok (.invokevirtual 247, 3) := by decide +kernel
theorem dX4_tellStreet_229 : decode cX4_tellStreet 229 = .ok (.return_, 1) := by decide +kernel
theorem dX7_look_0 : decode cX7_look 0 = .ok (.aload_n 0, 1) := by decide +kernel
theorem dX7_look_1 : decode cX7_look 1 = .ok (.aload_n 1, 1) := by decide +kernel
theorem dX7_look_2 : decode cX7_look 2 = .ok (.invokevirtual 15, 3) := by decide +kernel
theorem dX7_look_5 : decode cX7_look 5 = .ok (.aload_n 0, 1) := by decide +kernel
theorem dX7_look_6 : decode cX7_look 6 = .ok (.iconst 0, 1) := by decide +kernel
theorem dX7_look_7 : decode cX7_look 7 = .ok (.putfield 19, 3) := by decide +kernel
theorem dX7_look_10 : decode cX7_look 10 = .ok (.aload_n 0, 1) := by decide +kernel
theorem dX7_look_11 : decode cX7_look 11 = .ok (.iconst (-1), 1) := by decide +kernel
theorem dX7_look_12 : decode cX7_look 12 = .ok (.putfield 23, 3) := by decide +kernel
theorem dX7_look_15 : decode cX7_look 15 = .ok (.aload_n 0, 1) := by decide +kernel
theorem dX7_look_16 : decode cX7_look 16 = .ok (.iconst (-1), 1) := by decide +kernel
theorem dX7_look_17 : decode cX7_look 17 = .ok (.putfield 26, 3) := by decide +kernel
theorem dX7_look_20 : decode cX7_look 20 = .ok (.aload_n 0, 1) := by decide +kernel
theorem dX7_look_21 : decode cX7_look 21 = .ok (.bipush 40, 2) := by decide +kernel
theorem dX7_look_23 : decode cX7_look 23 = .ok (.putfield 29, 3) := by decide +kernel
theorem dX7_look_26 : decode cX7_look 26 = .ok (.aload_n 0, 1) := by decide +kernel
theorem dX7_look_27 : decode cX7_look 27 = .ok (.iconst 0, 1) := by decide +kernel
theorem dX7_look_28 : decode cX7_look 28 = .ok (.putfield 32, 3) := by decide +kernel
theorem dX7_look_31 : decode cX7_look 31 = .ok (.aload_n 0, 1) := by decide +kernel
theorem dX7_look_32 : decode cX7_look 32 = .ok (.getfield 9, 3) := by decide +kernel
theorem dX7_look_35 : decode cX7_look 35 = .ok (.iconst 0, 1) := by decide +kernel
theorem dX7_look_36 : decode cX7_look 36 = .ok (.invokestatic 35, 3) := by decide +kernel
theorem dX7_look_39 : decode cX7_look 39 = .ok (.iconst 0, 1) := by decide +kernel
theorem dX7_look_40 : decode cX7_look 40 = .ok (.istore_n 2, 1) := by decide +kernel
theorem dX7_look_41 : decode cX7_look 41 = .ok (.iload_n 2, 1) := by decide +kernel
theorem dX7_look_42 : decode cX7_look 42 = .ok (.bipush 40, 2) := by decide +kernel
theorem dX7_look_44 : decode cX7_look 44 = .ok (.if_icmp .ge 38, 3) := by decide +kernel
theorem dX7_look_47 : decode cX7_look 47 = .ok (.iload_n 2, 1) := by decide +kernel
theorem dX7_look_48 : decode cX7_look 48 = .ok (.istore_n 3, 1) := by decide +kernel
theorem dX7_look_49 : decode cX7_look 49 = .ok (.iload_n 3, 1) := by decide +kernel
theorem dX7_look_50 : decode cX7_look 50 = .ok (.bipush 40, 2) := by decide +kernel
theorem dX7_look_52 : decode cX7_look 52 = .ok (.if_icmp .ge 24, 3) := by decide +kernel
theorem dX7_look_55 : decode cX7_look 55 = .ok (.aload_n 0, 1) := by decide +kernel
theorem dX7_look_56 : decode cX7_look 56 = .ok (.iload_n 2, 1) := by decide +kernel
theorem dX7_look_57 : decode cX7_look 57 = .ok (.iload_n 3, 1) := by decide +kernel
theorem dX7_look_58 : decode cX7_look 58 = .ok (.invokevirtual 41, 3) := by decide +kernel
theorem dX7_look_61 : decode cX7_look 61 = .ok (.ifCond .eq 9, 3) := by decide +kernel
theorem dX7_look_64 : decode cX7_look 64 = .ok (.aload_n 0, 1) := by decide +kernel
theorem dX7_look_65 : decode cX7_look 65 = .ok (.iload_n 2, 1) := by decide +kernel
theorem dX7_look_66 : decode cX7_look 66 = .ok (.iload_n 3, 1) := by decide +kernel
theorem dX7_look_67 : decode cX7_look 67 = .ok (.invokevirtual 45, 3) := by decide +kernel
theorem dX7_look_70 : decode cX7_look 70 = .ok (.iinc 3 1, 3) := by decide +kernel
theorem dX7_look_73 : decode cX7_look 73 = .ok (.goto (-24), 3) := by decide +kernel
theorem dX7_look_76 : decode cX7_look 76 = .ok (.iinc 2 1, 3) := by decide +kernel
theorem dX7_look_79 : decode cX7_look 79 = .ok (.goto (-38), 3) := by decide +kernel
theorem dX7_look_82 : decode cX7_look 82 = .ok (.return_, 1) := by decide +kernel
theorem dX8_advance_0 : decode cX8_advance 0 = .ok (.aload_n 0, 1) := by decide +kernel
theorem dX8_advance_1 : decode cX8_advance 1 = .ok (.getfield 31, 3) := by decide +kernel
theorem dX8_advance_4 : decode cX8_advance 4 = .ok (.aload_n 0, 1) := by decide +kernel
theorem dX8_advance_5 : decode cX8_advance 5 = .ok (.getfield 30, 3) := by decide +kernel
theorem dX8_advance_8 : decode cX8_advance 8 = .ok (.if_icmp .ge 44, 3) := by decide +kernel
theorem dX8_advance_11 : decode cX8_advance 11 = .ok (.aload_n 0, 1) := by decide +kernel
theorem dX8_advance_12 : decode cX8_advance 12 = .ok (.getfield 9, 3) := by decide +kernel
theorem dX8_advance_15 : decode cX8_advance 15 = .ok (.aload_n 0, 1) := by decide +kernel
theorem dX8_advance_16 : decode cX8_advance 16 = .ok (.getfield 31, 3) := by decide +kernel
theorem dX8_advance_19 : decode cX8_advance 19 = .ok (.baload, 1) := by decide +kernel
theorem dX8_advance_20 : decode cX8_advance 20 = .ok (.bipush 10, 2) := by decide +kernel
theorem dX8_advance_22 : decode cX8_advance 22 = .ok (.if_icmp .eq 17, 3) := by decide +kernel
theorem dX8_advance_25 : decode cX8_advance 25 = .ok (.aload_n 0, 1) := by decide +kernel
theorem dX8_advance_26 : decode cX8_advance 26 = .ok (.getfield 9, 3) := by decide +kernel
theorem dX8_advance_29 : decode cX8_advance 29 = .ok (.aload_n 0, 1) := by decide +kernel
theorem dX8_advance_30 : decode cX8_advance 30 = .ok (.getfield 31, 3) := by decide +kernel
theorem dX8_advance_33 : decode cX8_advance 33 = .ok (.baload, 1) := by decide +kernel
theorem dX8_advance_34 : decode cX8_advance 34 = .ok (.bipush 32, 2) := by decide +kernel
theorem dX8_advance_36 : decode cX8_advance 36 = .ok (.if_icmp .ne 16, 3) := by decide +kernel
theorem dX8_advance_39 : decode cX8_advance 39 = .ok (.aload_n 0, 1) := by decide +kernel
theorem dX8_advance_40 : decode cX8_advance 40 = .ok (.dup, 1) := by decide +kernel
theorem dX8_advance_41 : decode cX8_advance 41 = .ok (.getfield 31, 3) := by decide +kernel
theorem dX8_advance_44 : decode cX8_advance 44 = .ok (.iconst 1, 1) := by decide +kernel
theorem dX8_advance_45 : decode cX8_advance 45 = .ok (.iadd, 1) := by decide +kernel
theorem dX8_advance_46 : decode cX8_advance 46 = .ok (.putfield 31, 3) := by decide +kernel
theorem dX8_advance_49 : decode cX8_advance 49 = .ok (.goto (-49), 3) := by decide +kernel
theorem dX8_advance_52 : decode cX8_advance 52 = .ok (.aload_n 0, 1) := by decide +kernel
theorem dX8_advance_53 : decode cX8_advance 53 = .ok (.aload_n 0, 1) := by decide +kernel
theorem dX8_advance_54 : decode cX8_advance 54 = .ok (.getfield 31, 3) := by decide +kernel
theorem dX8_advance_57 : decode cX8_advance 57 = .ok (.putfield 34, 3) := by decide +kernel
theorem dX8_advance_60 : decode cX8_advance 60 = .ok (.aload_n 0, 1) := by decide +kernel
theorem dX8_advance_61 : decode cX8_advance 61 = .ok (.getfield 31, 3) := by decide +kernel
theorem dX8_advance_64 : decode cX8_advance 64 = .ok (.aload_n 0, 1) := by decide +kernel
theorem dX8_advance_65 : decode cX8_advance 65 = .ok (.getfield 30, 3) := by decide +kernel
theorem dX8_advance_68 : decode cX8_advance 68 = .ok (.if_icmp .lt 11, 3) := by decide +kernel
theorem dX8_advance_71 : decode cX8_advance 71 = .ok (.aload_n 0, 1) := by decide +kernel
theorem dX8_advance_72 : decode cX8_advance 72 = .ok (.iconst 0, 1) := by decide +kernel
theorem dX8_advance_73 : decode cX8_advance 73 = .ok (.putfield 37, 3) := by decide +kernel
theorem dX8_advance_76 : decode cX8_advance 76 = .ok (.goto 80, 3) := by decide +kernel
theorem dX8_advance_79 : decode cX8_advance 79 = .ok (.aload_n 0, 1) := by decide +kernel
theorem dX8_advance_80 : decode cX8_advance 80 = .ok (.getfield 9, 3) := by decide +kernel
theorem dX8_advance_83 : decode cX8_advance 83 = .ok (.aload_n 0, 1) := by decide +kernel
theorem dX8_advance_84 : decode cX8_advance 84 = .ok (.getfield 31, 3) := by decide +kernel
theorem dX8_advance_87 : decode cX8_advance 87 = .ok (.baload, 1) := by decide +kernel
theorem dX8_advance_88 : decode cX8_advance 88 = .ok (.invokestatic 40, 3) := by decide +kernel
theorem dX8_advance_91 : decode cX8_advance 91 = .ok (.ifCond .eq 10, 3) := by decide +kernel
theorem dX8_advance_94 : decode cX8_advance 94 = .ok (.aload_n 0, 1) := by decide +kernel
theorem dX8_advance_95 : decode cX8_advance 95 = .ok (.invokevirtual 44, 3) := by decide +kernel
theorem dX8_advance_98 : decode cX8_advance 98 = .ok (.goto 58, 3) := by decide +kernel
theorem dX8_advance_101 : decode cX8_advance 101 = .ok (.aload_n 0, 1) := by decide +kernel
theorem dX8_advance_102 : decode cX8_advance 102 = .ok (.getfield 9, 3) := by decide +kernel
theorem dX8_advance_105 : decode cX8_advance 105 = .ok (.aload_n 0, 1) := by decide +kernel
theorem dX8_advance_106 : decode cX8_advance 106 = .ok (.getfield 31, 3) := by decide +kernel
theorem dX8_advance_109 : decode cX8_advance 109 = .ok (.baload, 1) := by decide +kernel
theorem dX8_advance_110 : decode cX8_advance 110 = .ok (.invokestatic 47, 3) := by decide +kernel
theorem dX8_advance_113 : decode cX8_advance 113 = .ok (.ifCond .eq 10, 3) := by decide +kernel
theorem dX8_advance_116 : decode cX8_advance 116 = .ok (.aload_n 0, 1) := by decide +kernel
theorem dX8_advance_117 : decode cX8_advance 117 = .ok (.invokevirtual 50, 3) := by decide +kernel
theorem dX8_advance_120 : decode cX8_advance 120 = .ok (.goto 36, 3) := by decide +kernel
theorem dX8_advance_123 : decode cX8_advance 123 = .ok (.aload_n 0, 1) := by decide +kernel
theorem dX8_advance_124 : decode cX8_advance 124 = .ok (.aload_n 0, 1) := by decide +kernel
theorem dX8_advance_125 : decode cX8_advance 125 = .ok (.getfield 9, 3) := by decide +kernel
theorem dX8_advance_128 : decode cX8_advance 128 = .ok (.aload_n 0, 1) := by decide +kernel
theorem dX8_advance_129 : decode cX8_advance 129 = .ok (.getfield 31, 3) := by decide +kernel
theorem dX8_advance_132 : decode cX8_advance 132 = .ok (.baload, 1) := by decide +kernel
theorem dX8_advance_133 : decode cX8_advance 133 = .ok (.bipush 59, 2) := by decide +kernel
theorem dX8_advance_135 : decode cX8_advance 135 = .ok (.if_icmp .ne 7, 3) := by decide +kernel
theorem dX8_advance_138 : decode cX8_advance 138 = .ok (.iconst 3, 1) := by decide +kernel
theorem dX8_advance_139 : decode cX8_advance 139 = .ok (.goto 4, 3) := by decide +kernel
theorem dX8_advance_142 : decode cX8_advance 142 = .ok (.iconst 4, 1) := by decide +kernel
theorem dX8_advance_143 : decode cX8_advance 143 = .ok (.putfield 37, 3) := by decide +kernel
theorem dX8_advance_146 : decode cX8_advance 146 = .ok (.aload_n 0, 1) := by decide +kernel
theorem dX8_advance_147 : decode cX8_advance 147 = .ok (.dup, 1) := by decide +kernel
theorem dX8_advance_148 : decode cX8_advance 148 = .ok (.getfield 31, 3) := by decide +kernel
theorem dX8_advance_151 : decode cX8_advance 151 = .ok (.iconst 1, 1) := by decide +kernel
theorem dX8_advance_152 : decode cX8_advance 152 = .ok (.iadd, 1) := by decide +kernel
theorem dX8_advance_153 : decode cX8_advance 153 = .ok (.putfield 31, 3) := by decide +kernel
theorem dX8_advance_156 : decode cX8_advance 156 = .ok (.return_, 1) := by decide +kernel
theorem dX9_copyFrom_0 : decode cX9_copyFrom 0 = .ok (.iconst 0, 1) := by decide +kernel
theorem dX9_copyFrom_1 : decode cX9_copyFrom 1 = .ok (.istore_n 2, 1) := by decide +kernel
theorem dX9_copyFrom_2 : decode cX9_copyFrom 2 = .ok (.iload_n 2, 1) := by decide +kernel
theorem dX9_copyFrom_3 : decode cX9_copyFrom 3 = .ok (.iconst 2, 1) := by decide +kernel
theorem dX9_copyFrom_4 : decode cX9_copyFrom 4 = .ok (.if_icmp .ge 69, 3) := by decide +kernel
theorem dX9_copyFrom_7 : decode cX9_copyFrom 7 = .ok (.aload_n 0, 1) := by decide +kernel
theorem dX9_copyFrom_8 : decode cX9_copyFrom 8 = .ok (.getfield 17, 3) := by decide +kernel
theorem dX9_copyFrom_11 : decode cX9_copyFrom 11 = .ok (.iload_n 2, 1) := by decide +kernel
theorem dX9_copyFrom_12 : decode cX9_copyFrom 12 = .ok (.aaload, 1) := by decide +kernel
theorem dX9_copyFrom_13 : decode cX9_copyFrom 13 = .ok (.aload_n 1, 1) := by decide +kernel
theorem dX9_copyFrom_14 : decode cX9_copyFrom 14 = .ok (.getfield 17, 3) := by decide +kernel
theorem dX9_copyFrom_17 : decode cX9_copyFrom 17 = .ok (.iload_n 2, 1) := by decide +kernel
theorem dX9_copyFrom_18 : decode cX9_copyFrom 18 = .ok (.aaload, 1) := by decide +kernel
theorem dX9_copyFrom_19 : decode cX9_copyFrom 19 = .ok (.invokevirtual 49, 3) := by decide +kernel
theorem dX9_copyFrom_22 : decode cX9_copyFrom 22 = .ok (.aload_n 0, 1) := by decide +kernel
theorem dX9_copyFrom_23 : decode cX9_copyFrom 23 = .ok (.getfield 23, 3) := by decide +kernel
theorem dX9_copyFrom_26 : decode cX9_copyFrom 26 = .ok (.iload_n 2, 1) := by decide +kernel
theorem dX9_copyFrom_27 : decode cX9_copyFrom 27 = .ok (.aaload, 1) := by decide +kernel
theorem dX9_copyFrom_28 : decode cX9_copyFrom 28 = .ok (.aload_n 1, 1) := by decide +kernel
theorem dX9_copyFrom_29 : decode cX9_copyFrom 29 = .ok (.getfield 23, 3) := by decide +kernel
theorem dX9_copyFrom_32 : decode cX9_copyFrom 32 = .ok (.iload_n 2, 1) := by decide +kernel
theorem dX9_copyFrom_33 : decode cX9_copyFrom 33 = .ok (.aaload, 1) := by decide +kernel
theorem dX9_copyFrom_34 : decode cX9_copyFrom 34 = .ok (.invokevirtual 53, 3) := by decide +kernel
theorem dX9_copyFrom_37 : decode cX9_copyFrom 37 = .ok (.aload_n 0, 1) := by decide +kernel
theorem dX9_copyFrom_38 : decode cX9_copyFrom 38 = .ok (.getfield 27, 3) := by decide +kernel
theorem dX9_copyFrom_41 : decode cX9_copyFrom 41 = .ok (.iload_n 2, 1) := by decide +kernel
theorem dX9_copyFrom_42 : decode cX9_copyFrom 42 = .ok (.aaload, 1) := by decide +kernel
theorem dX9_copyFrom_43 : decode cX9_copyFrom 43 = .ok (.aload_n 1, 1) := by decide +kernel
theorem dX9_copyFrom_44 : decode cX9_copyFrom 44 = .ok (.getfield 27, 3) := by decide +kernel
theorem dX9_copyFrom_47 : decode cX9_copyFrom 47 = .ok (.iload_n 2, 1) := by decide +kernel
theorem dX9_copyFrom_48 : decode cX9_copyFrom 48 = .ok (.aaload, 1) := by decide +kernel
theorem dX9_copyFrom_49 : decode cX9_copyFrom 49 = .ok (.invokevirtual 53, 3) := by decide +kernel
theorem dX9_copyFrom_52 : decode cX9_copyFrom 52 = .ok (.aload_n 0, 1) := by decide +kernel
theorem dX9_copyFrom_53 : decode cX9_copyFrom 53 = .ok (.getfield 32, 3) := by decide +kernel
theorem dX9_copyFrom_56 : decode cX9_copyFrom 56 = .ok (.iload_n 2, 1) := by decide +kernel
theorem dX9_copyFrom_57 : decode cX9_copyFrom 57 = .ok (.aaload, 1) := by decide +kernel
theorem dX9_copyFrom_58 : decode cX9_copyFrom 58 = .ok (.aload_n 1, 1) := by decide +kernel
theorem dX9_copyFrom_59 : decode cX9_copyFrom 59 = .ok (.getfield 32, 3) := by decide +kernel
theorem dX9_copyFrom_62 : decode cX9_copyFrom 62 = .ok (.iload_n 2, 1) := by decide +kernel
theorem dX9_copyFrom_63 : decode cX9_copyFrom 63 = .ok (.aaload, 1) := by decide +kernel
theorem dX9_copyFrom_64 : decode cX9_copyFrom 64 = .ok (.invokevirtual 56, 3) := by decide +kernel
theorem dX9_copyFrom_67 : decode cX9_copyFrom 67 = .ok (.iinc 2 1, 3) := by decide +kernel
theorem dX9_copyFrom_70 : decode cX9_copyFrom 70 = .ok (.goto (-68), 3) := by decide +kernel
theorem dX9_copyFrom_73 : decode cX9_copyFrom 73 = .ok (.aload_n 1, 1) := by decide +kernel
theorem dX9_copyFrom_74 : decode cX9_copyFrom 74 = .ok (.getfield 9, 3) := by decide +kernel
theorem dX9_copyFrom_77 : decode cX9_copyFrom 77 = .ok (.iconst 0, 1) := by decide +kernel
theorem dX9_copyFrom_78 : decode cX9_copyFrom 78 = .ok (.aload_n 0, 1) := by decide +kernel
theorem dX9_copyFrom_79 : decode cX9_copyFrom 79 = .ok (.getfield 9, 3) := by decide +kernel
theorem dX9_copyFrom_82 : decode cX9_copyFrom 82 = .ok (.iconst 0, 1) := by decide +kernel
theorem dX9_copyFrom_83 : decode cX9_copyFrom 83 = .ok (.iconst 4, 1) := by decide +kernel
theorem dX9_copyFrom_84 : decode cX9_copyFrom 84 = .ok (.invokestatic 59, 3) := by decide +kernel
theorem dX9_copyFrom_87 : decode cX9_copyFrom 87 = .ok (.aload_n 1, 1) := by decide +kernel
theorem dX9_copyFrom_88 : decode cX9_copyFrom 88 = .ok (.getfield 36, 3) := by decide +kernel
theorem dX9_copyFrom_91 : decode cX9_copyFrom 91 = .ok (.iconst 0, 1) := by decide +kernel
theorem dX9_copyFrom_92 : decode cX9_copyFrom 92 = .ok (.aload_n 0, 1) := by decide +kernel
theorem dX9_copyFrom_93 : decode cX9_copyFrom 93 = .ok (.getfield 36, 3) := by decide +kernel
theorem dX9_copyFrom_96 : decode cX9_copyFrom 96 = .ok (.iconst 0, 1) := by decide +kernel
theorem dX9_copyFrom_97 : decode cX9_copyFrom 97 = .ok (.sipush 600, 3) := by decide +kernel
theorem dX9_copyFrom_100 : decode cX9_copyFrom 100 = .ok (.invokestatic 59, 3) := by decide +kernel
theorem dX9_copyFrom_103 : decode cX9_copyFrom 103 = .ok (.aload_n 0, 1) := by decide +kernel
theorem dX9_copyFrom_104 : decode cX9_copyFrom 104 = .ok (.aload_n 1, 1) := by decide +kernel
theorem dX9_copyFrom_105 : decode cX9_copyFrom 105 = .ok (.getfield 65, 3) := by decide +kernel
theorem dX9_copyFrom_108 : decode cX9_copyFrom 108 = .ok (.putfield 65, 3) := by decide +kernel
theorem dX9_copyFrom_111 : decode cX9_copyFrom 111 = .ok (.aload_n 0, 1) := by decide +kernel
theorem dX9_copyFrom_112 : decode cX9_copyFrom 112 = .ok (.aload_n 1, 1) := by decide +kernel
theorem dX9_copyFrom_113 : decode cX9_copyFrom 113 = .ok (.getfield 68, 3) := by decide +kernel
theorem dX9_copyFrom_116 : decode cX9_copyFrom 116 = .ok (.putfield 68, 3) := by decide +kernel
theorem dX9_copyFrom_119 : decode cX9_copyFrom 119 = .ok (.aload_n 0, 1) := by decide +kernel
theorem dX9_copyFrom_120 : decode cX9_copyFrom 120 = .ok (.aload_n 1, 1) := by decide +kernel
theorem dX9_copyFrom_121 : decode cX9_copyFrom 121 = .ok (.getfield 40, 3) := by decide +kernel
theorem dX9_copyFrom_124 : decode cX9_copyFrom 124 = .ok (.putfield 40, 3) := by decide +kernel
theorem dX9_copyFrom_127 : decode cX9_copyFrom 127 = .ok (.return_, 1) := by decide +kernel
theorem dX9_put_0 : decode cX9_put 0 = .ok (.iload_n 2, 1) := by decide +kernel
theorem dX9_put_1 : decode cX9_put 1 = .ok (.tableswitch 75 0 2 #[27, 43, 59], 27) := by decide +kernel
theorem dX9_put_28 : decode cX9_put 28 = .ok (.aload_n 0, 1) := by decide +kernel
theorem dX9_put_29 : decode cX9_put 29 = .ok (.getfield 17, 3) := by decide +kernel
theorem dX9_put_32 : decode cX9_put 32 = .ok (.iload_n 3, 1) := by decide +kernel
theorem dX9_put_33 : decode cX9_put 33 = .ok (.aaload, 1) := by decide +kernel
theorem dX9_put_34 : decode cX9_put 34 = .ok (.aload_n 1, 1) := by decide +kernel
theorem dX9_put_35 : decode cX9_put 35 = .ok (.getfield 71, 3) := by decide +kernel
theorem dX9_put_38 : decode cX9_put 38 = .ok (.invokevirtual 49, 3) := by decide +kernel
theorem dX9_put_41 : decode cX9_put 41 = .ok (.goto 48, 3) := by decide +kernel
theorem dX9_put_44 : decode cX9_put 44 = .ok (.aload_n 0, 1) := by decide +kernel
theorem dX9_put_45 : decode cX9_put 45 = .ok (.getfield 23, 3) := by decide +kernel
theorem dX9_put_48 : decode cX9_put 48 = .ok (.iload_n 3, 1) := by decide +kernel
theorem dX9_put_49 : decode cX9_put 49 = .ok (.aaload, 1) := by decide +kernel
theorem dX9_put_50 : decode cX9_put 50 = .ok (.aload_n 1, 1) := by decide +kernel
theorem dX9_put_51 : decode cX9_put 51 = .ok (.getfield 77, 3) := by decide +kernel
theorem dX9_put_54 : decode cX9_put 54 = .ok (.invokevirtual 53, 3) := by decide +kernel
theorem dX9_put_57 : decode cX9_put 57 = .ok (.goto 32, 3) := by decide +kernel
theorem dX9_put_60 : decode cX9_put 60 = .ok (.aload_n 0, 1) := by decide +kernel
theorem dX9_put_61 : decode cX9_put 61 = .ok (.getfield 27, 3) := by decide +kernel
theorem dX9_put_64 : decode cX9_put 64 = .ok (.iload_n 3, 1) := by decide +kernel
theorem dX9_put_65 : decode cX9_put 65 = .ok (.aaload, 1) := by decide +kernel
theorem dX9_put_66 : decode cX9_put 66 = .ok (.aload_n 1, 1) := by decide +kernel
theorem dX9_put_67 : decode cX9_put 67 = .ok (.getfield 81, 3) := by decide +kernel
theorem dX9_put_70 : decode cX9_put 70 = .ok (.invokevirtual 53, 3) := by decide +kernel
theorem dX9_put_73 : decode cX9_put 73 = .ok (.goto 16, 3) := by decide +kernel
theorem dX9_put_76 : decode cX9_put 76 = .ok (.aload_n 0, 1) := by decide +kernel
theorem dX9_put_77 : decode cX9_put 77 = .ok (.getfield 32, 3) := by decide +kernel
theorem dX9_put_80 : decode cX9_put 80 = .ok (.iload_n 3, 1) := by decide +kernel
theorem dX9_put_81 : decode cX9_put 81 = .ok (.aaload, 1) := by decide +kernel
theorem dX9_put_82 : decode cX9_put 82 = .ok (.aload_n 1, 1) := by decide +kernel
theorem dX9_put_83 : decode cX9_put 83 = .ok (.getfield 84, 3) := by decide +kernel
theorem dX9_put_86 : decode cX9_put 86 = .ok (.invokevirtual 56, 3) := by decide +kernel
theorem dX9_put_89 : decode cX9_put 89 = .ok (.aload_n 0, 1) := by decide +kernel
theorem dX9_put_90 : decode cX9_put 90 = .ok (.getfield 9, 3) := by decide +kernel
theorem dX9_put_93 : decode cX9_put 93 = .ok (.iload_n 2, 1) := by decide +kernel
theorem dX9_put_94 : decode cX9_put 94 = .ok (.aload_n 0, 1) := by decide +kernel
theorem dX9_put_95 : decode cX9_put 95 = .ok (.getfield 9, 3) := by decide +kernel
theorem dX9_put_98 : decode cX9_put 98 = .ok (.iload_n 2, 1) := by decide +kernel
theorem dX9_put_99 : decode cX9_put 99 = .ok (.iaload, 1) := by decide +kernel
theorem dX9_put_100 : decode cX9_put 100 = .ok (.iload_n 3, 1) := by decide +kernel
theorem dX9_put_101 : decode cX9_put 101 = .ok (.iconst 1, 1) := by decide +kernel
theorem dX9_put_102 : decode cX9_put 102 = .ok (.iadd, 1) := by decide +kernel
theorem dX9_put_103 : decode cX9_put 103 = .ok (.invokestatic 87, 3) := by decide +kernel
theorem dX9_put_106 : decode cX9_put 106 = .ok (.iastore, 1) := by decide +kernel
theorem dX9_put_107 : decode cX9_put 107 = .ok (.return_, 1) := by decide +kernel
theorem dX10_pointAll_0 : decode cX10_pointAll 0 = .ok (.iconst 0, 1) := by decide +kernel
theorem dX10_pointAll_1 : decode cX10_pointAll 1 = .ok (.istore_n 2, 1) := by decide +kernel
theorem dX10_pointAll_2 : decode cX10_pointAll 2 = .ok (.iload_n 2, 1) := by decide +kernel
theorem dX10_pointAll_3 : decode cX10_pointAll 3 = .ok (.aload_n 1, 1) := by decide +kernel
theorem dX10_pointAll_4 : decode cX10_pointAll 4 = .ok (.getfield 31, 3) := by decide +kernel
theorem dX10_pointAll_7 : decode cX10_pointAll 7 = .ok (.if_icmp .ge 31, 3) := by decide +kernel
theorem dX10_pointAll_10 : decode cX10_pointAll 10 = .ok (.aload_n 0, 1) := by decide +kernel
theorem dX10_pointAll_11 : decode cX10_pointAll 11 = .ok (.getfield 15, 3) := by decide +kernel
theorem dX10_pointAll_14 : decode cX10_pointAll 14 = .ok (.iload_n 2, 1) := by decide +kernel
theorem dX10_pointAll_15 : decode cX10_pointAll 15 = .ok (.iaload, 1) := by decide +kernel
theorem dX10_pointAll_16 : decode cX10_pointAll 16 = .ok (.iconst (-1), 1) := by decide +kernel
theorem dX10_pointAll_17 : decode cX10_pointAll 17 = .ok (.if_icmp .ne 15, 3) := by decide +kernel
theorem dX10_pointAll_20 : decode cX10_pointAll 20 = .ok (.aload_n 0, 1) := by decide +kernel
theorem dX10_pointAll_21 : decode cX10_pointAll 21 = .ok (.getfield 18, 3) := by decide +kernel
theorem dX10_pointAll_24 : decode cX10_pointAll 24 = .ok (.iload_n 2, 1) := by decide +kernel
theorem dX10_pointAll_25 : decode cX10_pointAll 25 = .ok (.aload_n 0, 1) := by decide +kernel
theorem dX10_pointAll_26 : decode cX10_pointAll 26 = .ok (.aload_n 1, 1) := by decide +kernel
theorem dX10_pointAll_27 : decode cX10_pointAll 27 = .ok (.iload_n 2, 1) := by decide +kernel
theorem dX10_pointAll_28 : decode cX10_pointAll 28 = .ok (.invokevirtual 44, 3) := by decide +kernel
theorem dX10_pointAll_31 : decode cX10_pointAll 31 = .ok (.iastore, 1) := by decide +kernel
theorem dX10_pointAll_32 : decode cX10_pointAll 32 = .ok (.iinc 2 1, 3) := by decide +kernel
theorem dX10_pointAll_35 : decode cX10_pointAll 35 = .ok (.goto (-33), 3) := by decide +kernel
theorem dX10_pointAll_38 : decode cX10_pointAll 38 = .ok (.return_, 1) := by decide +kernel
theorem dX10_contented_0 : decode cX10_contented 0 = .ok (.iconst 0, 1) := by decide +kernel
theorem dX10_contented_1 : decode cX10_contented 1 = .ok (.istore_n 2, 1) := by decide +kernel
theorem dX10_contented_2 : decode cX10_contented 2 = .ok (.iconst 0, 1) := by decide +kernel
theorem dX10_contented_3 : decode cX10_contented 3 = .ok (.istore_n 3, 1) := by decide +kernel
theorem dX10_contented_4 : decode cX10_contented 4 = .ok (.iload_n 3, 1) := by decide +kernel
theorem dX10_contented_5 : decode cX10_contented 5 = .ok (.aload_n 1, 1) := by decide +kernel
theorem dX10_contented_6 : decode cX10_contented 6 = .ok (.getfield 31, 3) := by decide +kernel
theorem dX10_contented_9 : decode cX10_contented 9 = .ok (.if_icmp .ge 24, 3) := by decide +kernel
theorem dX10_contented_12 : decode cX10_contented 12 = .ok (.aload_n 0, 1) := by decide +kernel
theorem dX10_contented_13 : decode cX10_contented 13 = .ok (.aload_n 1, 1) := by decide +kernel
theorem dX10_contented_14 : decode cX10_contented 14 = .ok (.iload_n 3, 1) := by decide +kernel
theorem dX10_contented_15 : decode cX10_contented 15 = .ok (.invokevirtual 55, 3) := by decide +kernel
theorem dX10_contented_18 : decode cX10_contented 18 = .ok (.ifCond .eq 9, 3) := by decide +kernel
theorem dX10_contented_21 : decode cX10_contented 21 = .ok (.iload_n 2, 1) := by decide +kernel
theorem dX10_contented_22 : decode cX10_contented 22 = .ok (.iconst 1, 1) := by decide +kernel
theorem dX10_contented_23 : decode cX10_contented 23 = .ok (.iload_n 3, 1) := by decide +kernel
theorem dX10_contented_24 : decode cX10_contented 24 = .ok (.ishl, 1) := by decide +kernel
theorem dX10_contented_25 : decode cX10_contented 25 = .ok (.ior, 1) := by decide +kernel
theorem dX10_contented_26 : decode cX10_contented 26 = .ok (.istore_n 2, 1) := by decide +kernel
theorem dX10_contented_27 : decode cX10_contented 27 = .ok (.iinc 3 1, 3) := by decide +kernel
theorem dX10_contented_30 : decode cX10_contented 30 = .ok (.goto (-26), 3) := by decide +kernel
theorem dX10_contented_33 : decode cX10_contented 33 = .ok (.iload_n 2, 1) := by decide +kernel
theorem dX10_contented_34 : decode cX10_contented 34 = .ok (.ireturn, 1) := by decide +kernel
theorem dX11_hasPersonAndSet_0 : decode cX11_hasPersonAndSet 0 = .ok (.aload_n 0, 1) := by decide +kernel
theorem dX11_hasPersonAndSet_1 : decode cX11_hasPersonAndSet 1 = .ok (.iload_n 1, 1) := by decide +kernel
theorem dX11_hasPersonAndSet_2 : decode cX11_hasPersonAndSet 2 = .ok (.iload_n 2, 1) := by decide +kernel
theorem dX11_hasPersonAndSet_3 : decode cX11_hasPersonAndSet 3 = .ok (.invokevirtual 118, 3) := by decide +kernel
theorem dX11_hasPersonAndSet_6 : decode cX11_hasPersonAndSet 6 = .ok (.ifCond .eq 23, 3) := by decide +kernel
theorem dX11_hasPersonAndSet_9 : decode cX11_hasPersonAndSet 9 = .ok (.aload_n 0, 1) := by decide +kernel
theorem dX11_hasPersonAndSet_10 : decode cX11_hasPersonAndSet 10 = .ok (.getfield 12, 3) := by decide +kernel
theorem dX11_hasPersonAndSet_13 : decode cX11_hasPersonAndSet 13 = .ok (.getfield 109, 3) := by decide +kernel
theorem dX11_hasPersonAndSet_16 : decode cX11_hasPersonAndSet 16 = .ok (.iload_n 1, 1) := by decide +kernel
theorem dX11_hasPersonAndSet_17 : decode cX11_hasPersonAndSet 17 = .ok (.aaload, 1) := by decide +kernel
theorem dX11_hasPersonAndSet_18 : decode cX11_hasPersonAndSet 18 = .ok (.iload_n 3, 1) := by decide +kernel
theorem dX11_hasPersonAndSet_19 : decode cX11_hasPersonAndSet 19 = .ok (.invokevirtual 121, 3) := by decide +kernel
theorem dX11_hasPersonAndSet_22 : decode cX11_hasPersonAndSet 22 = .ok (.ifCond .eq 7, 3) := by decide +kernel
theorem dX11_hasPersonAndSet_25 : decode cX11_hasPersonAndSet 25 = .ok (.iconst 1, 1) := by decide +kernel
theorem dX11_hasPersonAndSet_26 : decode cX11_hasPersonAndSet 26 = .ok (.goto 4, 3) := by decide +kernel
theorem dX11_hasPersonAndSet_29 : decode cX11_hasPersonAndSet 29 = .ok (.iconst 0, 1) := by decide +kernel
theorem dX11_hasPersonAndSet_30 : decode cX11_hasPersonAndSet 30 = .ok (.ireturn, 1) := by decide +kernel
theorem dX11_street_0 : decode cX11_street 0 = .ok (.aload_n 0, 1) := by decide +kernel
theorem dX11_street_1 : decode cX11_street 1 = .ok (.iload_n 1, 1) := by decide +kernel
theorem dX11_street_2 : decode cX11_street 2 = .ok (.invokevirtual 105, 3) := by decide +kernel
theorem dX11_street_5 : decode cX11_street 5 = .ok (.ifCond .ne 6, 3) := by decide +kernel
theorem dX11_street_8 : decode cX11_street 8 = .ok (.bipush (-2), 2) := by decide +kernel
theorem dX11_street_10 : decode cX11_street 10 = .ok (.ireturn, 1) := by decide +kernel
theorem dX11_street_11 : decode cX11_street 11 = .ok (.aload_n 0, 1) := by decide +kernel
theorem dX11_street_12 : decode cX11_street 12 = .ok (.getfield 12, 3) := by decide +kernel
theorem dX11_street_15 : decode cX11_street 15 = .ok (.getfield 109, 3) := by decide +kernel
theorem dX11_street_18 : decode cX11_street 18 = .ok (.iload_n 1, 1) := by decide +kernel
theorem dX11_street_19 : decode cX11_street 19 = .ok (.aaload, 1) := by decide +kernel
theorem dX11_street_20 : decode cX11_street 20 = .ok (.astore_n 3, 1) := by decide +kernel
theorem dX11_street_21 : decode cX11_street 21 = .ok (.iload_n 2, 1) := by decide +kernel
theorem dX11_street_22 : decode cX11_street 22 = .ok (.tableswitch 41 0 2 #[26, 31, 36], 26) := by decide +kernel
theorem dX11_street_48 : decode cX11_street 48 = .ok (.aload_n 3, 1) := by decide +kernel
theorem dX11_street_49 : decode cX11_street 49 = .ok (.getfield 124, 3) := by decide +kernel
theorem dX11_street_52 : decode cX11_street 52 = .ok (.ireturn, 1) := by decide +kernel
theorem dX11_street_53 : decode cX11_street 53 = .ok (.aload_n 3, 1) := by decide +kernel
theorem dX11_street_54 : decode cX11_street 54 = .ok (.getfield 127, 3) := by decide +kernel
theorem dX11_street_57 : decode cX11_street 57 = .ok (.ireturn, 1) := by decide +kernel
theorem dX11_street_58 : decode cX11_street 58 = .ok (.aload_n 3, 1) := by decide +kernel
theorem dX11_street_59 : decode cX11_street 59 = .ok (.getfield 130, 3) := by decide +kernel
theorem dX11_street_62 : decode cX11_street 62 = .ok (.ireturn, 1) := by decide +kernel
theorem dX11_street_63 : decode cX11_street 63 = .ok (.aload_n 3, 1) := by decide +kernel
theorem dX11_street_64 : decode cX11_street 64 = .ok (.iload_n 2, 1) := by decide +kernel
theorem dX11_street_65 : decode cX11_street 65 = .ok (.invokestatic 133, 3) := by decide +kernel
theorem dX11_street_68 : decode cX11_street 68 = .ok (.ireturn, 1) := by decide +kernel
theorem dX11_shared_0 : decode cX11_shared 0 = .ok (.iload_n 2, 1) := by decide +kernel
theorem dX11_shared_1 : decode cX11_shared 1 = .ok (.iload_n 3, 1) := by decide +kernel
theorem dX11_shared_2 : decode cX11_shared 2 = .ok (.if_icmp .eq 21, 3) := by decide +kernel
theorem dX11_shared_5 : decode cX11_shared 5 = .ok (.aload_n 0, 1) := by decide +kernel
theorem dX11_shared_6 : decode cX11_shared 6 = .ok (.iload_n 1, 1) := by decide +kernel
theorem dX11_shared_7 : decode cX11_shared 7 = .ok (.iload_n 2, 1) := by decide +kernel
theorem dX11_shared_8 : decode cX11_shared 8 = .ok (.invokevirtual 118, 3) := by decide +kernel
theorem dX11_shared_11 : decode cX11_shared 11 = .ok (.ifCond .eq 12, 3) := by decide +kernel
theorem dX11_shared_14 : decode cX11_shared 14 = .ok (.aload_n 0, 1) := by decide +kernel
theorem dX11_shared_15 : decode cX11_shared 15 = .ok (.iload_n 1, 1) := by decide +kernel
theorem dX11_shared_16 : decode cX11_shared 16 = .ok (.iload_n 3, 1) := by decide +kernel
theorem dX11_shared_17 : decode cX11_shared 17 = .ok (.invokevirtual 118, 3) := by decide +kernel
theorem dX11_shared_20 : decode cX11_shared 20 = .ok (.ifCond .ne 5, 3) := by decide +kernel
theorem dX11_shared_23 : decode cX11_shared 23 = .ok (.iconst (-1), 1) := by decide +kernel
theorem dX11_shared_24 : decode cX11_shared 24 = .ok (.ireturn, 1) := by decide +kernel
theorem dX11_shared_25 : decode cX11_shared 25 = .ok (.aload_n 0, 1) := by decide +kernel
theorem dX11_shared_26 : decode cX11_shared 26 = .ok (.getfield 12, 3) := by decide +kernel
theorem dX11_shared_29 : decode cX11_shared 29 = .ok (.getfield 109, 3) := by decide +kernel
theorem dX11_shared_32 : decode cX11_shared 32 = .ok (.iload_n 1, 1) := by decide +kernel
theorem dX11_shared_33 : decode cX11_shared 33 = .ok (.aaload, 1) := by decide +kernel
theorem dX11_shared_34 : decode cX11_shared 34 = .ok (.astore 4, 2) := by decide +kernel
theorem dX11_shared_36 : decode cX11_shared 36 = .ok (.aload 4, 2) := by decide +kernel
theorem dX11_shared_38 : decode cX11_shared 38 = .ok (.iload_n 2, 1) := by decide +kernel
theorem dX11_shared_39 : decode cX11_shared 39 = .ok (.invokevirtual 261, 3) := by decide +kernel
theorem dX11_shared_42 : decode cX11_shared 42 = .ok (.lstore 5, 2) := by decide +kernel
theorem dX11_shared_44 : decode cX11_shared 44 = .ok (.aload 4, 2) := by decide +kernel
theorem dX11_shared_46 : decode cX11_shared 46 = .ok (.iload_n 3, 1) := by decide +kernel
theorem dX11_shared_47 : decode cX11_shared 47 = .ok (.invokevirtual 261, 3) := by decide +kernel
theorem dX11_shared_50 : decode cX11_shared 50 = .ok (.lstore 7, 2) := by decide +kernel
theorem dX11_shared_52 : decode cX11_shared 52 = .ok (.aload 4, 2) := by decide +kernel
theorem dX11_shared_54 : decode cX11_shared 54 = .ok (.lload 5, 2) := by decide +kernel
theorem dX11_shared_56 : decode cX11_shared 56 = .ok (.lload 7, 2) := by decide +kernel
theorem dX11_shared_58 : decode cX11_shared 58 = .ok (.lor, 1) := by decide +kernel
theorem dX11_shared_59 : decode cX11_shared 59 = .ok (.invokevirtual 271, 3) := by decide +kernel
theorem dX11_shared_62 : decode cX11_shared 62 = .ok (.aload 4, 2) := by decide +kernel
theorem dX11_shared_64 : decode cX11_shared 64 = .ok (.lload 5, 2) := by decide +kernel
theorem dX11_shared_66 : decode cX11_shared 66 = .ok (.invokevirtual 271, 3) := by decide +kernel
theorem dX11_shared_69 : decode cX11_shared 69 = .ok (.iconst (-1), 1) := by decide +kernel
theorem dX11_shared_70 : decode cX11_shared 70 = .ok (.ixor, 1) := by decide +kernel
theorem dX11_shared_71 : decode cX11_shared 71 = .ok (.iand, 1) := by decide +kernel
theorem dX11_shared_72 : decode cX11_shared 72 = .ok (.aload 4, 2) := by decide +kernel
theorem dX11_shared_74 : decode cX11_shared 74 = .ok (.lload 7, 2) := by decide +kernel
theorem dX11_shared_76 : decode cX11_shared 76 = .ok (.invokevirtual 271, 3) := by decide +kernel
theorem dX11_shared_79 : decode cX11_shared 79 = .ok (.iconst (-1), 1) := by decide +kernel
theorem dX11_shared_80 : decode cX11_shared 80 = .ok (.ixor, 1) := by decide +kernel
theorem dX11_shared_81 : decode cX11_shared 81 = .ok (.iand, 1) := by decide +kernel
theorem dX11_shared_82 : decode cX11_shared 82 = .ok (.ireturn, 1) := by decide +kernel
theorem dX11_wanted_0 : decode cX11_wanted 0 = .ok (.aload_n 0, 1) := by decide +kernel
theorem dX11_wanted_1 : decode cX11_wanted 1 = .ok (.iload_n 1, 1) := by decide +kernel
theorem dX11_wanted_2 : decode cX11_wanted 2 = .ok (.invokevirtual 105, 3) := by decide +kernel
theorem dX11_wanted_5 : decode cX11_wanted 5 = .ok (.ifCond .ne 6, 3) := by decide +kernel
theorem dX11_wanted_8 : decode cX11_wanted 8 = .ok (.bipush (-2), 2) := by decide +kernel
theorem dX11_wanted_10 : decode cX11_wanted 10 = .ok (.ireturn, 1) := by decide +kernel
theorem dX11_wanted_11 : decode cX11_wanted 11 = .ok (.aload_n 0, 1) := by decide +kernel
theorem dX11_wanted_12 : decode cX11_wanted 12 = .ok (.getfield 12, 3) := by decide +kernel
theorem dX11_wanted_15 : decode cX11_wanted 15 = .ok (.getfield 109, 3) := by decide +kernel
theorem dX11_wanted_18 : decode cX11_wanted 18 = .ok (.iload_n 1, 1) := by decide +kernel
theorem dX11_wanted_19 : decode cX11_wanted 19 = .ok (.aaload, 1) := by decide +kernel
theorem dX11_wanted_20 : decode cX11_wanted 20 = .ok (.astore_n 3, 1) := by decide +kernel
theorem dX11_wanted_21 : decode cX11_wanted 21 = .ok (.iconst (-1), 1) := by decide +kernel
theorem dX11_wanted_22 : decode cX11_wanted 22 = .ok (.istore 4, 2) := by decide +kernel
theorem dX11_wanted_24 : decode cX11_wanted 24 = .ok (.iconst 0, 1) := by decide +kernel
theorem dX11_wanted_25 : decode cX11_wanted 25 = .ok (.istore 5, 2) := by decide +kernel
theorem dX11_wanted_27 : decode cX11_wanted 27 = .ok (.iconst 0, 1) := by decide +kernel
theorem dX11_wanted_28 : decode cX11_wanted 28 = .ok (.istore 6, 2) := by decide +kernel
theorem dX11_wanted_30 : decode cX11_wanted 30 = .ok (.iload 6, 2) := by decide +kernel
theorem dX11_wanted_32 : decode cX11_wanted 32 = .ok (.aload_n 3, 1) := by decide +kernel
theorem dX11_wanted_33 : decode cX11_wanted 33 = .ok (.getfield 124, 3) := by decide +kernel
theorem dX11_wanted_36 : decode cX11_wanted 36 = .ok (.if_icmp .ge 32, 3) := by decide +kernel
theorem dX11_wanted_39 : decode cX11_wanted 39 = .ok (.aload_n 3, 1) := by decide +kernel
theorem dX11_wanted_40 : decode cX11_wanted 40 = .ok (.iload 6, 2) := by decide +kernel
theorem dX11_wanted_42 : decode cX11_wanted 42 = .ok (.invokevirtual 275, 3) := by decide +kernel
theorem dX11_wanted_45 : decode cX11_wanted 45 = .ok (.istore 7, 2) := by decide +kernel
theorem dX11_wanted_47 : decode cX11_wanted 47 = .ok (.iload 7, 2) := by decide +kernel
theorem dX11_wanted_49 : decode cX11_wanted 49 = .ok (.iload 5, 2) := by decide +kernel
theorem dX11_wanted_51 : decode cX11_wanted 51 = .ok (.if_icmp .le 11, 3) := by decide +kernel
theorem dX11_wanted_54 : decode cX11_wanted 54 = .ok (.iload 7, 2) := by decide +kernel
theorem dX11_wanted_56 : decode cX11_wanted 56 = .ok (.istore 5, 2) := by decide +kernel
theorem dX11_wanted_58 : decode cX11_wanted 58 = .ok (.iload 6, 2) := by decide +kernel
theorem dX11_wanted_60 : decode cX11_wanted 60 = .ok (.istore 4, 2) := by decide +kernel
theorem dX11_wanted_62 : decode cX11_wanted 62 = .ok (.iinc 6 1, 3) := by decide +kernel
theorem dX11_wanted_65 : decode cX11_wanted 65 = .ok (.goto (-35), 3) := by decide +kernel
theorem dX11_wanted_68 : decode cX11_wanted 68 = .ok (.iload_n 2, 1) := by decide +kernel
theorem dX11_wanted_69 : decode cX11_wanted 69 = .ok (.ifCond .eq 8, 3) := by decide +kernel
theorem dX11_wanted_72 : decode cX11_wanted 72 = .ok (.iload 5, 2) := by decide +kernel
theorem dX11_wanted_74 : decode cX11_wanted 74 = .ok (.goto 5, 3) := by decide +kernel
theorem dX11_wanted_77 : decode cX11_wanted 77 = .ok (.iload 4, 2) := by decide +kernel
theorem dX11_wanted_79 : decode cX11_wanted 79 = .ok (.ireturn, 1) := by decide +kernel
theorem dX11_halves_0 : decode cX11_halves 0 = .ok (.aload_n 0, 1) := by decide +kernel
theorem dX11_halves_1 : decode cX11_halves 1 = .ok (.iload_n 1, 1) := by decide +kernel
theorem dX11_halves_2 : decode cX11_halves 2 = .ok (.invokevirtual 105, 3) := by decide +kernel
theorem dX11_halves_5 : decode cX11_halves 5 = .ok (.ifCond .ne 7, 3) := by decide +kernel
theorem dX11_halves_8 : decode cX11_halves 8 = .ok (.sipush (-1000), 3) := by decide +kernel
theorem dX11_halves_11 : decode cX11_halves 11 = .ok (.ireturn, 1) := by decide +kernel
theorem dX11_halves_12 : decode cX11_halves 12 = .ok (.aload_n 0, 1) := by decide +kernel
theorem dX11_halves_13 : decode cX11_halves 13 = .ok (.getfield 12, 3) := by decide +kernel
theorem dX11_halves_16 : decode cX11_halves 16 = .ok (.getfield 109, 3) := by decide +kernel
theorem dX11_halves_19 : decode cX11_halves 19 = .ok (.iload_n 1, 1) := by decide +kernel
theorem dX11_halves_20 : decode cX11_halves 20 = .ok (.aaload, 1) := by decide +kernel
theorem dX11_halves_21 : decode cX11_halves 21 = .ok (.astore_n 3, 1) := by decide +kernel
theorem dX11_halves_22 : decode cX11_halves 22 = .ok (.iconst 0, 1) := by decide +kernel
theorem dX11_halves_23 : decode cX11_halves 23 = .ok (.istore 4, 2) := by decide +kernel
theorem dX11_halves_25 : decode cX11_halves 25 = .ok (.aload_n 0, 1) := by decide +kernel
theorem dX11_halves_26 : decode cX11_halves 26 = .ok (.getfield 66, 3) := by decide +kernel
theorem dX11_halves_29 : decode cX11_halves 29 = .ok (.aload_n 3, 1) := by decide +kernel
theorem dX11_halves_30 : decode cX11_halves 30 = .ok (.getfield 124, 3) := by decide +kernel
theorem dX11_halves_33 : decode cX11_halves 33 = .ok (.iconst 0, 1) := by decide +kernel
theorem dX11_halves_34 : decode cX11_halves 34 = .ok (.iastore, 1) := by decide +kernel
theorem dX11_halves_35 : decode cX11_halves 35 = .ok (.aload_n 3, 1) := by decide +kernel
theorem dX11_halves_36 : decode cX11_halves 36 = .ok (.getfield 124, 3) := by decide +kernel
theorem dX11_halves_39 : decode cX11_halves 39 = .ok (.iconst 1, 1) := by decide +kernel
theorem dX11_halves_40 : decode cX11_halves 40 = .ok (.isub, 1) := by decide +kernel
theorem dX11_halves_41 : decode cX11_halves 41 = .ok (.istore 5, 2) := by decide +kernel
theorem dX11_halves_43 : decode cX11_halves 43 = .ok (.iload 5, 2) := by decide +kernel
theorem dX11_halves_45 : decode cX11_halves 45 = .ok (.ifCond .lt 34, 3) := by decide +kernel
theorem dX11_halves_48 : decode cX11_halves 48 = .ok (.aload_n 0, 1) := by decide +kernel
theorem dX11_halves_49 : decode cX11_halves 49 = .ok (.aload_n 3, 1) := by decide +kernel
theorem dX11_halves_50 : decode cX11_halves 50 = .ok (.iload 5, 2) := by decide +kernel
theorem dX11_halves_52 : decode cX11_halves 52 = .ok (.invokevirtual 278, 3) := by decide +kernel
theorem dX11_halves_55 : decode cX11_halves 55 = .ok (.istore 4, 2) := by decide +kernel
theorem dX11_halves_57 : decode cX11_halves 57 = .ok (.aload_n 0, 1) := by decide +kernel
theorem dX11_halves_58 : decode cX11_halves 58 = .ok (.getfield 66, 3) := by decide +kernel
theorem dX11_halves_61 : decode cX11_halves 61 = .ok (.iload 5, 2) := by decide +kernel
theorem dX11_halves_63 : decode cX11_halves 63 = .ok (.aload_n 0, 1) := by decide +kernel
theorem dX11_halves_64 : decode cX11_halves 64 = .ok (.aload_n 3, 1) := by decide +kernel
theorem dX11_halves_65 : decode cX11_halves 65 = .ok (.iload 5, 2) := by decide +kernel
theorem dX11_halves_67 : decode cX11_halves 67 = .ok (.iload 4, 2) := by decide +kernel
theorem dX11_halves_69 : decode cX11_halves 69 = .ok (.invokevirtual 281, 3) := by decide +kernel
theorem dX11_halves_72 : decode cX11_halves 72 = .ok (.iastore, 1) := by decide +kernel
theorem dX11_halves_73 : decode cX11_halves 73 = .ok (.iinc 5 (-1), 3) := by decide +kernel
theorem dX11_halves_76 : decode cX11_halves 76 = .ok (.goto (-33), 3) := by decide +kernel
theorem dX11_halves_79 : decode cX11_halves 79 = .ok (.iload_n 2, 1) := by decide +kernel
theorem dX11_halves_80 : decode cX11_halves 80 = .ok (.ifCond .eq 8, 3) := by decide +kernel
theorem dX11_halves_83 : decode cX11_halves 83 = .ok (.iload 4, 2) := by decide +kernel
theorem dX11_halves_85 : decode cX11_halves 85 = .ok (.goto 9, 3) := by decide +kernel
theorem dX11_halves_88 : decode cX11_halves 88 = .ok (.aload_n 0, 1) := by decide +kernel
theorem dX11_halves_89 : decode cX11_halves 89 = .ok (.getfield 66, 3) := by decide +kernel
theorem dX11_halves_92 : decode cX11_halves 92 = .ok (.iconst 0, 1) := by decide +kernel
theorem dX11_halves_93 : decode cX11_halves 93 = .ok (.iaload, 1) := by decide +kernel
theorem dX11_halves_94 : decode cX11_halves 94 = .ok (.ireturn, 1) := by decide +kernel
theorem dX11_free_0 : decode cX11_free 0 = .ok (.aload_n 0, 1) := by decide +kernel
theorem dX11_free_1 : decode cX11_free 1 = .ok (.iload_n 1, 1) := by decide +kernel
theorem dX11_free_2 : decode cX11_free 2 = .ok (.iload_n 2, 1) := by decide +kernel
theorem dX11_free_3 : decode cX11_free 3 = .ok (.invokevirtual 118, 3) := by decide +kernel
theorem dX11_free_6 : decode cX11_free 6 = .ok (.ifCond .ne 6, 3) := by decide +kernel
theorem dX11_free_9 : decode cX11_free 9 = .ok (.bipush (-2), 2) := by decide +kernel
theorem dX11_free_11 : decode cX11_free 11 = .ok (.ireturn, 1) := by decide +kernel
theorem dX11_free_12 : decode cX11_free 12 = .ok (.aload_n 0, 1) := by decide +kernel
theorem dX11_free_13 : decode cX11_free 13 = .ok (.getfield 12, 3) := by decide +kernel
theorem dX11_free_16 : decode cX11_free 16 = .ok (.getfield 109, 3) := by decide +kernel
theorem dX11_free_19 : decode cX11_free 19 = .ok (.iload_n 1, 1) := by decide +kernel
theorem dX11_free_20 : decode cX11_free 20 = .ok (.aaload, 1) := by decide +kernel
theorem dX11_free_21 : decode cX11_free 21 = .ok (.astore 4, 2) := by decide +kernel
theorem dX11_free_23 : decode cX11_free 23 = .ok (.iconst 0, 1) := by decide +kernel
theorem dX11_free_24 : decode cX11_free 24 = .ok (.istore 5, 2) := by decide +kernel
theorem dX11_free_26 : decode cX11_free 26 = .ok (.iconst (-1), 1) := by decide +kernel
theorem dX11_free_27 : decode cX11_free 27 = .ok (.istore 6, 2) := by decide +kernel
theorem dX11_free_29 : decode cX11_free 29 = .ok (.iconst 0, 1) := by decide +kernel
theorem dX11_free_30 : decode cX11_free 30 = .ok (.istore 7, 2) := by decide +kernel
theorem dX11_free_32 : decode cX11_free 32 = .ok (.iconst 0, 1) := by decide +kernel
theorem dX11_free_33 : decode cX11_free 33 = .ok (.istore 8, 2) := by decide +kernel
theorem dX11_free_35 : decode cX11_free 35 = .ok (.iload 8, 2) := by decide +kernel
theorem dX11_free_37 : decode cX11_free 37 = .ok (.aload 4, 2) := by decide +kernel
theorem dX11_free_39 : decode cX11_free 39 = .ok (.getfield 124, 3) := by decide +kernel
theorem dX11_free_42 : decode cX11_free 42 = .ok (.if_icmp .ge 51, 3) := by decide +kernel
theorem dX11_free_45 : decode cX11_free 45 = .ok (.aload 4, 2) := by decide +kernel
theorem dX11_free_47 : decode cX11_free 47 = .ok (.getfield 158, 3) := by decide +kernel
theorem dX11_free_50 : decode cX11_free 50 = .ok (.iload 8, 2) := by decide +kernel
theorem dX11_free_52 : decode cX11_free 52 = .ok (.iaload, 1) := by decide +kernel
theorem dX11_free_53 : decode cX11_free 53 = .ok (.iload_n 2, 1) := by decide +kernel
theorem dX11_free_54 : decode cX11_free 54 = .ok (.if_icmp .ne 10, 3) := by decide +kernel
theorem dX11_free_57 : decode cX11_free 57 = .ok (.iload 7, 2) := by decide +kernel
theorem dX11_free_59 : decode cX11_free 59 = .ok (.iconst 1, 1) := by decide +kernel
theorem dX11_free_60 : decode cX11_free 60 = .ok (.iadd, 1) := by decide +kernel
theorem dX11_free_61 : decode cX11_free 61 = .ok (.goto 4, 3) := by decide +kernel
theorem dX11_free_64 : decode cX11_free 64 = .ok (.iconst 0, 1) := by decide +kernel
theorem dX11_free_65 : decode cX11_free 65 = .ok (.istore 7, 2) := by decide +kernel
theorem dX11_free_67 : decode cX11_free 67 = .ok (.iload 7, 2) := by decide +kernel
theorem dX11_free_69 : decode cX11_free 69 = .ok (.iload 5, 2) := by decide +kernel
theorem dX11_free_71 : decode cX11_free 71 = .ok (.if_icmp .le 16, 3) := by decide +kernel
theorem dX11_free_74 : decode cX11_free 74 = .ok (.iload 7, 2) := by decide +kernel
theorem dX11_free_76 : decode cX11_free 76 = .ok (.istore 5, 2) := by decide +kernel
theorem dX11_free_78 : decode cX11_free 78 = .ok (.iload 8, 2) := by decide +kernel
theorem dX11_free_80 : decode cX11_free 80 = .ok (.iload 7, 2) := by decide +kernel
theorem dX11_free_82 : decode cX11_free 82 = .ok (.isub, 1) := by decide +kernel
theorem dX11_free_83 : decode cX11_free 83 = .ok (.iconst 1, 1) := by decide +kernel
theorem dX11_free_84 : decode cX11_free 84 = .ok (.iadd, 1) := by decide +kernel
theorem dX11_free_85 : decode cX11_free 85 = .ok (.istore 6, 2) := by decide +kernel
theorem dX11_free_87 : decode cX11_free 87 = .ok (.iinc 8 1, 3) := by decide +kernel
theorem dX11_free_90 : decode cX11_free 90 = .ok (.goto (-55), 3) := by decide +kernel
theorem dX11_free_93 : decode cX11_free 93 = .ok (.iload_n 3, 1) := by decide +kernel
theorem dX11_free_94 : decode cX11_free 94 = .ok (.ifCond .eq 8, 3) := by decide +kernel
theorem dX11_free_97 : decode cX11_free 97 = .ok (.iload 6, 2) := by decide +kernel
theorem dX11_free_99 : decode cX11_free 99 = .ok (.goto 5, 3) := by decide +kernel
theorem dX11_free_102 : decode cX11_free 102 = .ok (.iload 5, 2) := by decide +kernel
theorem dX11_free_104 : decode cX11_free 104 = .ok (.ireturn, 1) := by decide +kernel
theorem dX11_tin_0 : decode cX11_tin 0 = .ok (.iload_n 1, 1) := by decide +kernel
theorem dX11_tin_1 : decode cX11_tin 1 = .ok (.iconst 0, 1) := by decide +kernel
theorem dX11_tin_2 : decode cX11_tin 2 = .ok (.bipush 10, 2) := by decide +kernel
theorem dX11_tin_4 : decode cX11_tin 4 = .ok (.invokestatic 137, 3) := by decide +kernel
theorem dX11_tin_7 : decode cX11_tin 7 = .ok (.ifCond .eq 23, 3) := by decide +kernel
theorem dX11_tin_10 : decode cX11_tin 10 = .ok (.iload_n 2, 1) := by decide +kernel
theorem dX11_tin_11 : decode cX11_tin 11 = .ok (.iconst 0, 1) := by decide +kernel
theorem dX11_tin_12 : decode cX11_tin 12 = .ok (.bipush 10, 2) := by decide +kernel
theorem dX11_tin_14 : decode cX11_tin 14 = .ok (.invokestatic 137, 3) := by decide +kernel
theorem dX11_tin_17 : decode cX11_tin 17 = .ok (.ifCond .eq 13, 3) := by decide +kernel
theorem dX11_tin_20 : decode cX11_tin 20 = .ok (.iload_n 3, 1) := by decide +kernel
theorem dX11_tin_21 : decode cX11_tin 21 = .ok (.iconst 0, 1) := by decide +kernel
theorem dX11_tin_22 : decode cX11_tin 22 = .ok (.bipush 11, 2) := by decide +kernel
theorem dX11_tin_24 : decode cX11_tin 24 = .ok (.invokestatic 137, 3) := by decide +kernel
theorem dX11_tin_27 : decode cX11_tin 27 = .ok (.ifCond .ne 7, 3) := by decide +kernel
theorem dX11_tin_30 : decode cX11_tin 30 = .ok (.ldc2_w 250, 3) := by decide +kernel
theorem dX11_tin_33 : decode cX11_tin 33 = .ok (.lreturn, 1) := by decide +kernel
theorem dX11_tin_34 : decode cX11_tin 34 = .ok (.iload_n 1, 1) := by decide +kernel
theorem dX11_tin_35 : decode cX11_tin 35 = .ok (.iload_n 2, 1) := by decide +kernel
theorem dX11_tin_36 : decode cX11_tin 36 = .ok (.iload_n 3, 1) := by decide +kernel
theorem dX11_tin_37 : decode cX11_tin 37 = .ok (.invokestatic 293, 3) := by decide +kernel
theorem dX11_tin_40 : decode cX11_tin 40 = .ok (.ldc2_w 297, 3) := by decide +kernel
theorem dX11_tin_43 : decode cX11_tin 43 = .ok (.iload_n 1, 1) := by decide +kernel
theorem dX11_tin_44 : decode cX11_tin 44 = .ok (.invokestatic 299, 3) := by decide +kernel
theorem dX11_tin_47 : decode cX11_tin 47 = .ok (.iload 4, 2) := by decide +kernel
theorem dX11_tin_49 : decode cX11_tin 49 = .ok (.invokestatic 303, 3) := by decide +kernel
theorem dX11_tin_52 : decode cX11_tin 52 = .ok (.lreturn, 1) := by decide +kernel
theorem dX11_enough_0 : decode cX11_enough 0 = .ok (.iload_n 1, 1) := by decide +kernel
theorem dX11_enough_1 : decode cX11_enough 1 = .ok (.iconst 1, 1) := by decide +kernel
theorem dX11_enough_2 : decode cX11_enough 2 = .ok (.bipush 9, 2) := by decide +kernel
theorem dX11_enough_4 : decode cX11_enough 4 = .ok (.invokestatic 137, 3) := by decide +kernel
theorem dX11_enough_7 : decode cX11_enough 7 = .ok (.ifCond .eq 13, 3) := by decide +kernel
theorem dX11_enough_10 : decode cX11_enough 10 = .ok (.iload_n 2, 1) := by decide +kernel
theorem dX11_enough_11 : decode cX11_enough 11 = .ok (.iconst 0, 1) := by decide +kernel
theorem dX11_enough_12 : decode cX11_enough 12 = .ok (.bipush 11, 2) := by decide +kernel
theorem dX11_enough_14 : decode cX11_enough 14 = .ok (.invokestatic 137, 3) := by decide +kernel
theorem dX11_enough_17 : decode cX11_enough 17 = .ok (.ifCond .ne 5, 3) := by decide +kernel
theorem dX11_enough_20 : decode cX11_enough 20 = .ok (.iconst (-1), 1) := by decide +kernel
theorem dX11_enough_21 : decode cX11_enough 21 = .ok (.ireturn, 1) := by decide +kernel
theorem dX11_enough_22 : decode cX11_enough 22 = .ok (.iload_n 1, 1) := by decide +kernel
theorem dX11_enough_23 : decode cX11_enough 23 = .ok (.istore_n 3, 1) := by decide +kernel
theorem dX11_enough_24 : decode cX11_enough 24 = .ok (.iload_n 3, 1) := by decide +kernel
theorem dX11_enough_25 : decode cX11_enough 25 = .ok (.bipush 9, 2) := by decide +kernel
theorem dX11_enough_27 : decode cX11_enough 27 = .ok (.if_icmp .gt 36, 3) := by decide +kernel
theorem dX11_enough_30 : decode cX11_enough 30 = .ok (.iload_n 3, 1) := by decide +kernel
theorem dX11_enough_31 : decode cX11_enough 31 = .ok (.iload_n 1, 1) := by decide +kernel
theorem dX11_enough_32 : decode cX11_enough 32 = .ok (.iload_n 2, 1) := by decide +kernel
theorem dX11_enough_33 : decode cX11_enough 33 = .ok (.invokestatic 293, 3) := by decide +kernel
theorem dX11_enough_36 : decode cX11_enough 36 = .ok (.ldc2_w 297, 3) := by decide +kernel
theorem dX11_enough_39 : decode cX11_enough 39 = .ok (.lmul, 1) := by decide +kernel
theorem dX11_enough_40 : decode cX11_enough 40 = .ok (.ldc2_w 297, 3) := by decide +kernel
theorem dX11_enough_43 : decode cX11_enough 43 = .ok (.iload_n 3, 1) := by decide +kernel
theorem dX11_enough_44 : decode cX11_enough 44 = .ok (.invokestatic 299, 3) := by decide +kernel
theorem dX11_enough_47 : decode cX11_enough 47 = .ok (.ldc2_w 307, 3) := by decide +kernel
theorem dX11_enough_50 : decode cX11_enough 50 = .ok (.lmul, 1) := by decide +kernel
theorem dX11_enough_51 : decode cX11_enough 51 = .ok (.lcmp, 1) := by decide +kernel
theorem dX11_enough_52 : decode cX11_enough 52 = .ok (.ifCond .lt 5, 3) := by decide +kernel
theorem dX11_enough_55 : decode cX11_enough 55 = .ok (.iload_n 3, 1) := by decide +kernel
theorem dX11_enough_56 : decode cX11_enough 56 = .ok (.ireturn, 1) := by decide +kernel
theorem dX11_enough_57 : decode cX11_enough 57 = .ok (.iinc 3 1, 3) := by decide +kernel
theorem dX11_enough_60 : decode cX11_enough 60 = .ok (.goto (-36), 3) := by decide +kernel
theorem dX11_enough_63 : decode cX11_enough 63 = .ok (.iconst (-1), 1) := by decide +kernel
theorem dX11_enough_64 : decode cX11_enough 64 = .ok (.ireturn, 1) := by decide +kernel
theorem dX11_waits_0 : decode cX11_waits 0 = .ok (.iload_n 1, 1) := by decide +kernel
theorem dX11_waits_1 : decode cX11_waits 1 = .ok (.iconst 1, 1) := by decide +kernel
theorem dX11_waits_2 : decode cX11_waits 2 = .ok (.bipush 9, 2) := by decide +kernel
theorem dX11_waits_4 : decode cX11_waits 4 = .ok (.invokestatic 137, 3) := by decide +kernel
theorem dX11_waits_7 : decode cX11_waits 7 = .ok (.ifCond .eq 12, 3) := by decide +kernel
theorem dX11_waits_10 : decode cX11_waits 10 = .ok (.iload_n 2, 1) := by decide +kernel
theorem dX11_waits_11 : decode cX11_waits 11 = .ok (.iconst 0, 1) := by decide +kernel
theorem dX11_waits_12 : decode cX11_waits 12 = .ok (.iconst 3, 1) := by decide +kernel
theorem dX11_waits_13 : decode cX11_waits 13 = .ok (.invokestatic 137, 3) := by decide +kernel
theorem dX11_waits_16 : decode cX11_waits 16 = .ok (.ifCond .ne 7, 3) := by decide +kernel
theorem dX11_waits_19 : decode cX11_waits 19 = .ok (.ldc2_w 250, 3) := by decide +kernel
theorem dX11_waits_22 : decode cX11_waits 22 = .ok (.lreturn, 1) := by decide +kernel
theorem dX11_waits_23 : decode cX11_waits 23 = .ok (.lconst 0, 1) := by decide +kernel
theorem dX11_waits_24 : decode cX11_waits 24 = .ok (.lstore_n 3, 1) := by decide +kernel
theorem dX11_waits_25 : decode cX11_waits 25 = .ok (.iconst 0, 1) := by decide +kernel
theorem dX11_waits_26 : decode cX11_waits 26 = .ok (.istore 5, 2) := by decide +kernel
theorem dX11_waits_28 : decode cX11_waits 28 = .ok (.iload 5, 2) := by decide +kernel
theorem dX11_waits_30 : decode cX11_waits 30 = .ok (.iload_n 1, 1) := by decide +kernel
theorem dX11_waits_31 : decode cX11_waits 31 = .ok (.iconst 1, 1) := by decide +kernel
theorem dX11_waits_32 : decode cX11_waits 32 = .ok (.isub, 1) := by decide +kernel
theorem dX11_waits_33 : decode cX11_waits 33 = .ok (.if_icmp .ge 22, 3) := by decide +kernel
theorem dX11_waits_36 : decode cX11_waits 36 = .ok (.lload_n 3, 1) := by decide +kernel
theorem dX11_waits_37 : decode cX11_waits 37 = .ok (.ldc2_w 297, 3) := by decide +kernel
theorem dX11_waits_40 : decode cX11_waits 40 = .ok (.iload 5, 2) := by decide +kernel
theorem dX11_waits_42 : decode cX11_waits 42 = .ok (.invokestatic 299, 3) := by decide +kernel
theorem dX11_waits_45 : decode cX11_waits 45 = .ok (.invokestatic 317, 3) := by decide +kernel
theorem dX11_waits_48 : decode cX11_waits 48 = .ok (.lstore_n 3, 1) := by decide +kernel
theorem dX11_waits_49 : decode cX11_waits 49 = .ok (.iinc 5 1, 3) := by decide +kernel
theorem dX11_waits_52 : decode cX11_waits 52 = .ok (.goto (-24), 3) := by decide +kernel
theorem dX11_waits_55 : decode cX11_waits 55 = .ok (.ldc2_w 297, 3) := by decide +kernel
theorem dX11_waits_58 : decode cX11_waits 58 = .ok (.iload_n 1, 1) := by decide +kernel
theorem dX11_waits_59 : decode cX11_waits 59 = .ok (.iconst 1, 1) := by decide +kernel
theorem dX11_waits_60 : decode cX11_waits 60 = .ok (.isub, 1) := by decide +kernel
theorem dX11_waits_61 : decode cX11_waits 61 = .ok (.invokestatic 299, 3) := by decide +kernel
theorem dX11_waits_64 : decode cX11_waits 64 = .ok (.lstore 5, 2) := by decide +kernel
theorem dX11_waits_66 : decode cX11_waits 66 = .ok (.iload_n 2, 1) := by decide +kernel
theorem dX11_waits_67 : decode cX11_waits 67 = .ok (.iconst 2, 1) := by decide +kernel
theorem dX11_waits_68 : decode cX11_waits 68 = .ok (.if_icmp .ne 11, 3) := by decide +kernel
theorem dX11_waits_71 : decode cX11_waits 71 = .ok (.lload_n 3, 1) := by decide +kernel
theorem dX11_waits_72 : decode cX11_waits 72 = .ok (.lload 5, 2) := by decide +kernel
theorem dX11_waits_74 : decode cX11_waits 74 = .ok (.invokestatic 320, 3) := by decide +kernel
theorem dX11_waits_77 : decode cX11_waits 77 = .ok (.i2l, 1) := by decide +kernel
theorem dX11_waits_78 : decode cX11_waits 78 = .ok (.lreturn, 1) := by decide +kernel
theorem dX11_waits_79 : decode cX11_waits 79 = .ok (.lload_n 3, 1) := by decide +kernel
theorem dX11_waits_80 : decode cX11_waits 80 = .ok (.lload 5, 2) := by decide +kernel
theorem dX11_waits_82 : decode cX11_waits 82 = .ok (.invokestatic 317, 3) := by decide +kernel
theorem dX11_waits_85 : decode cX11_waits 85 = .ok (.lload 5, 2) := by decide +kernel
theorem dX11_waits_87 : decode cX11_waits 87 = .ok (.ldc2_w 297, 3) := by decide +kernel
theorem dX11_waits_90 : decode cX11_waits 90 = .ok (.lmul, 1) := by decide +kernel
theorem dX11_waits_91 : decode cX11_waits 91 = .ok (.iload_n 2, 1) := by decide +kernel
theorem dX11_waits_92 : decode cX11_waits 92 = .ok (.iconst 1, 1) := by decide +kernel
theorem dX11_waits_93 : decode cX11_waits 93 = .ok (.if_icmp .ne 7, 3) := by decide +kernel
theorem dX11_waits_96 : decode cX11_waits 96 = .ok (.iconst 1, 1) := by decide +kernel
theorem dX11_waits_97 : decode cX11_waits 97 = .ok (.goto 4, 3) := by decide +kernel
theorem dX11_waits_100 : decode cX11_waits 100 = .ok (.iconst 0, 1) := by decide +kernel
theorem dX11_waits_101 : decode cX11_waits 101 = .ok (.invokestatic 303, 3) := by decide +kernel
theorem dX11_waits_104 : decode cX11_waits 104 = .ok (.lreturn, 1) := by decide +kernel
theorem dJ1_charAt_3b067_0 : decode cJ1_charAt_3b067 0 = .ok (.iload_n 1, 1) := by decide +kernel
theorem dJ1_charAt_3b067_1 : decode cJ1_charAt_3b067 1 = .ok (.aload_n 0, 1) := by decide +kernel
theorem dJ1_charAt_3b067_2 : decode cJ1_charAt_3b067 2 = .ok (.arraylength, 1) := by decide +kernel
theorem dJ1_charAt_3b067_3 : decode cJ1_charAt_3b067 3 = .ok (.invokestatic 9, 3) := by decide +kernel
theorem dJ1_charAt_3b067_6 : decode cJ1_charAt_3b067 6 = .ok (.aload_n 0, 1) := by decide +kernel
theorem dJ1_charAt_3b067_7 : decode cJ1_charAt_3b067 7 = .ok (.iload_n 1, 1) := by decide +kernel
theorem dJ1_charAt_3b067_8 : decode cJ1_charAt_3b067 8 = .ok (.baload, 1) := by decide +kernel
theorem dJ1_charAt_3b067_9 : decode cJ1_charAt_3b067 9 = .ok (.sipush 255, 3) := by decide +kernel
theorem dJ1_charAt_3b067_12 : decode cJ1_charAt_3b067 12 = .ok (.iand, 1) := by decide +kernel
theorem dJ1_charAt_3b067_13 : decode cJ1_charAt_3b067 13 = .ok (.i2c, 1) := by decide +kernel
theorem dJ1_charAt_3b067_14 : decode cJ1_charAt_3b067 14 = .ok (.ireturn, 1) := by decide +kernel
theorem dX0_rankOf_0 : decode cX0_rankOf 0 = .ok (.aload_n 0, 1) := by decide +kernel
theorem dX0_rankOf_1 : decode cX0_rankOf 1 = .ok (.aload_n 1, 1) := by decide +kernel
theorem dX0_rankOf_2 : decode cX0_rankOf 2 = .ok (.iload_n 2, 1) := by decide +kernel
theorem dX0_rankOf_3 : decode cX0_rankOf 3 = .ok (.invokevirtual 62, 3) := by decide +kernel
theorem dX0_rankOf_6 : decode cX0_rankOf 6 = .ok (.istore_n 3, 1) := by decide +kernel
theorem dX0_rankOf_7 : decode cX0_rankOf 7 = .ok (.iconst 0, 1) := by decide +kernel
theorem dX0_rankOf_8 : decode cX0_rankOf 8 = .ok (.istore 4, 2) := by decide +kernel
theorem dX0_rankOf_10 : decode cX0_rankOf 10 = .ok (.iconst 0, 1) := by decide +kernel
theorem dX0_rankOf_11 : decode cX0_rankOf 11 = .ok (.istore 5, 2) := by decide +kernel
theorem dX0_rankOf_13 : decode cX0_rankOf 13 = .ok (.iload 5, 2) := by decide +kernel
theorem dX0_rankOf_15 : decode cX0_rankOf 15 = .ok (.aload_n 1, 1) := by decide +kernel
theorem dX0_rankOf_16 : decode cX0_rankOf 16 = .ok (.getfield 21, 3) := by decide +kernel
theorem dX0_rankOf_19 : decode cX0_rankOf 19 = .ok (.if_icmp .ge 45, 3) := by decide +kernel
theorem dX0_rankOf_22 : decode cX0_rankOf 22 = .ok (.aload_n 0, 1) := by decide +kernel
theorem dX0_rankOf_23 : decode cX0_rankOf 23 = .ok (.aload_n 1, 1) := by decide +kernel
theorem dX0_rankOf_24 : decode cX0_rankOf 24 = .ok (.iload 5, 2) := by decide +kernel
theorem dX0_rankOf_26 : decode cX0_rankOf 26 = .ok (.invokevirtual 62, 3) := by decide +kernel
theorem dX0_rankOf_29 : decode cX0_rankOf 29 = .ok (.istore 6, 2) := by decide +kernel
theorem dX0_rankOf_31 : decode cX0_rankOf 31 = .ok (.iload 6, 2) := by decide +kernel
theorem dX0_rankOf_33 : decode cX0_rankOf 33 = .ok (.iconst (-1), 1) := by decide +kernel
theorem dX0_rankOf_34 : decode cX0_rankOf 34 = .ok (.if_icmp .eq 24, 3) := by decide +kernel
theorem dX0_rankOf_37 : decode cX0_rankOf 37 = .ok (.iload 6, 2) := by decide +kernel
theorem dX0_rankOf_39 : decode cX0_rankOf 39 = .ok (.iload_n 3, 1) := by decide +kernel
theorem dX0_rankOf_40 : decode cX0_rankOf 40 = .ok (.if_icmp .lt 15, 3) := by decide +kernel
theorem dX0_rankOf_43 : decode cX0_rankOf 43 = .ok (.iload 6, 2) := by decide +kernel
theorem dX0_rankOf_45 : decode cX0_rankOf 45 = .ok (.iload_n 3, 1) := by decide +kernel
theorem dX0_rankOf_46 : decode cX0_rankOf 46 = .ok (.if_icmp .ne 12, 3) := by decide +kernel
theorem dX0_rankOf_49 : decode cX0_rankOf 49 = .ok (.iload 5, 2) := by decide +kernel
theorem dX0_rankOf_51 : decode cX0_rankOf 51 = .ok (.iload_n 2, 1) := by decide +kernel
theorem dX0_rankOf_52 : decode cX0_rankOf 52 = .ok (.if_icmp .ge 6, 3) := by decide +kernel
theorem dX0_rankOf_55 : decode cX0_rankOf 55 = .ok (.iinc 4 1, 3) := by decide +kernel
theorem dX0_rankOf_58 : decode cX0_rankOf 58 = .ok (.iinc 5 1, 3) := by decide +kernel
theorem dX0_rankOf_61 : decode cX0_rankOf 61 = .ok (.goto (-48), 3) := by decide +kernel
theorem dX0_rankOf_64 : decode cX0_rankOf 64 = .ok (.iload 4, 2) := by decide +kernel
theorem dX0_rankOf_66 : decode cX0_rankOf 66 = .ok (.ireturn, 1) := by decide +kernel
theorem dX0_choose_0 : decode cX0_choose 0 = .ok (.aload_n 0, 1) := by decide +kernel
theorem dX0_choose_1 : decode cX0_choose 1 = .ok (.aload_n 1, 1) := by decide +kernel
theorem dX0_choose_2 : decode cX0_choose 2 = .ok (.iload_n 2, 1) := by decide +kernel
theorem dX0_choose_3 : decode cX0_choose 3 = .ok (.lload_n 3, 1) := by decide +kernel
theorem dX0_choose_4 : decode cX0_choose 4 = .ok (.invokevirtual 99, 3) := by decide +kernel
theorem dX0_choose_7 : decode cX0_choose 7 = .ok (.aload_n 0, 1) := by decide +kernel
theorem dX0_choose_8 : decode cX0_choose 8 = .ok (.aload_n 1, 1) := by decide +kernel
theorem dX0_choose_9 : decode cX0_choose 9 = .ok (.aload_n 1, 1) := by decide +kernel
theorem dX0_choose_10 : decode cX0_choose 10 = .ok (.invokevirtual 75, 3) := by decide +kernel
theorem dX0_choose_13 : decode cX0_choose 13 = .ok (.iconst 1, 1) := by decide +kernel
theorem dX0_choose_14 : decode cX0_choose 14 = .ok (.isub, 1) := by decide +kernel
theorem dX0_choose_15 : decode cX0_choose 15 = .ok (.invokevirtual 103, 3) := by decide +kernel
theorem dX0_choose_18 : decode cX0_choose 18 = .ok (.aload_n 0, 1) := by decide +kernel
theorem dX0_choose_19 : decode cX0_choose 19 = .ok (.iconst 0, 1) := by decide +kernel
theorem dX0_choose_20 : decode cX0_choose 20 = .ok (.putfield 107, 3) := by decide +kernel
theorem dX0_choose_23 : decode cX0_choose 23 = .ok (.aload_n 0, 1) := by decide +kernel
theorem dX0_choose_24 : decode cX0_choose 24 = .ok (.iconst 0, 1) := by decide +kernel
theorem dX0_choose_25 : decode cX0_choose 25 = .ok (.putfield 110, 3) := by decide +kernel
theorem dX0_choose_28 : decode cX0_choose 28 = .ok (.iconst 1, 1) := by decide +kernel
theorem dX0_choose_29 : decode cX0_choose 29 = .ok (.istore 5, 2) := by decide +kernel
theorem dX0_choose_31 : decode cX0_choose 31 = .ok (.iload 5, 2) := by decide +kernel
theorem dX0_choose_33 : decode cX0_choose 33 = .ok (.aload_n 1, 1) := by decide +kernel
theorem dX0_choose_34 : decode cX0_choose 34 = .ok (.invokevirtual 75, 3) := by decide +kernel
theorem dX0_choose_37 : decode cX0_choose 37 = .ok (.if_icmp .ge 50, 3) := by decide +kernel
theorem dX0_choose_40 : decode cX0_choose 40 = .ok (.aload_n 0, 1) := by decide +kernel
theorem dX0_choose_41 : decode cX0_choose 41 = .ok (.aload_n 1, 1) := by decide +kernel
theorem dX0_choose_42 : decode cX0_choose 42 = .ok (.iload 5, 2) := by decide +kernel
theorem dX0_choose_44 : decode cX0_choose 44 = .ok (.invokevirtual 113, 3) := by decide +kernel
theorem dX0_choose_47 : decode cX0_choose 47 = .ok (.istore 6, 2) := by decide +kernel
theorem dX0_choose_49 : decode cX0_choose 49 = .ok (.iload 6, 2) := by decide +kernel
theorem dX0_choose_51 : decode cX0_choose 51 = .ok (.iconst (-1), 1) := by decide +kernel
theorem dX0_choose_52 : decode cX0_choose 52 = .ok (.if_icmp .eq 29, 3) := by decide +kernel
theorem dX0_choose_55 : decode cX0_choose 55 = .ok (.iload 6, 2) := by decide +kernel
theorem dX0_choose_57 : decode cX0_choose 57 = .ok (.aload_n 1, 1) := by decide +kernel
theorem dX0_choose_58 : decode cX0_choose 58 = .ok (.getfield 116, 3) := by decide +kernel
theorem dX0_choose_61 : decode cX0_choose 61 = .ok (.iload_n 2, 1) := by decide +kernel
theorem dX0_choose_62 : decode cX0_choose 62 = .ok (.iaload, 1) := by decide +kernel
theorem dX0_choose_63 : decode cX0_choose 63 = .ok (.if_icmp .gt 18, 3) := by decide +kernel
theorem dX0_choose_66 : decode cX0_choose 66 = .ok (.aload_n 0, 1) := by decide +kernel
theorem dX0_choose_67 : decode cX0_choose 67 = .ok (.iload 5, 2) := by decide +kernel
theorem dX0_choose_69 : decode cX0_choose 69 = .ok (.aload_n 1, 1) := by decide +kernel
theorem dX0_choose_70 : decode cX0_choose 70 = .ok (.iload 5, 2) := by decide +kernel
theorem dX0_choose_72 : decode cX0_choose 72 = .ok (.invokevirtual 119, 3) := by decide +kernel
theorem dX0_choose_75 : decode cX0_choose 75 = .ok (.iload 6, 2) := by decide +kernel
theorem dX0_choose_77 : decode cX0_choose 77 = .ok (.isub, 1) := by decide +kernel
theorem dX0_choose_78 : decode cX0_choose 78 = .ok (.invokevirtual 122, 3) := by decide +kernel
theorem dX0_choose_81 : decode cX0_choose 81 = .ok (.iinc 5 1, 3) := by decide +kernel
theorem dX0_choose_84 : decode cX0_choose 84 = .ok (.goto (-53), 3) := by decide +kernel
theorem dX0_choose_87 : decode cX0_choose 87 = .ok (.return_, 1) := by decide +kernel
theorem dX0_give_0 : decode cX0_give 0 = .ok (.aload_n 0, 1) := by decide +kernel
theorem dX0_give_1 : decode cX0_give 1 = .ok (.aload_n 1, 1) := by decide +kernel
theorem dX0_give_2 : decode cX0_give 2 = .ok (.iload_n 2, 1) := by decide +kernel
theorem dX0_give_3 : decode cX0_give 3 = .ok (.invokestatic 131, 3) := by decide +kernel
theorem dX0_give_6 : decode cX0_give 6 = .ok (.putfield 134, 3) := by decide +kernel
theorem dX0_give_9 : decode cX0_give 9 = .ok (.aload_n 0, 1) := by decide +kernel
theorem dX0_give_10 : decode cX0_give 10 = .ok (.aload_n 0, 1) := by decide +kernel
theorem dX0_give_11 : decode cX0_give 11 = .ok (.getfield 134, 3) := by decide +kernel
theorem dX0_give_14 : decode cX0_give 14 = .ok (.iconst (-1), 1) := by decide +kernel
theorem dX0_give_15 : decode cX0_give 15 = .ok (.if_icmp .ne 7, 3) := by decide +kernel
theorem dX0_give_18 : decode cX0_give 18 = .ok (.iconst (-1), 1) := by decide +kernel
theorem dX0_give_19 : decode cX0_give 19 = .ok (.goto 9, 3) := by decide +kernel
theorem dX0_give_22 : decode cX0_give 22 = .ok (.aload_n 0, 1) := by decide +kernel
theorem dX0_give_23 : decode cX0_give 23 = .ok (.aload_n 1, 1) := by decide +kernel
theorem dX0_give_24 : decode cX0_give 24 = .ok (.iload_n 3, 1) := by decide +kernel
theorem dX0_give_25 : decode cX0_give 25 = .ok (.invokevirtual 113, 3) := by decide +kernel
theorem dX0_give_28 : decode cX0_give 28 = .ok (.putfield 137, 3) := by decide +kernel
theorem dX0_give_31 : decode cX0_give 31 = .ok (.aload_n 0, 1) := by decide +kernel
theorem dX0_give_32 : decode cX0_give 32 = .ok (.getfield 137, 3) := by decide +kernel
theorem dX0_give_35 : decode cX0_give 35 = .ok (.iconst (-1), 1) := by decide +kernel
theorem dX0_give_36 : decode cX0_give 36 = .ok (.if_icmp .ne 9, 3) := by decide +kernel
theorem dX0_give_39 : decode cX0_give 39 = .ok (.aload_n 0, 1) := by decide +kernel
theorem dX0_give_40 : decode cX0_give 40 = .ok (.iconst (-1), 1) := by decide +kernel
theorem dX0_give_41 : decode cX0_give 41 = .ok (.putfield 134, 3) := by decide +kernel
theorem dX0_give_44 : decode cX0_give 44 = .ok (.return_, 1) := by decide +kernel
theorem dX0_give_45 : decode cX0_give 45 = .ok (.aload_n 0, 1) := by decide +kernel
theorem dX0_give_46 : decode cX0_give 46 = .ok (.aload_n 1, 1) := by decide +kernel
theorem dX0_give_47 : decode cX0_give 47 = .ok (.iload_n 2, 1) := by decide +kernel
theorem dX0_give_48 : decode cX0_give 48 = .ok (.iload_n 3, 1) := by decide +kernel
theorem dX0_give_49 : decode cX0_give 49 = .ok (.invokevirtual 140, 3) := by decide +kernel
theorem dX0_give_52 : decode cX0_give 52 = .ok (.aload_n 0, 1) := by decide +kernel
theorem dX0_give_53 : decode cX0_give 53 = .ok (.getfield 18, 3) := by decide +kernel
theorem dX0_give_56 : decode cX0_give 56 = .ok (.aload_n 1, 1) := by decide +kernel
theorem dX0_give_57 : decode cX0_give 57 = .ok (.getfield 27, 3) := by decide +kernel
theorem dX0_give_60 : decode cX0_give 60 = .ok (.bipush 64, 2) := by decide +kernel
theorem dX0_give_62 : decode cX0_give 62 = .ok (.imul, 1) := by decide +kernel
theorem dX0_give_63 : decode cX0_give 63 = .ok (.iload_n 3, 1) := by decide +kernel
theorem dX0_give_64 : decode cX0_give 64 = .ok (.iadd, 1) := by decide +kernel
theorem dX0_give_65 : decode cX0_give 65 = .ok (.laload, 1) := by decide +kernel
theorem dX0_give_66 : decode cX0_give 66 = .ok (.lstore 4, 2) := by decide +kernel
theorem dX0_give_68 : decode cX0_give 68 = .ok (.lload 4, 2) := by decide +kernel
theorem dX0_give_70 : decode cX0_give 70 = .ok (.aload_n 0, 1) := by decide +kernel
theorem dX0_give_71 : decode cX0_give 71 = .ok (.getfield 137, 3) := by decide +kernel
theorem dX0_give_74 : decode cX0_give 74 = .ok (.i2l, 1) := by decide +kernel
theorem dX0_give_75 : decode cX0_give 75 = .ok (.bipush 6, 2) := by decide +kernel
theorem dX0_give_77 : decode cX0_give 77 = .ok (.lshl, 1) := by decide +kernel
theorem dX0_give_78 : decode cX0_give 78 = .ok (.lcmp, 1) := by decide +kernel
theorem dX0_give_79 : decode cX0_give 79 = .ok (.ifCond .ge 23, 3) := by decide +kernel
theorem dX0_give_82 : decode cX0_give 82 = .ok (.aload_n 0, 1) := by decide +kernel
theorem dX0_give_83 : decode cX0_give 83 = .ok (.lload 4, 2) := by decide +kernel
theorem dX0_give_85 : decode cX0_give 85 = .ok (.l2i, 1) := by decide +kernel
theorem dX0_give_86 : decode cX0_give 86 = .ok (.bipush 63, 2) := by decide +kernel
theorem dX0_give_88 : decode cX0_give 88 = .ok (.iand, 1) := by decide +kernel
theorem dX0_give_89 : decode cX0_give 89 = .ok (.putfield 134, 3) := by decide +kernel
theorem dX0_give_92 : decode cX0_give 92 = .ok (.aload_n 0, 1) := by decide +kernel
theorem dX0_give_93 : decode cX0_give 93 = .ok (.lload 4, 2) := by decide +kernel
theorem dX0_give_95 : decode cX0_give 95 = .ok (.bipush 6, 2) := by decide +kernel
theorem dX0_give_97 : decode cX0_give 97 = .ok (.lshr, 1) := by decide +kernel
theorem dX0_give_98 : decode cX0_give 98 = .ok (.l2i, 1) := by decide +kernel
theorem dX0_give_99 : decode cX0_give 99 = .ok (.putfield 137, 3) := by decide +kernel
theorem dX0_give_102 : decode cX0_give 102 = .ok (.return_, 1) := by decide +kernel
theorem dX3_goes_0 : decode cX3_goes 0 = .ok (.iload_n 1, 1) := by decide +kernel
theorem dX3_goes_1 : decode cX3_goes 1 = .ok (.tableswitch 94 6 12 #[43, 57, 64, 50, 71, 80, 87], 43) := by decide +kernel
theorem dX3_goes_44 : decode cX3_goes 44 = .ok (.aload_n 0, 1) := by decide +kernel
theorem dX3_goes_45 : decode cX3_goes 45 = .ok (.iload_n 2, 1) := by decide +kernel
theorem dX3_goes_46 : decode cX3_goes 46 = .ok (.iload_n 3, 1) := by decide +kernel
theorem dX3_goes_47 : decode cX3_goes 47 = .ok (.invokevirtual 65, 3) := by decide +kernel
theorem dX3_goes_50 : decode cX3_goes 50 = .ok (.ireturn, 1) := by decide +kernel
theorem dX3_goes_51 : decode cX3_goes 51 = .ok (.aload_n 0, 1) := by decide +kernel
theorem dX3_goes_52 : decode cX3_goes 52 = .ok (.iload_n 2, 1) := by decide +kernel
theorem dX3_goes_53 : decode cX3_goes 53 = .ok (.iload_n 3, 1) := by decide +kernel
theorem dX3_goes_54 : decode cX3_goes 54 = .ok (.invokevirtual 69, 3) := by decide +kernel
theorem dX3_goes_57 : decode cX3_goes 57 = .ok (.ireturn, 1) := by decide +kernel
theorem dX3_goes_58 : decode cX3_goes 58 = .ok (.aload_n 0, 1) := by decide +kernel
theorem dX3_goes_59 : decode cX3_goes 59 = .ok (.iload_n 2, 1) := by decide +kernel
theorem dX3_goes_60 : decode cX3_goes 60 = .ok (.iload_n 3, 1) := by decide +kernel
theorem dX3_goes_61 : decode cX3_goes 61 = .ok (.invokevirtual 72, 3) := by decide +kernel
theorem dX3_goes_64 : decode cX3_goes 64 = .ok (.ireturn, 1) := by decide +kernel
theorem dX3_goes_65 : decode cX3_goes 65 = .ok (.aload_n 0, 1) := by decide +kernel
theorem dX3_goes_66 : decode cX3_goes 66 = .ok (.iload_n 2, 1) := by decide +kernel
theorem dX3_goes_67 : decode cX3_goes 67 = .ok (.iload_n 3, 1) := by decide +kernel
theorem dX3_goes_68 : decode cX3_goes 68 = .ok (.invokevirtual 75, 3) := by decide +kernel
theorem dX3_goes_71 : decode cX3_goes 71 = .ok (.ireturn, 1) := by decide +kernel
theorem dX3_goes_72 : decode cX3_goes 72 = .ok (.aload_n 0, 1) := by decide +kernel
theorem dX3_goes_73 : decode cX3_goes 73 = .ok (.iload_n 2, 1) := by decide +kernel
theorem dX3_goes_74 : decode cX3_goes 74 = .ok (.iload_n 3, 1) := by decide +kernel
theorem dX3_goes_75 : decode cX3_goes 75 = .ok (.iload 4, 2) := by decide +kernel
theorem dX3_goes_77 : decode cX3_goes 77 = .ok (.invokevirtual 78, 3) := by decide +kernel
theorem dX3_goes_80 : decode cX3_goes 80 = .ok (.ireturn, 1) := by decide +kernel
theorem dX3_goes_81 : decode cX3_goes 81 = .ok (.aload_n 0, 1) := by decide +kernel
theorem dX3_goes_82 : decode cX3_goes 82 = .ok (.iload_n 2, 1) := by decide +kernel
theorem dX3_goes_83 : decode cX3_goes 83 = .ok (.iconst 1, 1) := by decide +kernel
theorem dX3_goes_84 : decode cX3_goes 84 = .ok (.invokevirtual 82, 3) := by decide +kernel
theorem dX3_goes_87 : decode cX3_goes 87 = .ok (.ireturn, 1) := by decide +kernel
theorem dX3_goes_88 : decode cX3_goes 88 = .ok (.aload_n 0, 1) := by decide +kernel
theorem dX3_goes_89 : decode cX3_goes 89 = .ok (.iload_n 2, 1) := by decide +kernel
theorem dX3_goes_90 : decode cX3_goes 90 = .ok (.iconst (-1), 1) := by decide +kernel
theorem dX3_goes_91 : decode cX3_goes 91 = .ok (.invokevirtual 82, 3) := by decide +kernel
theorem dX3_goes_94 : decode cX3_goes 94 = .ok (.ireturn, 1) := by decide +kernel
theorem dX3_goes_95 : decode cX3_goes 95 = .ok (.iconst 0, 1) := by decide +kernel
theorem dX3_goes_96 : decode cX3_goes 96 = .ok (.ireturn, 1) := by decide +kernel
theorem dX3_drawDo_0 : decode cX3_drawDo 0 = .ok (.aload_n 0, 1) := by decide +kernel
theorem dX3_drawDo_1 : decode cX3_drawDo 1 = .ok (.getfield 12, 3) := by decide +kernel
theorem dX3_drawDo_4 : decode cX3_drawDo 4 = .ok (.getfield 150, 3) := by decide +kernel
theorem dX3_drawDo_7 : decode cX3_drawDo 7 = .ok (.ifCond .ne 4, 3) := by decide +kernel
theorem dX3_drawDo_10 : decode cX3_drawDo 10 = .ok (.return_, 1) := by decide +kernel
theorem dX3_drawDo_11 : decode cX3_drawDo 11 = .ok (.aload_n 0, 1) := by decide +kernel
theorem dX3_drawDo_12 : decode cX3_drawDo 12 = .ok (.aload_n 0, 1) := by decide +kernel
theorem dX3_drawDo_13 : decode cX3_drawDo 13 = .ok (.getfield 12, 3) := by decide +kernel
theorem dX3_drawDo_16 : decode cX3_drawDo 16 = .ok (.getfield 147, 3) := by decide +kernel
theorem dX3_drawDo_19 : decode cX3_drawDo 19 = .ok (.invokevirtual 137, 3) := by decide +kernel
theorem dX3_drawDo_22 : decode cX3_drawDo 22 = .ok (.istore_n 1, 1) := by decide +kernel
theorem dX3_drawDo_23 : decode cX3_drawDo 23 = .ok (.aload_n 0, 1) := by decide +kernel
theorem dX3_drawDo_24 : decode cX3_drawDo 24 = .ok (.aload_n 0, 1) := by decide +kernel
theorem dX3_drawDo_25 : decode cX3_drawDo 25 = .ok (.getfield 12, 3) := by decide +kernel
theorem dX3_drawDo_28 : decode cX3_drawDo 28 = .ok (.getfield 150, 3) := by decide +kernel
theorem dX3_drawDo_31 : decode cX3_drawDo 31 = .ok (.invokevirtual 137, 3) := by decide +kernel
theorem dX3_drawDo_34 : decode cX3_drawDo 34 = .ok (.istore_n 2, 1) := by decide +kernel
theorem dX3_drawDo_35 : decode cX3_drawDo 35 = .ok (.aload_n 0, 1) := by decide +kernel
theorem dX3_drawDo_36 : decode cX3_drawDo 36 = .ok (.iload_n 1, 1) := by decide +kernel
theorem dX3_drawDo_37 : decode cX3_drawDo 37 = .ok (.iload_n 2, 1) := by decide +kernel
theorem dX3_drawDo_38 : decode cX3_drawDo 38 = .ok (.aload_n 0, 1) := by decide +kernel
theorem dX3_drawDo_39 : decode cX3_drawDo 39 = .ok (.aload_n 0, 1) := by decide +kernel
theorem dX3_drawDo_40 : decode cX3_drawDo 40 = .ok (.getfield 12, 3) := by decide +kernel
theorem dX3_drawDo_43 : decode cX3_drawDo 43 = .ok (.getfield 128, 3) := by decide +kernel
theorem dX3_drawDo_46 : decode cX3_drawDo 46 = .ok (.invokevirtual 137, 3) := by decide +kernel
theorem dX3_drawDo_49 : decode cX3_drawDo 49 = .ok (.invokevirtual 78, 3) := by decide +kernel
theorem dX3_drawDo_52 : decode cX3_drawDo 52 = .ok (.pop, 1) := by decide +kernel
theorem dX3_drawDo_53 : decode cX3_drawDo 53 = .ok (.return_, 1) := by decide +kernel
theorem dX4_tellLine_0 : decode cX4_tellLine 0 = .ok (.iload_n 1, 1) := by decide +kernel
theorem dX4_tellLine_1 : decode cX4_tellLine 1 = .ok (.tableswitch 83 0 2 #[27, 35, 64], 27) := by decide +kernel
theorem dX4_tellLine_28 : decode cX4_tellLine 28 = .ok (.aload_n 0, 1) := by decide +kernel
theorem dX4_tellLine_29 : decode cX4_tellLine 29 = .ok (.iload_n 2, 1) := by decide +kernel
theorem dX4_tellLine_30 : decode cX4_tellLine 30 = .ok (.invokevirtual 216, 3) := by decide +kernel
theorem dX4_tellLine_33 : decode cX4_tellLine 33 = .ok (.goto 56, 3) := by decide +kernel
theorem dX4_tellLine_36 : decode cX4_tellLine 36 = .ok (.aload_n 0, 1) := by decide +kernel
theorem dX4_tellLine_37 : decode cX4_tellLine 37 = .ok (.getfield 30, 3) := by decide +kernel
theorem dX4_tellLine_40 : decode cX4_tellLine 40 = .ok (.iload_n 2, 1) := by decide +kernel
theorem dX4_tellLine_41 : decode cX4_tellLine 41 = .ok (.aload_n 0, 1) := by decide +kernel
theorem dX4_tellLine_42 : decode cX4_tellLine 42 = .ok (.getfield 44, 3) := by decide +kernel
theorem dX4_tellLine_45 : decode cX4_tellLine 45 = .ok (.iconst 0, 1) := by decide +kernel
theorem dX4_tellLine_46 : decode cX4_tellLine 46 = .ok (.iaload, 1) := by decide +kernel
theorem dX4_tellLine_47 : decode cX4_tellLine 47 = .ok (.aload_n 0, 1) := by decide +kernel
theorem dX4_tellLine_48 : decode cX4_tellLine 48 = .ok (.iload_n 2, 1) := by decide +kernel
theorem dX4_tellLine_49 : decode cX4_tellLine 49 = .ok (.iconst 1, 1) := by decide +kernel
theorem dX4_tellLine_50 : decode cX4_tellLine 50 = .ok (.invokevirtual 219, 3) := by decide +kernel
theorem dX4_tellLine_53 : decode cX4_tellLine 53 = .ok (.aload_n 0, 1) := by decide +kernel
theorem dX4_tellLine_54 : decode cX4_tellLine 54 = .ok (.iload_n 2, 1) := by decide +kernel
theorem dX4_tellLine_55 : decode cX4_tellLine 55 = .ok (.iconst 2, 1) := by decide +kernel
theorem dX4_tellLine_56 : decode cX4_tellLine 56 = .ok (.invokevirtual 219, 3) := by decide +kernel
theorem dX4_tellLine_59 : decode cX4_tellLine 59 = .ok (.invokevirtual 222, 3) := by decide +kernel
theorem dX4_tellLine_62 : decode cX4_tellLine 62 = .ok (.goto 27, 3) := by decide +kernel
theorem dX4_tellLine_65 : decode cX4_tellLine 65 = .ok (.aload_n 0, 1) := by decide +kernel
theorem dX4_tellLine_66 : decode cX4_tellLine 66 = .ok (.getfield 34, 3) := by decide +kernel
theorem dX4_tellLine_69 : decode cX4_tellLine 69 = .ok (.iload_n 2, 1) := by decide +kernel
theorem dX4_tellLine_70 : decode cX4_tellLine 70 = .ok (.aload_n 0, 1) := by decide +kernel
theorem dX4_tellLine_71 : decode cX4_tellLine 71 = .ok (.getfield 44, 3) := by decide +kernel
theorem dX4_tellLine_74 : decode cX4_tellLine 74 = .ok (.iconst 0, 1) := by decide +kernel
theorem dX4_tellLine_75 : decode cX4_tellLine 75 = .ok (.iaload, 1) := by decide +kernel
theorem dX4_tellLine_76 : decode cX4_tellLine 76 = .ok (.iconst (-1), 1) := by decide +kernel
theorem dX4_tellLine_77 : decode cX4_tellLine 77 = .ok (.iconst (-1), 1) := by decide +kernel
theorem dX4_tellLine_78 : decode cX4_tellLine 78 = .ok (.invokevirtual 222, 3) := by decide +kernel
theorem dX4_tellLine_81 : decode cX4_tellLine 81 = .ok (.goto 8, 3) := by decide +kernel
theorem dX4_tellLine_84 : decode cX4_tellLine 84 = .ok (.aload_n 0, 1) := by decide +kernel
theorem dX4_tellLine_85 : decode cX4_tellLine 85 = .ok (.iload_n 2, 1) := by decide +kernel
theorem dX4_tellLine_86 : decode cX4_tellLine 86 = .ok (.invokevirtual 226, 3) := by decide +kernel
theorem dX4_tellLine_89 : decode cX4_tellLine 89 = .ok (.return_, 1) := by decide +kernel
theorem dX10_settle_0 : decode cX10_settle 0 = .ok (.aload_n 0, 1) := by decide +kernel
theorem dX10_settle_1 : decode cX10_settle 1 = .ok (.getfield 15, 3) := by decide +kernel
theorem dX10_settle_4 : decode cX10_settle 4 = .ok (.iconst (-1), 1) := by decide +kernel
theorem dX10_settle_5 : decode cX10_settle 5 = .ok (.invokestatic 21, 3) := by decide +kernel
theorem dX10_settle_8 : decode cX10_settle 8 = .ok (.aload_n 0, 1) := by decide +kernel
theorem dX10_settle_9 : decode cX10_settle 9 = .ok (.iconst 0, 1) := by decide +kernel
theorem dX10_settle_10 : decode cX10_settle 10 = .ok (.putfield 27, 3) := by decide +kernel
theorem dX10_settle_13 : decode cX10_settle 13 = .ok (.iconst 0, 1) := by decide +kernel
theorem dX10_settle_14 : decode cX10_settle 14 = .ok (.istore_n 2, 1) := by decide +kernel
theorem dX10_settle_15 : decode cX10_settle 15 = .ok (.iconst 0, 1) := by decide +kernel
theorem dX10_settle_16 : decode cX10_settle 16 = .ok (.istore_n 3, 1) := by decide +kernel
theorem dX10_settle_17 : decode cX10_settle 17 = .ok (.iload_n 3, 1) := by decide +kernel
theorem dX10_settle_18 : decode cX10_settle 18 = .ok (.bipush 6, 2) := by decide +kernel
theorem dX10_settle_20 : decode cX10_settle 20 = .ok (.if_icmp .ge 41, 3) := by decide +kernel
theorem dX10_settle_23 : decode cX10_settle 23 = .ok (.iload_n 2, 1) := by decide +kernel
theorem dX10_settle_24 : decode cX10_settle 24 = .ok (.aload_n 1, 1) := by decide +kernel
theorem dX10_settle_25 : decode cX10_settle 25 = .ok (.getfield 31, 3) := by decide +kernel
theorem dX10_settle_28 : decode cX10_settle 28 = .ok (.if_icmp .ge 33, 3) := by decide +kernel
theorem dX10_settle_31 : decode cX10_settle 31 = .ok (.aload_n 0, 1) := by decide +kernel
theorem dX10_settle_32 : decode cX10_settle 32 = .ok (.aload_n 1, 1) := by decide +kernel
theorem dX10_settle_33 : decode cX10_settle 33 = .ok (.invokevirtual 36, 3) := by decide +kernel
theorem dX10_settle_36 : decode cX10_settle 36 = .ok (.iload_n 2, 1) := by decide +kernel
theorem dX10_settle_37 : decode cX10_settle 37 = .ok (.aload_n 0, 1) := by decide +kernel
theorem dX10_settle_38 : decode cX10_settle 38 = .ok (.aload_n 1, 1) := by decide +kernel
theorem dX10_settle_39 : decode cX10_settle 39 = .ok (.iload_n 3, 1) := by decide +kernel
theorem dX10_settle_40 : decode cX10_settle 40 = .ok (.invokevirtual 40, 3) := by decide +kernel
theorem dX10_settle_43 : decode cX10_settle 43 = .ok (.iadd, 1) := by decide +kernel
theorem dX10_settle_44 : decode cX10_settle 44 = .ok (.istore_n 2, 1) := by decide +kernel
theorem dX10_settle_45 : decode cX10_settle 45 = .ok (.aload_n 0, 1) := by decide +kernel
theorem dX10_settle_46 : decode cX10_settle 46 = .ok (.dup, 1) := by decide +kernel
theorem dX10_settle_47 : decode cX10_settle 47 = .ok (.getfield 27, 3) := by decide +kernel
theorem dX10_settle_50 : decode cX10_settle 50 = .ok (.iconst 1, 1) := by decide +kernel
theorem dX10_settle_51 : decode cX10_settle 51 = .ok (.iadd, 1) := by decide +kernel
theorem dX10_settle_52 : decode cX10_settle 52 = .ok (.putfield 27, 3) := by decide +kernel
theorem dX10_settle_55 : decode cX10_settle 55 = .ok (.iinc 3 1, 3) := by decide +kernel
theorem dX10_settle_58 : decode cX10_settle 58 = .ok (.goto (-41), 3) := by decide +kernel
theorem dX10_settle_61 : decode cX10_settle 61 = .ok (.return_, 1) := by decide +kernel
theorem dX11_image_0 : decode cX11_image 0 = .ok (.iload_n 1, 1) := by decide +kernel
theorem dX11_image_1 : decode cX11_image 1 = .ok (.ifCond .lt 8, 3) := by decide +kernel
theorem dX11_image_4 : decode cX11_image 4 = .ok (.iload_n 1, 1) := by decide +kernel
theorem dX11_image_5 : decode cX11_image 5 = .ok (.iconst 3, 1) := by decide +kernel
theorem dX11_image_6 : decode cX11_image 6 = .ok (.if_icmp .lt 5, 3) := by decide +kernel
theorem dX11_image_9 : decode cX11_image 9 = .ok (.iconst 0, 1) := by decide +kernel
theorem dX11_image_10 : decode cX11_image 10 = .ok (.ireturn, 1) := by decide +kernel
theorem dX11_image_11 : decode cX11_image 11 = .ok (.aload_n 0, 1) := by decide +kernel
theorem dX11_image_12 : decode cX11_image 12 = .ok (.getfield 16, 3) := by decide +kernel
theorem dX11_image_15 : decode cX11_image 15 = .ok (.iload_n 1, 1) := by decide +kernel
theorem dX11_image_16 : decode cX11_image 16 = .ok (.aaload, 1) := by decide +kernel
theorem dX11_image_17 : decode cX11_image 17 = .ok (.aload_n 0, 1) := by decide +kernel
theorem dX11_image_18 : decode cX11_image 18 = .ok (.getfield 12, 3) := by decide +kernel
theorem dX11_image_21 : decode cX11_image 21 = .ok (.invokevirtual 101, 3) := by decide +kernel
theorem dX11_image_24 : decode cX11_image 24 = .ok (.aload_n 0, 1) := by decide +kernel
theorem dX11_image_25 : decode cX11_image 25 = .ok (.getfield 20, 3) := by decide +kernel
theorem dX11_image_28 : decode cX11_image 28 = .ok (.iload_n 1, 1) := by decide +kernel
theorem dX11_image_29 : decode cX11_image 29 = .ok (.iconst 1, 1) := by decide +kernel
theorem dX11_image_30 : decode cX11_image 30 = .ok (.bastore, 1) := by decide +kernel
theorem dX11_image_31 : decode cX11_image 31 = .ok (.iconst 1, 1) := by decide +kernel
theorem dX11_image_32 : decode cX11_image 32 = .ok (.ireturn, 1) := by decide +kernel
theorem dX11_again_0 : decode cX11_again 0 = .ok (.iload_n 1, 1) := by decide +kernel
theorem dX11_again_1 : decode cX11_again 1 = .ok (.ifCond .lt 17, 3) := by decide +kernel
theorem dX11_again_4 : decode cX11_again 4 = .ok (.iload_n 1, 1) := by decide +kernel
theorem dX11_again_5 : decode cX11_again 5 = .ok (.iconst 3, 1) := by decide +kernel
theorem dX11_again_6 : decode cX11_again 6 = .ok (.if_icmp .ge 12, 3) := by decide +kernel
theorem dX11_again_9 : decode cX11_again 9 = .ok (.aload_n 0, 1) := by decide +kernel
theorem dX11_again_10 : decode cX11_again 10 = .ok (.getfield 20, 3) := by decide +kernel
theorem dX11_again_13 : decode cX11_again 13 = .ok (.iload_n 1, 1) := by decide +kernel
theorem dX11_again_14 : decode cX11_again 14 = .ok (.baload, 1) := by decide +kernel
theorem dX11_again_15 : decode cX11_again 15 = .ok (.ifCond .ne 5, 3) := by decide +kernel
theorem dX11_again_18 : decode cX11_again 18 = .ok (.iconst 0, 1) := by decide +kernel
theorem dX11_again_19 : decode cX11_again 19 = .ok (.ireturn, 1) := by decide +kernel
theorem dX11_again_20 : decode cX11_again 20 = .ok (.aload_n 0, 1) := by decide +kernel
theorem dX11_again_21 : decode cX11_again 21 = .ok (.getfield 12, 3) := by decide +kernel
theorem dX11_again_24 : decode cX11_again 24 = .ok (.aload_n 0, 1) := by decide +kernel
theorem dX11_again_25 : decode cX11_again 25 = .ok (.getfield 16, 3) := by decide +kernel
theorem dX11_again_28 : decode cX11_again 28 = .ok (.iload_n 1, 1) := by decide +kernel
theorem dX11_again_29 : decode cX11_again 29 = .ok (.aaload, 1) := by decide +kernel
theorem dX11_again_30 : decode cX11_again 30 = .ok (.invokevirtual 101, 3) := by decide +kernel
theorem dX11_again_33 : decode cX11_again 33 = .ok (.iconst 1, 1) := by decide +kernel
theorem dX11_again_34 : decode cX11_again 34 = .ok (.ireturn, 1) := by decide +kernel
theorem dX11_run_0 : decode cX11_run 0 = .ok (.aload_n 0, 1) := by decide +kernel
theorem dX11_run_1 : decode cX11_run 1 = .ok (.iload_n 1, 1) := by decide +kernel
theorem dX11_run_2 : decode cX11_run 2 = .ok (.iload_n 2, 1) := by decide +kernel
theorem dX11_run_3 : decode cX11_run 3 = .ok (.invokevirtual 118, 3) := by decide +kernel
theorem dX11_run_6 : decode cX11_run 6 = .ok (.ifCond .eq 19, 3) := by decide +kernel
theorem dX11_run_9 : decode cX11_run 9 = .ok (.aload_n 0, 1) := by decide +kernel
theorem dX11_run_10 : decode cX11_run 10 = .ok (.getfield 12, 3) := by decide +kernel
theorem dX11_run_13 : decode cX11_run 13 = .ok (.getfield 109, 3) := by decide +kernel
theorem dX11_run_16 : decode cX11_run 16 = .ok (.iload_n 1, 1) := by decide +kernel
theorem dX11_run_17 : decode cX11_run 17 = .ok (.aaload, 1) := by decide +kernel
theorem dX11_run_18 : decode cX11_run 18 = .ok (.iload_n 3, 1) := by decide +kernel
theorem dX11_run_19 : decode cX11_run 19 = .ok (.invokevirtual 209, 3) := by decide +kernel
theorem dX11_run_22 : decode cX11_run 22 = .ok (.ifCond .ne 5, 3) := by decide +kernel
theorem dX11_run_25 : decode cX11_run 25 = .ok (.iconst (-1), 1) := by decide +kernel
theorem dX11_run_26 : decode cX11_run 26 = .ok (.ireturn, 1) := by decide +kernel
theorem dX11_run_27 : decode cX11_run 27 = .ok (.aload_n 0, 1) := by decide +kernel
theorem dX11_run_28 : decode cX11_run 28 = .ok (.getfield 12, 3) := by decide +kernel
theorem dX11_run_31 : decode cX11_run 31 = .ok (.getfield 109, 3) := by decide +kernel
theorem dX11_run_34 : decode cX11_run 34 = .ok (.iload_n 1, 1) := by decide +kernel
theorem dX11_run_35 : decode cX11_run 35 = .ok (.aaload, 1) := by decide +kernel
theorem dX11_run_36 : decode cX11_run 36 = .ok (.astore 5, 2) := by decide +kernel
theorem dX11_run_38 : decode cX11_run 38 = .ok (.aload_n 0, 1) := by decide +kernel
theorem dX11_run_39 : decode cX11_run 39 = .ok (.getfield 41, 3) := by decide +kernel
theorem dX11_run_42 : decode cX11_run 42 = .ok (.aload 5, 2) := by decide +kernel
theorem dX11_run_44 : decode cX11_run 44 = .ok (.iload_n 2, 1) := by decide +kernel
theorem dX11_run_45 : decode cX11_run 45 = .ok (.ldc2_w 212, 3) := by decide +kernel
theorem dX11_run_48 : decode cX11_run 48 = .ok (.invokevirtual 214, 3) := by decide +kernel
theorem dX11_run_51 : decode cX11_run 51 = .ok (.iload 4, 2) := by decide +kernel
theorem dX11_run_53 : decode cX11_run 53 = .ok (.ifCond .eq 16, 3) := by decide +kernel
theorem dX11_run_56 : decode cX11_run 56 = .ok (.aload_n 0, 1) := by decide +kernel
theorem dX11_run_57 : decode cX11_run 57 = .ok (.getfield 41, 3) := by decide +kernel
theorem dX11_run_60 : decode cX11_run 60 = .ok (.aload 5, 2) := by decide +kernel
theorem dX11_run_62 : decode cX11_run 62 = .ok (.iload_n 3, 1) := by decide +kernel
theorem dX11_run_63 : decode cX11_run 63 = .ok (.invokevirtual 218, 3) := by decide +kernel
theorem dX11_run_66 : decode cX11_run 66 = .ok (.goto 13, 3) := by decide +kernel
theorem dX11_run_69 : decode cX11_run 69 = .ok (.aload_n 0, 1) := by decide +kernel
theorem dX11_run_70 : decode cX11_run 70 = .ok (.getfield 41, 3) := by decide +kernel
theorem dX11_run_73 : decode cX11_run 73 = .ok (.aload 5, 2) := by decide +kernel
theorem dX11_run_75 : decode cX11_run 75 = .ok (.iload_n 3, 1) := by decide +kernel
theorem dX11_run_76 : decode cX11_run 76 = .ok (.invokevirtual 221, 3) := by decide +kernel
theorem dX11_run_79 : decode cX11_run 79 = .ok (.ireturn, 1) := by decide +kernel
theorem dX11_errands_0 : decode cX11_errands 0 = .ok (.aload_n 0, 1) := by decide +kernel
theorem dX11_errands_1 : decode cX11_errands 1 = .ok (.iload_n 1, 1) := by decide +kernel
theorem dX11_errands_2 : decode cX11_errands 2 = .ok (.iload_n 2, 1) := by decide +kernel
theorem dX11_errands_3 : decode cX11_errands 3 = .ok (.iload_n 3, 1) := by decide +kernel
theorem dX11_errands_4 : decode cX11_errands 4 = .ok (.invokevirtual 224, 3) := by decide +kernel
theorem dX11_errands_7 : decode cX11_errands 7 = .ok (.ifCond .ne 5, 3) := by decide +kernel
theorem dX11_errands_10 : decode cX11_errands 10 = .ok (.iconst (-1), 1) := by decide +kernel
theorem dX11_errands_11 : decode cX11_errands 11 = .ok (.ireturn, 1) := by decide +kernel
theorem dX11_errands_12 : decode cX11_errands 12 = .ok (.aload_n 0, 1) := by decide +kernel
theorem dX11_errands_13 : decode cX11_errands 13 = .ok (.getfield 12, 3) := by decide +kernel
theorem dX11_errands_16 : decode cX11_errands 16 = .ok (.getfield 109, 3) := by decide +kernel
theorem dX11_errands_19 : decode cX11_errands 19 = .ok (.iload_n 1, 1) := by decide +kernel
theorem dX11_errands_20 : decode cX11_errands 20 = .ok (.aaload, 1) := by decide +kernel
theorem dX11_errands_21 : decode cX11_errands 21 = .ok (.astore 5, 2) := by decide +kernel
theorem dX11_errands_23 : decode cX11_errands 23 = .ok (.aload_n 0, 1) := by decide +kernel
theorem dX11_errands_24 : decode cX11_errands 24 = .ok (.getfield 41, 3) := by decide +kernel
theorem dX11_errands_27 : decode cX11_errands 27 = .ok (.aload 5, 2) := by decide +kernel
theorem dX11_errands_29 : decode cX11_errands 29 = .ok (.iload_n 2, 1) := by decide +kernel
theorem dX11_errands_30 : decode cX11_errands 30 = .ok (.ldc2_w 212, 3) := by decide +kernel
theorem dX11_errands_33 : decode cX11_errands 33 = .ok (.invokevirtual 214, 3) := by decide +kernel
theorem dX11_errands_36 : decode cX11_errands 36 = .ok (.aload_n 0, 1) := by decide +kernel
theorem dX11_errands_37 : decode cX11_errands 37 = .ok (.getfield 41, 3) := by decide +kernel
theorem dX11_errands_40 : decode cX11_errands 40 = .ok (.aload 5, 2) := by decide +kernel
theorem dX11_errands_42 : decode cX11_errands 42 = .ok (.iload_n 3, 1) := by decide +kernel
theorem dX11_errands_43 : decode cX11_errands 43 = .ok (.invokevirtual 227, 3) := by decide +kernel
theorem dX11_errands_46 : decode cX11_errands 46 = .ok (.iload 4, 2) := by decide +kernel
theorem dX11_errands_48 : decode cX11_errands 48 = .ok (.iconst (-1), 1) := by decide +kernel
theorem dX11_errands_49 : decode cX11_errands 49 = .ok (.if_icmp .ne 14, 3) := by decide +kernel
theorem dX11_errands_52 : decode cX11_errands 52 = .ok (.aload_n 0, 1) := by decide +kernel
theorem dX11_errands_53 : decode cX11_errands 53 = .ok (.getfield 41, 3) := by decide +kernel
theorem dX11_errands_56 : decode cX11_errands 56 = .ok (.aload 5, 2) := by decide +kernel
theorem dX11_errands_58 : decode cX11_errands 58 = .ok (.iload_n 3, 1) := by decide +kernel
theorem dX11_errands_59 : decode cX11_errands 59 = .ok (.invokevirtual 231, 3) := by decide +kernel
theorem dX11_errands_62 : decode cX11_errands 62 = .ok (.ireturn, 1) := by decide +kernel
theorem dX11_errands_63 : decode cX11_errands 63 = .ok (.aload_n 0, 1) := by decide +kernel
theorem dX11_errands_64 : decode cX11_errands 64 = .ok (.getfield 41, 3) := by decide +kernel
theorem dX11_errands_67 : decode cX11_errands 67 = .ok (.aload 5, 2) := by decide +kernel
theorem dX11_errands_69 : decode cX11_errands 69 = .ok (.iload_n 3, 1) := by decide +kernel
theorem dX11_errands_70 : decode cX11_errands 70 = .ok (.iload 4, 2) := by decide +kernel
theorem dX11_errands_72 : decode cX11_errands 72 = .ok (.invokevirtual 234, 3) := by decide +kernel
theorem dX11_errands_75 : decode cX11_errands 75 = .ok (.ireturn, 1) := by decide +kernel
theorem dX11_early_0 : decode cX11_early 0 = .ok (.aload_n 0, 1) := by decide +kernel
theorem dX11_early_1 : decode cX11_early 1 = .ok (.iload_n 1, 1) := by decide +kernel
theorem dX11_early_2 : decode cX11_early 2 = .ok (.iload_n 2, 1) := by decide +kernel
theorem dX11_early_3 : decode cX11_early 3 = .ok (.iload_n 3, 1) := by decide +kernel
theorem dX11_early_4 : decode cX11_early 4 = .ok (.invokevirtual 224, 3) := by decide +kernel
theorem dX11_early_7 : decode cX11_early 7 = .ok (.ifCond .ne 5, 3) := by decide +kernel
theorem dX11_early_10 : decode cX11_early 10 = .ok (.iconst (-1), 1) := by decide +kernel
theorem dX11_early_11 : decode cX11_early 11 = .ok (.ireturn, 1) := by decide +kernel
theorem dX11_early_12 : decode cX11_early 12 = .ok (.aload_n 0, 1) := by decide +kernel
theorem dX11_early_13 : decode cX11_early 13 = .ok (.getfield 12, 3) := by decide +kernel
theorem dX11_early_16 : decode cX11_early 16 = .ok (.getfield 109, 3) := by decide +kernel
theorem dX11_early_19 : decode cX11_early 19 = .ok (.iload_n 1, 1) := by decide +kernel
theorem dX11_early_20 : decode cX11_early 20 = .ok (.aaload, 1) := by decide +kernel
theorem dX11_early_21 : decode cX11_early 21 = .ok (.astore 4, 2) := by decide +kernel
theorem dX11_early_23 : decode cX11_early 23 = .ok (.aload_n 0, 1) := by decide +kernel
theorem dX11_early_24 : decode cX11_early 24 = .ok (.getfield 41, 3) := by decide +kernel
theorem dX11_early_27 : decode cX11_early 27 = .ok (.aload 4, 2) := by decide +kernel
theorem dX11_early_29 : decode cX11_early 29 = .ok (.iload_n 2, 1) := by decide +kernel
theorem dX11_early_30 : decode cX11_early 30 = .ok (.aload 4, 2) := by decide +kernel
theorem dX11_early_32 : decode cX11_early 32 = .ok (.iload_n 2, 1) := by decide +kernel
theorem dX11_early_33 : decode cX11_early 33 = .ok (.invokevirtual 261, 3) := by decide +kernel
theorem dX11_early_36 : decode cX11_early 36 = .ok (.invokevirtual 214, 3) := by decide +kernel
theorem dX11_early_39 : decode cX11_early 39 = .ok (.aload_n 0, 1) := by decide +kernel
theorem dX11_early_40 : decode cX11_early 40 = .ok (.getfield 41, 3) := by decide +kernel
theorem dX11_early_43 : decode cX11_early 43 = .ok (.aload 4, 2) := by decide +kernel
theorem dX11_early_45 : decode cX11_early 45 = .ok (.iload_n 3, 1) := by decide +kernel
theorem dX11_early_46 : decode cX11_early 46 = .ok (.invokevirtual 227, 3) := by decide +kernel
theorem dX11_early_49 : decode cX11_early 49 = .ok (.aload_n 0, 1) := by decide +kernel
theorem dX11_early_50 : decode cX11_early 50 = .ok (.getfield 41, 3) := by decide +kernel
theorem dX11_early_53 : decode cX11_early 53 = .ok (.aload 4, 2) := by decide +kernel
theorem dX11_early_55 : decode cX11_early 55 = .ok (.iload_n 3, 1) := by decide +kernel
theorem dX11_early_56 : decode cX11_early 56 = .ok (.invokevirtual 265, 3) := by decide +kernel
theorem dX11_early_59 : decode cX11_early 59 = .ok (.ireturn, 1) := by decide +kernel
theorem dX11_fits_0 : decode cX11_fits 0 = .ok (.aload_n 0, 1) := by decide +kernel
theorem dX11_fits_1 : decode cX11_fits 1 = .ok (.iload_n 1, 1) := by decide +kernel
theorem dX11_fits_2 : decode cX11_fits 2 = .ok (.invokevirtual 329, 3) := by decide +kernel
theorem dX11_fits_5 : decode cX11_fits 5 = .ok (.ifCond .ne 6, 3) := by decide +kernel
theorem dX11_fits_8 : decode cX11_fits 8 = .ok (.bipush (-2), 2) := by decide +kernel
theorem dX11_fits_10 : decode cX11_fits 10 = .ok (.ireturn, 1) := by decide +kernel
theorem dX11_fits_11 : decode cX11_fits 11 = .ok (.aload_n 0, 1) := by decide +kernel
theorem dX11_fits_12 : decode cX11_fits 12 = .ok (.getfield 55, 3) := by decide +kernel
theorem dX11_fits_15 : decode cX11_fits 15 = .ok (.aload_n 0, 1) := by decide +kernel
theorem dX11_fits_16 : decode cX11_fits 16 = .ok (.getfield 12, 3) := by decide +kernel
theorem dX11_fits_19 : decode cX11_fits 19 = .ok (.getfield 332, 3) := by decide +kernel
theorem dX11_fits_22 : decode cX11_fits 22 = .ok (.iload_n 1, 1) := by decide +kernel
theorem dX11_fits_23 : decode cX11_fits 23 = .ok (.aaload, 1) := by decide +kernel
theorem dX11_fits_24 : decode cX11_fits 24 = .ok (.invokevirtual 335, 3) := by decide +kernel
theorem dX11_fits_27 : decode cX11_fits 27 = .ok (.iload_n 2, 1) := by decide +kernel
theorem dX11_fits_28 : decode cX11_fits 28 = .ok (.tableswitch 64 0 3 #[32, 40, 48, 56], 32) := by decide +kernel
theorem dX11_fits_60 : decode cX11_fits 60 = .ok (.aload_n 0, 1) := by decide +kernel
theorem dX11_fits_61 : decode cX11_fits 61 = .ok (.getfield 55, 3) := by decide +kernel
theorem dX11_fits_64 : decode cX11_fits 64 = .ok (.getfield 339, 3) := by decide +kernel
theorem dX11_fits_67 : decode cX11_fits 67 = .ok (.ireturn, 1) := by decide +kernel
theorem dX11_fits_68 : decode cX11_fits 68 = .ok (.aload_n 0, 1) := by decide +kernel
theorem dX11_fits_69 : decode cX11_fits 69 = .ok (.getfield 55, 3) := by decide +kernel
theorem dX11_fits_72 : decode cX11_fits 72 = .ok (.getfield 340, 3) := by decide +kernel
theorem dX11_fits_75 : decode cX11_fits 75 = .ok (.ireturn, 1) := by decide +kernel
theorem dX11_fits_76 : decode cX11_fits 76 = .ok (.aload_n 0, 1) := by decide +kernel
theorem dX11_fits_77 : decode cX11_fits 77 = .ok (.getfield 55, 3) := by decide +kernel
theorem dX11_fits_80 : decode cX11_fits 80 = .ok (.getfield 343, 3) := by decide +kernel
theorem dX11_fits_83 : decode cX11_fits 83 = .ok (.ireturn, 1) := by decide +kernel
theorem dX11_fits_84 : decode cX11_fits 84 = .ok (.aload_n 0, 1) := by decide +kernel
theorem dX11_fits_85 : decode cX11_fits 85 = .ok (.getfield 55, 3) := by decide +kernel
theorem dX11_fits_88 : decode cX11_fits 88 = .ok (.invokevirtual 346, 3) := by decide +kernel
theorem dX11_fits_91 : decode cX11_fits 91 = .ok (.ireturn, 1) := by decide +kernel
theorem dX11_fits_92 : decode cX11_fits 92 = .ok (.iload_n 2, 1) := by decide +kernel
theorem dX11_fits_93 : decode cX11_fits 93 = .ok (.bipush 10, 2) := by decide +kernel
theorem dX11_fits_95 : decode cX11_fits 95 = .ok (.if_icmp .lt 17, 3) := by decide +kernel
theorem dX11_fits_98 : decode cX11_fits 98 = .ok (.aload_n 0, 1) := by decide +kernel
theorem dX11_fits_99 : decode cX11_fits 99 = .ok (.getfield 55, 3) := by decide +kernel
theorem dX11_fits_102 : decode cX11_fits 102 = .ok (.iload_n 2, 1) := by decide +kernel
theorem dX11_fits_103 : decode cX11_fits 103 = .ok (.bipush 10, 2) := by decide +kernel
theorem dX11_fits_105 : decode cX11_fits 105 = .ok (.isub, 1) := by decide +kernel
theorem dX11_fits_106 : decode cX11_fits 106 = .ok (.invokevirtual 349, 3) := by decide +kernel
theorem dX11_fits_109 : decode cX11_fits 109 = .ok (.goto 5, 3) := by decide +kernel
theorem dX11_fits_112 : decode cX11_fits 112 = .ok (.bipush (-2), 2) := by decide +kernel
theorem dX11_fits_114 : decode cX11_fits 114 = .ok (.ireturn, 1) := by decide +kernel
theorem dX11_span_0 : decode cX11_span 0 = .ok (.aload_n 0, 1) := by decide +kernel
theorem dX11_span_1 : decode cX11_span 1 = .ok (.iload_n 1, 1) := by decide +kernel
theorem dX11_span_2 : decode cX11_span 2 = .ok (.invokevirtual 329, 3) := by decide +kernel
theorem dX11_span_5 : decode cX11_span 5 = .ok (.ifCond .ne 5, 3) := by decide +kernel
theorem dX11_span_8 : decode cX11_span 8 = .ok (.iconst (-1), 1) := by decide +kernel
theorem dX11_span_9 : decode cX11_span 9 = .ok (.ireturn, 1) := by decide +kernel
theorem dX11_span_10 : decode cX11_span 10 = .ok (.aload_n 0, 1) := by decide +kernel
theorem dX11_span_11 : decode cX11_span 11 = .ok (.getfield 55, 3) := by decide +kernel
theorem dX11_span_14 : decode cX11_span 14 = .ok (.aload_n 0, 1) := by decide +kernel
theorem dX11_span_15 : decode cX11_span 15 = .ok (.getfield 12, 3) := by decide +kernel
theorem dX11_span_18 : decode cX11_span 18 = .ok (.getfield 332, 3) := by decide +kernel
theorem dX11_span_21 : decode cX11_span 21 = .ok (.iload_n 1, 1) := by decide +kernel
theorem dX11_span_22 : decode cX11_span 22 = .ok (.aaload, 1) := by decide +kernel
theorem dX11_span_23 : decode cX11_span 23 = .ok (.invokevirtual 335, 3) := by decide +kernel
theorem dX11_span_26 : decode cX11_span 26 = .ok (.aload_n 0, 1) := by decide +kernel
theorem dX11_span_27 : decode cX11_span 27 = .ok (.getfield 55, 3) := by decide +kernel
theorem dX11_span_30 : decode cX11_span 30 = .ok (.getfield 339, 3) := by decide +kernel
theorem dX11_span_33 : decode cX11_span 33 = .ok (.ifCond .ne 5, 3) := by decide +kernel
theorem dX11_span_36 : decode cX11_span 36 = .ok (.iconst (-1), 1) := by decide +kernel
theorem dX11_span_37 : decode cX11_span 37 = .ok (.ireturn, 1) := by decide +kernel
theorem dX11_span_38 : decode cX11_span 38 = .ok (.iload_n 2, 1) := by decide +kernel
theorem dX11_span_39 : decode cX11_span 39 = .ok (.tableswitch 69 0 3 #[29, 37, 45, 60], 29) := by decide +kernel
theorem dX11_span_68 : decode cX11_span 68 = .ok (.aload_n 0, 1) := by decide +kernel
theorem dX11_span_69 : decode cX11_span 69 = .ok (.getfield 55, 3) := by decide +kernel
theorem dX11_span_72 : decode cX11_span 72 = .ok (.getfield 352, 3) := by decide +kernel
theorem dX11_span_75 : decode cX11_span 75 = .ok (.ireturn, 1) := by decide +kernel
theorem dX11_span_76 : decode cX11_span 76 = .ok (.aload_n 0, 1) := by decide +kernel
theorem dX11_span_77 : decode cX11_span 77 = .ok (.getfield 55, 3) := by decide +kernel
theorem dX11_span_80 : decode cX11_span 80 = .ok (.getfield 355, 3) := by decide +kernel
theorem dX11_span_83 : decode cX11_span 83 = .ok (.ireturn, 1) := by decide +kernel
theorem dX11_span_84 : decode cX11_span 84 = .ok (.aload_n 0, 1) := by decide +kernel
theorem dX11_span_85 : decode cX11_span 85 = .ok (.getfield 55, 3) := by decide +kernel
theorem dX11_span_88 : decode cX11_span 88 = .ok (.aload_n 0, 1) := by decide +kernel
theorem dX11_span_89 : decode cX11_span 89 = .ok (.getfield 55, 3) := by decide +kernel
theorem dX11_span_92 : decode cX11_span 92 = .ok (.getfield 339, 3) := by decide +kernel
theorem dX11_span_95 : decode cX11_span 95 = .ok (.invokevirtual 358, 3) := by decide +kernel
theorem dX11_span_98 : decode cX11_span 98 = .ok (.ireturn, 1) := by decide +kernel
theorem dX11_span_99 : decode cX11_span 99 = .ok (.aload_n 0, 1) := by decide +kernel
theorem dX11_span_100 : decode cX11_span 100 = .ok (.getfield 55, 3) := by decide +kernel
theorem dX11_span_103 : decode cX11_span 103 = .ok (.iconst 0, 1) := by decide +kernel
theorem dX11_span_104 : decode cX11_span 104 = .ok (.invokevirtual 358, 3) := by decide +kernel
theorem dX11_span_107 : decode cX11_span 107 = .ok (.ireturn, 1) := by decide +kernel
theorem dX11_span_108 : decode cX11_span 108 = .ok (.iconst (-1), 1) := by decide +kernel
theorem dX11_span_109 : decode cX11_span 109 = .ok (.ireturn, 1) := by decide +kernel
theorem dJ0_charAt_5068e_0 : decode cJ0_charAt_5068e 0 = .ok (.aload_n 0, 1) := by decide +kernel
theorem dJ0_charAt_5068e_1 : decode cJ0_charAt_5068e 1 = .ok (.invokevirtual 492, 3) := by decide +kernel
theorem dJ0_charAt_5068e_4 : decode cJ0_charAt_5068e 4 = .ok (.ifCond .eq 12, 3) := by decide +kernel
theorem dJ0_charAt_5068e_7 : decode cJ0_charAt_5068e 7 = .ok (.aload_n 0, 1) := by decide +kernel
theorem dJ0_charAt_5068e_8 : decode cJ0_charAt_5068e 8 = .ok (.getfield 9, 3) := by decide +kernel
theorem dJ0_charAt_5068e_11 : decode cJ0_charAt_5068e 11 = .ok (.iload_n 1, 1) := by decide +kernel
theorem dJ0_charAt_5068e_12 : decode cJ0_charAt_5068e 12 = .ok (.invokestatic 495, 3) := by decide +kernel
theorem dJ0_charAt_5068e_15 : decode cJ0_charAt_5068e 15 = .ok (.ireturn, 1) := by decide +kernel
theorem dJ0_charAt_5068e_16 : decode cJ0_charAt_5068e 16 = .ok (.aload_n 0, 1) := by decide +kernel
theorem dJ0_charAt_5068e_17 : decode cJ0_charAt_5068e 17 = .ok (.getfield 9, 3) := by decide +kernel
theorem dJ0_charAt_5068e_20 : decode cJ0_charAt_5068e 20 = .ok (.iload_n 1, 1) := by decide +kernel
theorem dJ0_charAt_5068e_21 : decode cJ0_charAt_5068e 21 = .ok (.invokestatic 498, 3) := by decide +kernel
theorem dJ0_charAt_5068e_24 : decode cJ0_charAt_5068e 24 = .ok (.ireturn, 1) := by decide +kernel
theorem dX0_atRank_0 : decode cX0_atRank 0 = .ok (.iconst 0, 1) := by decide +kernel
theorem dX0_atRank_1 : decode cX0_atRank 1 = .ok (.istore_n 3, 1) := by decide +kernel
theorem dX0_atRank_2 : decode cX0_atRank 2 = .ok (.iload_n 3, 1) := by decide +kernel
theorem dX0_atRank_3 : decode cX0_atRank 3 = .ok (.aload_n 1, 1) := by decide +kernel
theorem dX0_atRank_4 : decode cX0_atRank 4 = .ok (.getfield 21, 3) := by decide +kernel
theorem dX0_atRank_7 : decode cX0_atRank 7 = .ok (.if_icmp .ge 31, 3) := by decide +kernel
theorem dX0_atRank_10 : decode cX0_atRank 10 = .ok (.aload_n 0, 1) := by decide +kernel
theorem dX0_atRank_11 : decode cX0_atRank 11 = .ok (.aload_n 1, 1) := by decide +kernel
theorem dX0_atRank_12 : decode cX0_atRank 12 = .ok (.iload_n 3, 1) := by decide +kernel
theorem dX0_atRank_13 : decode cX0_atRank 13 = .ok (.invokevirtual 62, 3) := by decide +kernel
theorem dX0_atRank_16 : decode cX0_atRank 16 = .ok (.iconst (-1), 1) := by decide +kernel
theorem dX0_atRank_17 : decode cX0_atRank 17 = .ok (.if_icmp .eq 15, 3) := by decide +kernel
theorem dX0_atRank_20 : decode cX0_atRank 20 = .ok (.aload_n 0, 1) := by decide +kernel
theorem dX0_atRank_21 : decode cX0_atRank 21 = .ok (.aload_n 1, 1) := by decide +kernel
theorem dX0_atRank_22 : decode cX0_atRank 22 = .ok (.iload_n 3, 1) := by decide +kernel
theorem dX0_atRank_23 : decode cX0_atRank 23 = .ok (.invokevirtual 66, 3) := by decide +kernel
theorem dX0_atRank_26 : decode cX0_atRank 26 = .ok (.iload_n 2, 1) := by decide +kernel
theorem dX0_atRank_27 : decode cX0_atRank 27 = .ok (.if_icmp .ne 5, 3) := by decide +kernel
theorem dX0_atRank_30 : decode cX0_atRank 30 = .ok (.iload_n 3, 1) := by decide +kernel
theorem dX0_atRank_31 : decode cX0_atRank 31 = .ok (.ireturn, 1) := by decide +kernel
theorem dX0_atRank_32 : decode cX0_atRank 32 = .ok (.iinc 3 1, 3) := by decide +kernel
theorem dX0_atRank_35 : decode cX0_atRank 35 = .ok (.goto (-33), 3) := by decide +kernel
theorem dX0_atRank_38 : decode cX0_atRank 38 = .ok (.iconst (-1), 1) := by decide +kernel
theorem dX0_atRank_39 : decode cX0_atRank 39 = .ok (.ireturn, 1) := by decide +kernel
theorem dX3_live_0 : decode cX3_live 0 = .ok (.aload_n 0, 1) := by decide +kernel
theorem dX3_live_1 : decode cX3_live 1 = .ok (.aload_n 1, 1) := by decide +kernel
theorem dX3_live_2 : decode cX3_live 2 = .ok (.invokevirtual 46, 3) := by decide +kernel
theorem dX3_live_5 : decode cX3_live 5 = .ok (.iconst 0, 1) := by decide +kernel
theorem dX3_live_6 : decode cX3_live 6 = .ok (.istore 4, 2) := by decide +kernel
theorem dX3_live_8 : decode cX3_live 8 = .ok (.iload 4, 2) := by decide +kernel
theorem dX3_live_10 : decode cX3_live 10 = .ok (.iload_n 3, 1) := by decide +kernel
theorem dX3_live_11 : decode cX3_live 11 = .ok (.if_icmp .ge 56, 3) := by decide +kernel
theorem dX3_live_14 : decode cX3_live 14 = .ok (.iload 4, 2) := by decide +kernel
theorem dX3_live_16 : decode cX3_live 16 = .ok (.aload_n 2, 1) := by decide +kernel
theorem dX3_live_17 : decode cX3_live 17 = .ok (.getfield 49, 3) := by decide +kernel
theorem dX3_live_20 : decode cX3_live 20 = .ok (.if_icmp .ge 47, 3) := by decide +kernel
theorem dX3_live_23 : decode cX3_live 23 = .ok (.aload_n 0, 1) := by decide +kernel
theorem dX3_live_24 : decode cX3_live 24 = .ok (.aload_n 2, 1) := by decide +kernel
theorem dX3_live_25 : decode cX3_live 25 = .ok (.getfield 54, 3) := by decide +kernel
theorem dX3_live_28 : decode cX3_live 28 = .ok (.iload 4, 2) := by decide +kernel
theorem dX3_live_30 : decode cX3_live 30 = .ok (.iaload, 1) := by decide +kernel
theorem dX3_live_31 : decode cX3_live 31 = .ok (.aload_n 2, 1) := by decide +kernel
theorem dX3_live_32 : decode cX3_live 32 = .ok (.iload 4, 2) := by decide +kernel
theorem dX3_live_34 : decode cX3_live 34 = .ok (.iconst 0, 1) := by decide +kernel
theorem dX3_live_35 : decode cX3_live 35 = .ok (.invokevirtual 57, 3) := by decide +kernel
theorem dX3_live_38 : decode cX3_live 38 = .ok (.aload_n 2, 1) := by decide +kernel
theorem dX3_live_39 : decode cX3_live 39 = .ok (.iload 4, 2) := by decide +kernel
theorem dX3_live_41 : decode cX3_live 41 = .ok (.iconst 1, 1) := by decide +kernel
theorem dX3_live_42 : decode cX3_live 42 = .ok (.invokevirtual 57, 3) := by decide +kernel
theorem dX3_live_45 : decode cX3_live 45 = .ok (.aload_n 2, 1) := by decide +kernel
theorem dX3_live_46 : decode cX3_live 46 = .ok (.iload 4, 2) := by decide +kernel
theorem dX3_live_48 : decode cX3_live 48 = .ok (.iconst 2, 1) := by decide +kernel
theorem dX3_live_49 : decode cX3_live 49 = .ok (.invokevirtual 57, 3) := by decide +kernel
theorem dX3_live_52 : decode cX3_live 52 = .ok (.invokevirtual 61, 3) := by decide +kernel
theorem dX3_live_55 : decode cX3_live 55 = .ok (.ifCond .ne 6, 3) := by decide +kernel
theorem dX3_live_58 : decode cX3_live 58 = .ok (.iload 4, 2) := by decide +kernel
theorem dX3_live_60 : decode cX3_live 60 = .ok (.ireturn, 1) := by decide +kernel
theorem dX3_live_61 : decode cX3_live 61 = .ok (.iinc 4 1, 3) := by decide +kernel
theorem dX3_live_64 : decode cX3_live 64 = .ok (.goto (-56), 3) := by decide +kernel
theorem dX3_live_67 : decode cX3_live 67 = .ok (.iload_n 3, 1) := by decide +kernel
theorem dX3_live_68 : decode cX3_live 68 = .ok (.ireturn, 1) := by decide +kernel
theorem dX3_drawDeed_0 : decode cX3_drawDeed 0 = .ok (.aload_n 0, 1) := by decide +kernel
theorem dX3_drawDeed_1 : decode cX3_drawDeed 1 = .ok (.bipush 8, 2) := by decide +kernel
theorem dX3_drawDeed_3 : decode cX3_drawDeed 3 = .ok (.invokevirtual 137, 3) := by decide +kernel
theorem dX3_drawDeed_6 : decode cX3_drawDeed 6 = .ok (.invokestatic 141, 3) := by decide +kernel
theorem dX3_drawDeed_9 : decode cX3_drawDeed 9 = .ok (.istore_n 1, 1) := by decide +kernel
theorem dX3_drawDeed_10 : decode cX3_drawDeed 10 = .ok (.iload_n 1, 1) := by decide +kernel
theorem dX3_drawDeed_11 : decode cX3_drawDeed 11 = .ok (.bipush 10, 2) := by decide +kernel
theorem dX3_drawDeed_13 : decode cX3_drawDeed 13 = .ok (.if_icmp .ne 10, 3) := by decide +kernel
theorem dX3_drawDeed_16 : decode cX3_drawDeed 16 = .ok (.aload_n 0, 1) := by decide +kernel
theorem dX3_drawDeed_17 : decode cX3_drawDeed 17 = .ok (.invokevirtual 144, 3) := by decide +kernel
theorem dX3_drawDeed_20 : decode cX3_drawDeed 20 = .ok (.goto 74, 3) := by decide +kernel
theorem dX3_drawDeed_23 : decode cX3_drawDeed 23 = .ok (.iload_n 1, 1) := by decide +kernel
theorem dX3_drawDeed_24 : decode cX3_drawDeed 24 = .ok (.bipush 11, 2) := by decide +kernel
theorem dX3_drawDeed_26 : decode cX3_drawDeed 26 = .ok (.if_icmp .ne 37, 3) := by decide +kernel
theorem dX3_drawDeed_29 : decode cX3_drawDeed 29 = .ok (.aload_n 0, 1) := by decide +kernel
theorem dX3_drawDeed_30 : decode cX3_drawDeed 30 = .ok (.iconst 2, 1) := by decide +kernel
theorem dX3_drawDeed_31 : decode cX3_drawDeed 31 = .ok (.invokevirtual 137, 3) := by decide +kernel
theorem dX3_drawDeed_34 : decode cX3_drawDeed 34 = .ok (.ifCond .ne 7, 3) := by decide +kernel
theorem dX3_drawDeed_37 : decode cX3_drawDeed 37 = .ok (.iconst 1, 1) := by decide +kernel
theorem dX3_drawDeed_38 : decode cX3_drawDeed 38 = .ok (.goto 4, 3) := by decide +kernel
theorem dX3_drawDeed_41 : decode cX3_drawDeed 41 = .ok (.iconst (-1), 1) := by decide +kernel
theorem dX3_drawDeed_42 : decode cX3_drawDeed 42 = .ok (.istore_n 2, 1) := by decide +kernel
theorem dX3_drawDeed_43 : decode cX3_drawDeed 43 = .ok (.aload_n 0, 1) := by decide +kernel
theorem dX3_drawDeed_44 : decode cX3_drawDeed 44 = .ok (.aload_n 0, 1) := by decide +kernel
theorem dX3_drawDeed_45 : decode cX3_drawDeed 45 = .ok (.aload_n 0, 1) := by decide +kernel
theorem dX3_drawDeed_46 : decode cX3_drawDeed 46 = .ok (.getfield 12, 3) := by decide +kernel
theorem dX3_drawDeed_49 : decode cX3_drawDeed 49 = .ok (.getfield 128, 3) := by decide +kernel
theorem dX3_drawDeed_52 : decode cX3_drawDeed 52 = .ok (.invokevirtual 137, 3) := by decide +kernel
theorem dX3_drawDeed_55 : decode cX3_drawDeed 55 = .ok (.iload_n 2, 1) := by decide +kernel
theorem dX3_drawDeed_56 : decode cX3_drawDeed 56 = .ok (.invokevirtual 82, 3) := by decide +kernel
theorem dX3_drawDeed_59 : decode cX3_drawDeed 59 = .ok (.pop, 1) := by decide +kernel
theorem dX3_drawDeed_60 : decode cX3_drawDeed 60 = .ok (.goto 34, 3) := by decide +kernel
theorem dX3_drawDeed_63 : decode cX3_drawDeed 63 = .ok (.aload_n 0, 1) := by decide +kernel
theorem dX3_drawDeed_64 : decode cX3_drawDeed 64 = .ok (.aload_n 0, 1) := by decide +kernel
theorem dX3_drawDeed_65 : decode cX3_drawDeed 65 = .ok (.getfield 12, 3) := by decide +kernel
theorem dX3_drawDeed_68 : decode cX3_drawDeed 68 = .ok (.getfield 147, 3) := by decide +kernel
theorem dX3_drawDeed_71 : decode cX3_drawDeed 71 = .ok (.invokevirtual 137, 3) := by decide +kernel
theorem dX3_drawDeed_74 : decode cX3_drawDeed 74 = .ok (.istore_n 2, 1) := by decide +kernel
theorem dX3_drawDeed_75 : decode cX3_drawDeed 75 = .ok (.aload_n 0, 1) := by decide +kernel
theorem dX3_drawDeed_76 : decode cX3_drawDeed 76 = .ok (.iload_n 1, 1) := by decide +kernel
theorem dX3_drawDeed_77 : decode cX3_drawDeed 77 = .ok (.iload_n 2, 1) := by decide +kernel
theorem dX3_drawDeed_78 : decode cX3_drawDeed 78 = .ok (.aload_n 0, 1) := by decide +kernel
theorem dX3_drawDeed_79 : decode cX3_drawDeed 79 = .ok (.aload_n 0, 1) := by decide +kernel
theorem dX3_drawDeed_80 : decode cX3_drawDeed 80 = .ok (.getfield 12, 3) := by decide +kernel
theorem dX3_drawDeed_83 : decode cX3_drawDeed 83 = .ok (.getfield 128, 3) := by decide +kernel
theorem dX3_drawDeed_86 : decode cX3_drawDeed 86 = .ok (.invokevirtual 137, 3) := by decide +kernel
theorem dX3_drawDeed_89 : decode cX3_drawDeed 89 = .ok (.iconst (-1), 1) := by decide +kernel
theorem dX3_drawDeed_90 : decode cX3_drawDeed 90 = .ok (.invokevirtual 61, 3) := by decide +kernel
theorem dX3_drawDeed_93 : decode cX3_drawDeed 93 = .ok (.pop, 1) := by decide +kernel
theorem dX3_drawDeed_94 : decode cX3_drawDeed 94 = .ok (.return_, 1) := by decide +kernel
theorem dX8_isWord_0 : decode cX8_isWord 0 = .ok (.aload_n 0, 1) := by decide +kernel
theorem dX8_isWord_1 : decode cX8_isWord 1 = .ok (.getfield 37, 3) := by decide +kernel
theorem dX8_isWord_4 : decode cX8_isWord 4 = .ok (.iconst 1, 1) := by decide +kernel
theorem dX8_isWord_5 : decode cX8_isWord 5 = .ok (.if_icmp .ne 19, 3) := by decide +kernel
theorem dX8_isWord_8 : decode cX8_isWord 8 = .ok (.aload_n 1, 1) := by decide +kernel
theorem dX8_isWord_9 : decode cX8_isWord 9 = .ok (.invokevirtual 56, 3) := by decide +kernel
theorem dX8_isWord_12 : decode cX8_isWord 12 = .ok (.aload_n 0, 1) := by decide +kernel
theorem dX8_isWord_13 : decode cX8_isWord 13 = .ok (.getfield 31, 3) := by decide +kernel
theorem dX8_isWord_16 : decode cX8_isWord 16 = .ok (.aload_n 0, 1) := by decide +kernel
theorem dX8_isWord_17 : decode cX8_isWord 17 = .ok (.getfield 34, 3) := by decide +kernel
theorem dX8_isWord_20 : decode cX8_isWord 20 = .ok (.isub, 1) := by decide +kernel
theorem dX8_isWord_21 : decode cX8_isWord 21 = .ok (.if_icmp .eq 5, 3) := by decide +kernel
theorem dX8_isWord_24 : decode cX8_isWord 24 = .ok (.iconst 0, 1) := by decide +kernel
theorem dX8_isWord_25 : decode cX8_isWord 25 = .ok (.ireturn, 1) := by decide +kernel
theorem dX8_isWord_26 : decode cX8_isWord 26 = .ok (.iconst 0, 1) := by decide +kernel
theorem dX8_isWord_27 : decode cX8_isWord 27 = .ok (.istore_n 2, 1) := by decide +kernel
theorem dX8_isWord_28 : decode cX8_isWord 28 = .ok (.iload_n 2, 1) := by decide +kernel
theorem dX8_isWord_29 : decode cX8_isWord 29 = .ok (.aload_n 1, 1) := by decide +kernel
theorem dX8_isWord_30 : decode cX8_isWord 30 = .ok (.invokevirtual 56, 3) := by decide +kernel
theorem dX8_isWord_33 : decode cX8_isWord 33 = .ok (.if_icmp .ge 30, 3) := by decide +kernel
theorem dX8_isWord_36 : decode cX8_isWord 36 = .ok (.aload_n 0, 1) := by decide +kernel
theorem dX8_isWord_37 : decode cX8_isWord 37 = .ok (.getfield 9, 3) := by decide +kernel
theorem dX8_isWord_40 : decode cX8_isWord 40 = .ok (.aload_n 0, 1) := by decide +kernel
theorem dX8_isWord_41 : decode cX8_isWord 41 = .ok (.getfield 34, 3) := by decide +kernel
theorem dX8_isWord_44 : decode cX8_isWord 44 = .ok (.iload_n 2, 1) := by decide +kernel
theorem dX8_isWord_45 : decode cX8_isWord 45 = .ok (.iadd, 1) := by decide +kernel
theorem dX8_isWord_46 : decode cX8_isWord 46 = .ok (.baload, 1) := by decide +kernel
theorem dX8_isWord_47 : decode cX8_isWord 47 = .ok (.aload_n 1, 1) := by decide +kernel
theorem dX8_isWord_48 : decode cX8_isWord 48 = .ok (.iload_n 2, 1) := by decide +kernel
theorem dX8_isWord_49 : decode cX8_isWord 49 = .ok (.invokevirtual 61, 3) := by decide +kernel
theorem dX8_isWord_52 : decode cX8_isWord 52 = .ok (.if_icmp .eq 5, 3) := by decide +kernel
theorem dX8_isWord_55 : decode cX8_isWord 55 = .ok (.iconst 0, 1) := by decide +kernel
theorem dX8_isWord_56 : decode cX8_isWord 56 = .ok (.ireturn, 1) := by decide +kernel
theorem dX8_isWord_57 : decode cX8_isWord 57 = .ok (.iinc 2 1, 3) := by decide +kernel
theorem dX8_isWord_60 : decode cX8_isWord 60 = .ok (.goto (-32), 3) := by decide +kernel
theorem dX8_isWord_63 : decode cX8_isWord 63 = .ok (.iconst 1, 1) := by decide +kernel
theorem dX8_isWord_64 : decode cX8_isWord 64 = .ok (.ireturn, 1) := by decide +kernel
theorem dX11_plan_0 : decode cX11_plan 0 = .ok (.aload_n 0, 1) := by decide +kernel
theorem dX11_plan_1 : decode cX11_plan 1 = .ok (.iload_n 1, 1) := by decide +kernel
theorem dX11_plan_2 : decode cX11_plan 2 = .ok (.iload_n 2, 1) := by decide +kernel
theorem dX11_plan_3 : decode cX11_plan 3 = .ok (.invokevirtual 118, 3) := by decide +kernel
theorem dX11_plan_6 : decode cX11_plan 6 = .ok (.ifCond .ne 5, 3) := by decide +kernel
theorem dX11_plan_9 : decode cX11_plan 9 = .ok (.iconst (-1), 1) := by decide +kernel
theorem dX11_plan_10 : decode cX11_plan 10 = .ok (.ireturn, 1) := by decide +kernel
theorem dX11_plan_11 : decode cX11_plan 11 = .ok (.aload_n 0, 1) := by decide +kernel
theorem dX11_plan_12 : decode cX11_plan 12 = .ok (.getfield 41, 3) := by decide +kernel
theorem dX11_plan_15 : decode cX11_plan 15 = .ok (.aload_n 0, 1) := by decide +kernel
theorem dX11_plan_16 : decode cX11_plan 16 = .ok (.getfield 12, 3) := by decide +kernel
theorem dX11_plan_19 : decode cX11_plan 19 = .ok (.getfield 109, 3) := by decide +kernel
theorem dX11_plan_22 : decode cX11_plan 22 = .ok (.iload_n 1, 1) := by decide +kernel
theorem dX11_plan_23 : decode cX11_plan 23 = .ok (.aaload, 1) := by decide +kernel
theorem dX11_plan_24 : decode cX11_plan 24 = .ok (.iload_n 2, 1) := by decide +kernel
theorem dX11_plan_25 : decode cX11_plan 25 = .ok (.ldc2_w 212, 3) := by decide +kernel
theorem dX11_plan_28 : decode cX11_plan 28 = .ok (.invokevirtual 238, 3) := by decide +kernel
theorem dX11_plan_31 : decode cX11_plan 31 = .ok (.iload_n 3, 1) := by decide +kernel
theorem dX11_plan_32 : decode cX11_plan 32 = .ok (.ifCond .eq 13, 3) := by decide +kernel
theorem dX11_plan_35 : decode cX11_plan 35 = .ok (.aload_n 0, 1) := by decide +kernel
theorem dX11_plan_36 : decode cX11_plan 36 = .ok (.getfield 41, 3) := by decide +kernel
theorem dX11_plan_39 : decode cX11_plan 39 = .ok (.getfield 241, 3) := by decide +kernel
theorem dX11_plan_42 : decode cX11_plan 42 = .ok (.goto 10, 3) := by decide +kernel
theorem dX11_plan_45 : decode cX11_plan 45 = .ok (.aload_n 0, 1) := by decide +kernel
theorem dX11_plan_46 : decode cX11_plan 46 = .ok (.getfield 41, 3) := by decide +kernel
theorem dX11_plan_49 : decode cX11_plan 49 = .ok (.getfield 244, 3) := by decide +kernel
theorem dX11_plan_52 : decode cX11_plan 52 = .ok (.ireturn, 1) := by decide +kernel
theorem dX11_left_0 : decode cX11_left 0 = .ok (.aload_n 0, 1) := by decide +kernel
theorem dX11_left_1 : decode cX11_left 1 = .ok (.iload_n 1, 1) := by decide +kernel
theorem dX11_left_2 : decode cX11_left 2 = .ok (.iload_n 2, 1) := by decide +kernel
theorem dX11_left_3 : decode cX11_left 3 = .ok (.invokevirtual 118, 3) := by decide +kernel
theorem dX11_left_6 : decode cX11_left 6 = .ok (.ifCond .ne 5, 3) := by decide +kernel
theorem dX11_left_9 : decode cX11_left 9 = .ok (.iconst (-1), 1) := by decide +kernel
theorem dX11_left_10 : decode cX11_left 10 = .ok (.ireturn, 1) := by decide +kernel
theorem dX11_left_11 : decode cX11_left 11 = .ok (.aload_n 0, 1) := by decide +kernel
theorem dX11_left_12 : decode cX11_left 12 = .ok (.getfield 12, 3) := by decide +kernel
theorem dX11_left_15 : decode cX11_left 15 = .ok (.getfield 109, 3) := by decide +kernel
theorem dX11_left_18 : decode cX11_left 18 = .ok (.iload_n 1, 1) := by decide +kernel
theorem dX11_left_19 : decode cX11_left 19 = .ok (.aaload, 1) := by decide +kernel
theorem dX11_left_20 : decode cX11_left 20 = .ok (.astore_n 3, 1) := by decide +kernel
theorem dX11_left_21 : decode cX11_left 21 = .ok (.aload_n 0, 1) := by decide +kernel
theorem dX11_left_22 : decode cX11_left 22 = .ok (.getfield 41, 3) := by decide +kernel
theorem dX11_left_25 : decode cX11_left 25 = .ok (.aload_n 3, 1) := by decide +kernel
theorem dX11_left_26 : decode cX11_left 26 = .ok (.iload_n 2, 1) := by decide +kernel
theorem dX11_left_27 : decode cX11_left 27 = .ok (.ldc2_w 212, 3) := by decide +kernel
theorem dX11_left_30 : decode cX11_left 30 = .ok (.invokevirtual 238, 3) := by decide +kernel
theorem dX11_left_33 : decode cX11_left 33 = .ok (.aload_n 3, 1) := by decide +kernel
theorem dX11_left_34 : decode cX11_left 34 = .ok (.getfield 141, 3) := by decide +kernel
theorem dX11_left_37 : decode cX11_left 37 = .ok (.iload_n 2, 1) := by decide +kernel
theorem dX11_left_38 : decode cX11_left 38 = .ok (.iaload, 1) := by decide +kernel
theorem dX11_left_39 : decode cX11_left 39 = .ok (.aload_n 0, 1) := by decide +kernel
theorem dX11_left_40 : decode cX11_left 40 = .ok (.getfield 41, 3) := by decide +kernel
theorem dX11_left_43 : decode cX11_left 43 = .ok (.getfield 241, 3) := by decide +kernel
theorem dX11_left_46 : decode cX11_left 46 = .ok (.iadd, 1) := by decide +kernel
theorem dX11_left_47 : decode cX11_left 47 = .ok (.ireturn, 1) := by decide +kernel
theorem dX11_missed_0 : decode cX11_missed 0 = .ok (.aload_n 0, 1) := by decide +kernel
theorem dX11_missed_1 : decode cX11_missed 1 = .ok (.iload_n 1, 1) := by decide +kernel
theorem dX11_missed_2 : decode cX11_missed 2 = .ok (.iload_n 2, 1) := by decide +kernel
theorem dX11_missed_3 : decode cX11_missed 3 = .ok (.invokevirtual 118, 3) := by decide +kernel
theorem dX11_missed_6 : decode cX11_missed 6 = .ok (.ifCond .eq 19, 3) := by decide +kernel
theorem dX11_missed_9 : decode cX11_missed 9 = .ok (.aload_n 0, 1) := by decide +kernel
theorem dX11_missed_10 : decode cX11_missed 10 = .ok (.getfield 12, 3) := by decide +kernel
theorem dX11_missed_13 : decode cX11_missed 13 = .ok (.getfield 109, 3) := by decide +kernel
theorem dX11_missed_16 : decode cX11_missed 16 = .ok (.iload_n 1, 1) := by decide +kernel
theorem dX11_missed_17 : decode cX11_missed 17 = .ok (.aaload, 1) := by decide +kernel
theorem dX11_missed_18 : decode cX11_missed 18 = .ok (.iload_n 3, 1) := by decide +kernel
theorem dX11_missed_19 : decode cX11_missed 19 = .ok (.invokevirtual 247, 3) := by decide +kernel
theorem dX11_missed_22 : decode cX11_missed 22 = .ok (.ifCond .ne 5, 3) := by decide +kernel
theorem dX11_missed_25 : decode cX11_missed 25 = .ok (.iconst (-1), 1) := by decide +kernel
theorem dX11_missed_26 : decode cX11_missed 26 = .ok (.ireturn, 1) := by decide +kernel
theorem dX11_missed_27 : decode cX11_missed 27 = .ok (.aload_n 0, 1) := by decide +kernel
theorem dX11_missed_28 : decode cX11_missed 28 = .ok (.getfield 12, 3) := by decide +kernel
theorem dX11_missed_31 : decode cX11_missed 31 = .ok (.getfield 109, 3) := by decide +kernel
theorem dX11_missed_34 : decode cX11_missed 34 = .ok (.iload_n 1, 1) := by decide +kernel
theorem dX11_missed_35 : decode cX11_missed 35 = .ok (.aaload, 1) := by decide +kernel
theorem dX11_missed_36 : decode cX11_missed 36 = .ok (.astore 4, 2) := by decide +kernel
theorem dX11_missed_38 : decode cX11_missed 38 = .ok (.aload_n 0, 1) := by decide +kernel
theorem dX11_missed_39 : decode cX11_missed 39 = .ok (.getfield 41, 3) := by decide +kernel
theorem dX11_missed_42 : decode cX11_missed 42 = .ok (.aload 4, 2) := by decide +kernel
theorem dX11_missed_44 : decode cX11_missed 44 = .ok (.iload_n 2, 1) := by decide +kernel
theorem dX11_missed_45 : decode cX11_missed 45 = .ok (.ldc2_w 212, 3) := by decide +kernel
theorem dX11_missed_48 : decode cX11_missed 48 = .ok (.invokevirtual 238, 3) := by decide +kernel
theorem dX11_missed_51 : decode cX11_missed 51 = .ok (.aload_n 0, 1) := by decide +kernel
theorem dX11_missed_52 : decode cX11_missed 52 = .ok (.getfield 41, 3) := by decide +kernel
theorem dX11_missed_55 : decode cX11_missed 55 = .ok (.getfield 241, 3) := by decide +kernel
theorem dX11_missed_58 : decode cX11_missed 58 = .ok (.istore 5, 2) := by decide +kernel
theorem dX11_missed_60 : decode cX11_missed 60 = .ok (.aload_n 0, 1) := by decide +kernel
theorem dX11_missed_61 : decode cX11_missed 61 = .ok (.getfield 41, 3) := by decide +kernel
theorem dX11_missed_64 : decode cX11_missed 64 = .ok (.aload 4, 2) := by decide +kernel
theorem dX11_missed_66 : decode cX11_missed 66 = .ok (.iload_n 2, 1) := by decide +kernel
theorem dX11_missed_67 : decode cX11_missed 67 = .ok (.ldc2_w 212, 3) := by decide +kernel
theorem dX11_missed_70 : decode cX11_missed 70 = .ok (.lconst 1, 1) := by decide +kernel
theorem dX11_missed_71 : decode cX11_missed 71 = .ok (.iload_n 3, 1) := by decide +kernel
theorem dX11_missed_72 : decode cX11_missed 72 = .ok (.lshl, 1) := by decide +kernel
theorem dX11_missed_73 : decode cX11_missed 73 = .ok (.ldc2_w 250, 3) := by decide +kernel
theorem dX11_missed_76 : decode cX11_missed 76 = .ok (.lxor, 1) := by decide +kernel
theorem dX11_missed_77 : decode cX11_missed 77 = .ok (.land, 1) := by decide +kernel
theorem dX11_missed_78 : decode cX11_missed 78 = .ok (.invokevirtual 238, 3) := by decide +kernel
theorem dX11_missed_81 : decode cX11_missed 81 = .ok (.iload 5, 2) := by decide +kernel
theorem dX11_missed_83 : decode cX11_missed 83 = .ok (.aload_n 0, 1) := by decide +kernel
theorem dX11_missed_84 : decode cX11_missed 84 = .ok (.getfield 41, 3) := by decide +kernel
theorem dX11_missed_87 : decode cX11_missed 87 = .ok (.getfield 241, 3) := by decide +kernel
theorem dX11_missed_90 : decode cX11_missed 90 = .ok (.isub, 1) := by decide +kernel
theorem dX11_missed_91 : decode cX11_missed 91 = .ok (.ireturn, 1) := by decide +kernel
theorem dX11_gift_0 : decode cX11_gift 0 = .ok (.aload_n 0, 1) := by decide +kernel
theorem dX11_gift_1 : decode cX11_gift 1 = .ok (.iload_n 1, 1) := by decide +kernel
theorem dX11_gift_2 : decode cX11_gift 2 = .ok (.iload_n 2, 1) := by decide +kernel
theorem dX11_gift_3 : decode cX11_gift 3 = .ok (.iload_n 3, 1) := by decide +kernel
theorem dX11_gift_4 : decode cX11_gift 4 = .ok (.invokevirtual 224, 3) := by decide +kernel
theorem dX11_gift_7 : decode cX11_gift 7 = .ok (.ifCond .ne 5, 3) := by decide +kernel
theorem dX11_gift_10 : decode cX11_gift 10 = .ok (.iconst (-1), 1) := by decide +kernel
theorem dX11_gift_11 : decode cX11_gift 11 = .ok (.ireturn, 1) := by decide +kernel
theorem dX11_gift_12 : decode cX11_gift 12 = .ok (.aload_n 0, 1) := by decide +kernel
theorem dX11_gift_13 : decode cX11_gift 13 = .ok (.getfield 12, 3) := by decide +kernel
theorem dX11_gift_16 : decode cX11_gift 16 = .ok (.getfield 109, 3) := by decide +kernel
theorem dX11_gift_19 : decode cX11_gift 19 = .ok (.iload_n 1, 1) := by decide +kernel
theorem dX11_gift_20 : decode cX11_gift 20 = .ok (.aaload, 1) := by decide +kernel
theorem dX11_gift_21 : decode cX11_gift 21 = .ok (.astore 5, 2) := by decide +kernel
theorem dX11_gift_23 : decode cX11_gift 23 = .ok (.aload_n 0, 1) := by decide +kernel
theorem dX11_gift_24 : decode cX11_gift 24 = .ok (.getfield 41, 3) := by decide +kernel
theorem dX11_gift_27 : decode cX11_gift 27 = .ok (.aload 5, 2) := by decide +kernel
theorem dX11_gift_29 : decode cX11_gift 29 = .ok (.iload_n 2, 1) := by decide +kernel
theorem dX11_gift_30 : decode cX11_gift 30 = .ok (.ldc2_w 212, 3) := by decide +kernel
theorem dX11_gift_33 : decode cX11_gift 33 = .ok (.invokevirtual 214, 3) := by decide +kernel
theorem dX11_gift_36 : decode cX11_gift 36 = .ok (.aload_n 0, 1) := by decide +kernel
theorem dX11_gift_37 : decode cX11_gift 37 = .ok (.getfield 41, 3) := by decide +kernel
theorem dX11_gift_40 : decode cX11_gift 40 = .ok (.aload 5, 2) := by decide +kernel
theorem dX11_gift_42 : decode cX11_gift 42 = .ok (.iload_n 3, 1) := by decide +kernel
theorem dX11_gift_43 : decode cX11_gift 43 = .ok (.invokevirtual 227, 3) := by decide +kernel
theorem dX11_gift_46 : decode cX11_gift 46 = .ok (.aload_n 0, 1) := by decide +kernel
theorem dX11_gift_47 : decode cX11_gift 47 = .ok (.getfield 41, 3) := by decide +kernel
theorem dX11_gift_50 : decode cX11_gift 50 = .ok (.aload 5, 2) := by decide +kernel
theorem dX11_gift_52 : decode cX11_gift 52 = .ok (.iload_n 2, 1) := by decide +kernel
theorem dX11_gift_53 : decode cX11_gift 53 = .ok (.iload_n 3, 1) := by decide +kernel
theorem dX11_gift_54 : decode cX11_gift 54 = .ok (.invokevirtual 252, 3) := by decide +kernel
theorem dX11_gift_57 : decode cX11_gift 57 = .ok (.iload 4, 2) := by decide +kernel
theorem dX11_gift_59 : decode cX11_gift 59 = .ok (.ifCond .eq 13, 3) := by decide +kernel
theorem dX11_gift_62 : decode cX11_gift 62 = .ok (.aload_n 0, 1) := by decide +kernel
theorem dX11_gift_63 : decode cX11_gift 63 = .ok (.getfield 41, 3) := by decide +kernel
theorem dX11_gift_66 : decode cX11_gift 66 = .ok (.getfield 255, 3) := by decide +kernel
theorem dX11_gift_69 : decode cX11_gift 69 = .ok (.goto 10, 3) := by decide +kernel
theorem dX11_gift_72 : decode cX11_gift 72 = .ok (.aload_n 0, 1) := by decide +kernel
theorem dX11_gift_73 : decode cX11_gift 73 = .ok (.getfield 41, 3) := by decide +kernel
theorem dX11_gift_76 : decode cX11_gift 76 = .ok (.getfield 258, 3) := by decide +kernel
theorem dX11_gift_79 : decode cX11_gift 79 = .ok (.ireturn, 1) := by decide +kernel
theorem dX11_swap_0 : decode cX11_swap 0 = .ok (.aload_n 0, 1) := by decide +kernel
theorem dX11_swap_1 : decode cX11_swap 1 = .ok (.iload_n 1, 1) := by decide +kernel
theorem dX11_swap_2 : decode cX11_swap 2 = .ok (.invokevirtual 361, 3) := by decide +kernel
theorem dX11_swap_5 : decode cX11_swap 5 = .ok (.ifCond .ne 7, 3) := by decide +kernel
theorem dX11_swap_8 : decode cX11_swap 8 = .ok (.sipush (-1000), 3) := by decide +kernel
theorem dX11_swap_11 : decode cX11_swap 11 = .ok (.ireturn, 1) := by decide +kernel
theorem dX11_swap_12 : decode cX11_swap 12 = .ok (.aload_n 0, 1) := by decide +kernel
theorem dX11_swap_13 : decode cX11_swap 13 = .ok (.getfield 12, 3) := by decide +kernel
theorem dX11_swap_16 : decode cX11_swap 16 = .ok (.getfield 364, 3) := by decide +kernel
theorem dX11_swap_19 : decode cX11_swap 19 = .ok (.iload_n 1, 1) := by decide +kernel
theorem dX11_swap_20 : decode cX11_swap 20 = .ok (.aaload, 1) := by decide +kernel
theorem dX11_swap_21 : decode cX11_swap 21 = .ok (.astore_n 3, 1) := by decide +kernel
theorem dX11_swap_22 : decode cX11_swap 22 = .ok (.iload_n 2, 1) := by decide +kernel
theorem dX11_swap_23 : decode cX11_swap 23 = .ok (.ifCond .ne 8, 3) := by decide +kernel
theorem dX11_swap_26 : decode cX11_swap 26 = .ok (.aload_n 3, 1) := by decide +kernel
theorem dX11_swap_27 : decode cX11_swap 27 = .ok (.getfield 368, 3) := by decide +kernel
theorem dX11_swap_30 : decode cX11_swap 30 = .ok (.ireturn, 1) := by decide +kernel
theorem dX11_swap_31 : decode cX11_swap 31 = .ok (.iload_n 2, 1) := by decide +kernel
theorem dX11_swap_32 : decode cX11_swap 32 = .ok (.bipush 100, 2) := by decide +kernel
theorem dX11_swap_34 : decode cX11_swap 34 = .ok (.bipush 36, 2) := by decide +kernel
theorem dX11_swap_36 : decode cX11_swap 36 = .ok (.invokestatic 137, 3) := by decide +kernel
theorem dX11_swap_39 : decode cX11_swap 39 = .ok (.ifCond .eq 54, 3) := by decide +kernel
theorem dX11_swap_42 : decode cX11_swap 42 = .ok (.iload_n 2, 1) := by decide +kernel
theorem dX11_swap_43 : decode cX11_swap 43 = .ok (.bipush 100, 2) := by decide +kernel
theorem dX11_swap_45 : decode cX11_swap 45 = .ok (.isub, 1) := by decide +kernel
theorem dX11_swap_46 : decode cX11_swap 46 = .ok (.bipush 6, 2) := by decide +kernel
theorem dX11_swap_48 : decode cX11_swap 48 = .ok (.idiv, 1) := by decide +kernel
theorem dX11_swap_49 : decode cX11_swap 49 = .ok (.istore 4, 2) := by decide +kernel
theorem dX11_swap_51 : decode cX11_swap 51 = .ok (.iload_n 2, 1) := by decide +kernel
theorem dX11_swap_52 : decode cX11_swap 52 = .ok (.bipush 100, 2) := by decide +kernel
theorem dX11_swap_54 : decode cX11_swap 54 = .ok (.isub, 1) := by decide +kernel
theorem dX11_swap_55 : decode cX11_swap 55 = .ok (.bipush 6, 2) := by decide +kernel
theorem dX11_swap_57 : decode cX11_swap 57 = .ok (.irem, 1) := by decide +kernel
theorem dX11_swap_58 : decode cX11_swap 58 = .ok (.istore 5, 2) := by decide +kernel
theorem dX11_swap_60 : decode cX11_swap 60 = .ok (.iload 4, 2) := by decide +kernel
theorem dX11_swap_62 : decode cX11_swap 62 = .ok (.aload_n 3, 1) := by decide +kernel
theorem dX11_swap_63 : decode cX11_swap 63 = .ok (.getfield 368, 3) := by decide +kernel
theorem dX11_swap_66 : decode cX11_swap 66 = .ok (.if_icmp .ge 23, 3) := by decide +kernel
theorem dX11_swap_69 : decode cX11_swap 69 = .ok (.iload 5, 2) := by decide +kernel
theorem dX11_swap_71 : decode cX11_swap 71 = .ok (.aload_n 3, 1) := by decide +kernel
theorem dX11_swap_72 : decode cX11_swap 72 = .ok (.getfield 368, 3) := by decide +kernel
theorem dX11_swap_75 : decode cX11_swap 75 = .ok (.if_icmp .ge 14, 3) := by decide +kernel
theorem dX11_swap_78 : decode cX11_swap 78 = .ok (.aload_n 3, 1) := by decide +kernel
theorem dX11_swap_79 : decode cX11_swap 79 = .ok (.iload 4, 2) := by decide +kernel
theorem dX11_swap_81 : decode cX11_swap 81 = .ok (.iload 5, 2) := by decide +kernel
theorem dX11_swap_83 : decode cX11_swap 83 = .ok (.invokevirtual 373, 3) := by decide +kernel
theorem dX11_swap_86 : decode cX11_swap 86 = .ok (.goto 6, 3) := by decide +kernel
theorem dX11_swap_89 : decode cX11_swap 89 = .ok (.sipush (-1000), 3) := by decide +kernel
theorem dX11_swap_92 : decode cX11_swap 92 = .ok (.ireturn, 1) := by decide +kernel
theorem dX11_swap_93 : decode cX11_swap 93 = .ok (.aload_n 0, 1) := by decide +kernel
theorem dX11_swap_94 : decode cX11_swap 94 = .ok (.getfield 62, 3) := by decide +kernel
theorem dX11_swap_97 : decode cX11_swap 97 = .ok (.aload_n 3, 1) := by decide +kernel
theorem dX11_swap_98 : decode cX11_swap 98 = .ok (.invokevirtual 376, 3) := by decide +kernel
theorem dX11_swap_101 : decode cX11_swap 101 = .ok (.iload_n 2, 1) := by decide +kernel
theorem dX11_swap_102 : decode cX11_swap 102 = .ok (.iconst 1, 1) := by decide +kernel
theorem dX11_swap_103 : decode cX11_swap 103 = .ok (.if_icmp .ne 12, 3) := by decide +kernel
theorem dX11_swap_106 : decode cX11_swap 106 = .ok (.aload_n 0, 1) := by decide +kernel
theorem dX11_swap_107 : decode cX11_swap 107 = .ok (.getfield 62, 3) := by decide +kernel
theorem dX11_swap_110 : decode cX11_swap 110 = .ok (.aload_n 3, 1) := by decide +kernel
theorem dX11_swap_111 : decode cX11_swap 111 = .ok (.invokevirtual 380, 3) := by decide +kernel
theorem dX11_swap_114 : decode cX11_swap 114 = .ok (.ireturn, 1) := by decide +kernel
theorem dX11_swap_115 : decode cX11_swap 115 = .ok (.iload_n 2, 1) := by decide +kernel
theorem dX11_swap_116 : decode cX11_swap 116 = .ok (.iconst 2, 1) := by decide +kernel
theorem dX11_swap_117 : decode cX11_swap 117 = .ok (.if_icmp .ne 11, 3) := by decide +kernel
theorem dX11_swap_120 : decode cX11_swap 120 = .ok (.aload_n 0, 1) := by decide +kernel
theorem dX11_swap_121 : decode cX11_swap 121 = .ok (.getfield 62, 3) := by decide +kernel
theorem dX11_swap_124 : decode cX11_swap 124 = .ok (.getfield 384, 3) := by decide +kernel
theorem dX11_swap_127 : decode cX11_swap 127 = .ok (.ireturn, 1) := by decide +kernel
theorem dX11_swap_128 : decode cX11_swap 128 = .ok (.iload_n 2, 1) := by decide +kernel
theorem dX11_swap_129 : decode cX11_swap 129 = .ok (.bipush 10, 2) := by decide +kernel
theorem dX11_swap_131 : decode cX11_swap 131 = .ok (.aload_n 3, 1) := by decide +kernel
theorem dX11_swap_132 : decode cX11_swap 132 = .ok (.getfield 368, 3) := by decide +kernel
theorem dX11_swap_135 : decode cX11_swap 135 = .ok (.invokestatic 137, 3) := by decide +kernel
theorem dX11_swap_138 : decode cX11_swap 138 = .ok (.ifCond .eq 16, 3) := by decide +kernel
theorem dX11_swap_141 : decode cX11_swap 141 = .ok (.aload_n 0, 1) := by decide +kernel
theorem dX11_swap_142 : decode cX11_swap 142 = .ok (.getfield 62, 3) := by decide +kernel
theorem dX11_swap_145 : decode cX11_swap 145 = .ok (.getfield 387, 3) := by decide +kernel
theorem dX11_swap_148 : decode cX11_swap 148 = .ok (.iload_n 2, 1) := by decide +kernel
theorem dX11_swap_149 : decode cX11_swap 149 = .ok (.bipush 10, 2) := by decide +kernel
theorem dX11_swap_151 : decode cX11_swap 151 = .ok (.isub, 1) := by decide +kernel
theorem dX11_swap_152 : decode cX11_swap 152 = .ok (.iaload, 1) := by decide +kernel
theorem dX11_swap_153 : decode cX11_swap 153 = .ok (.ireturn, 1) := by decide +kernel
theorem dX11_swap_154 : decode cX11_swap 154 = .ok (.iload_n 2, 1) := by decide +kernel
theorem dX11_swap_155 : decode cX11_swap 155 = .ok (.bipush 20, 2) := by decide +kernel
theorem dX11_swap_157 : decode cX11_swap 157 = .ok (.aload_n 3, 1) := by decide +kernel
theorem dX11_swap_158 : decode cX11_swap 158 = .ok (.getfield 368, 3) := by decide +kernel
theorem dX11_swap_161 : decode cX11_swap 161 = .ok (.invokestatic 137, 3) := by decide +kernel
theorem dX11_swap_164 : decode cX11_swap 164 = .ok (.ifCond .eq 18, 3) := by decide +kernel
theorem dX11_swap_167 : decode cX11_swap 167 = .ok (.aload_n 0, 1) := by decide +kernel
theorem dX11_swap_168 : decode cX11_swap 168 = .ok (.getfield 62, 3) := by decide +kernel
theorem dX11_swap_171 : decode cX11_swap 171 = .ok (.getfield 390, 3) := by decide +kernel
theorem dX11_swap_174 : decode cX11_swap 174 = .ok (.iload_n 2, 1) := by decide +kernel
theorem dX11_swap_175 : decode cX11_swap 175 = .ok (.bipush 20, 2) := by decide +kernel
theorem dX11_swap_177 : decode cX11_swap 177 = .ok (.isub, 1) := by decide +kernel
theorem dX11_swap_178 : decode cX11_swap 178 = .ok (.iaload, 1) := by decide +kernel
theorem dX11_swap_179 : decode cX11_swap 179 = .ok (.goto 6, 3) := by decide +kernel
theorem dX11_swap_182 : decode cX11_swap 182 = .ok (.sipush (-1000), 3) := by decide +kernel
theorem dX11_swap_185 : decode cX11_swap 185 = .ok (.ireturn, 1) := by decide +kernel
theorem dX11_happy_0 : decode cX11_happy 0 = .ok (.aload_n 0, 1) := by decide +kernel
theorem dX11_happy_1 : decode cX11_happy 1 = .ok (.iload_n 1, 1) := by decide +kernel
theorem dX11_happy_2 : decode cX11_happy 2 = .ok (.invokevirtual 361, 3) := by decide +kernel
theorem dX11_happy_5 : decode cX11_happy 5 = .ok (.ifCond .ne 5, 3) := by decide +kernel
theorem dX11_happy_8 : decode cX11_happy 8 = .ok (.iconst (-1), 1) := by decide +kernel
theorem dX11_happy_9 : decode cX11_happy 9 = .ok (.ireturn, 1) := by decide +kernel
theorem dX11_happy_10 : decode cX11_happy 10 = .ok (.aload_n 0, 1) := by decide +kernel
theorem dX11_happy_11 : decode cX11_happy 11 = .ok (.getfield 12, 3) := by decide +kernel
theorem dX11_happy_14 : decode cX11_happy 14 = .ok (.getfield 364, 3) := by decide +kernel
theorem dX11_happy_17 : decode cX11_happy 17 = .ok (.iload_n 1, 1) := by decide +kernel
theorem dX11_happy_18 : decode cX11_happy 18 = .ok (.aaload, 1) := by decide +kernel
theorem dX11_happy_19 : decode cX11_happy 19 = .ok (.astore_n 3, 1) := by decide +kernel
theorem dX11_happy_20 : decode cX11_happy 20 = .ok (.aload_n 0, 1) := by decide +kernel
theorem dX11_happy_21 : decode cX11_happy 21 = .ok (.getfield 62, 3) := by decide +kernel
theorem dX11_happy_24 : decode cX11_happy 24 = .ok (.aload_n 3, 1) := by decide +kernel
theorem dX11_happy_25 : decode cX11_happy 25 = .ok (.invokevirtual 376, 3) := by decide +kernel
theorem dX11_happy_28 : decode cX11_happy 28 = .ok (.iload_n 2, 1) := by decide +kernel
theorem dX11_happy_29 : decode cX11_happy 29 = .ok (.tableswitch 50 0 2 #[27, 36, 41], 27) := by decide +kernel
theorem dX11_happy_56 : decode cX11_happy 56 = .ok (.aload_n 0, 1) := by decide +kernel
theorem dX11_happy_57 : decode cX11_happy 57 = .ok (.getfield 62, 3) := by decide +kernel
theorem dX11_happy_60 : decode cX11_happy 60 = .ok (.aload_n 3, 1) := by decide +kernel
theorem dX11_happy_61 : decode cX11_happy 61 = .ok (.invokevirtual 393, 3) := by decide +kernel
theorem dX11_happy_64 : decode cX11_happy 64 = .ok (.ireturn, 1) := by decide +kernel
theorem dX11_happy_65 : decode cX11_happy 65 = .ok (.aload_n 3, 1) := by decide +kernel
theorem dX11_happy_66 : decode cX11_happy 66 = .ok (.invokevirtual 396, 3) := by decide +kernel
theorem dX11_happy_69 : decode cX11_happy 69 = .ok (.ireturn, 1) := by decide +kernel
theorem dX11_happy_70 : decode cX11_happy 70 = .ok (.aload_n 0, 1) := by decide +kernel
theorem dX11_happy_71 : decode cX11_happy 71 = .ok (.getfield 62, 3) := by decide +kernel
theorem dX11_happy_74 : decode cX11_happy 74 = .ok (.aload_n 3, 1) := by decide +kernel
theorem dX11_happy_75 : decode cX11_happy 75 = .ok (.invokevirtual 399, 3) := by decide +kernel
theorem dX11_happy_78 : decode cX11_happy 78 = .ok (.ireturn, 1) := by decide +kernel
theorem dX11_happy_79 : decode cX11_happy 79 = .ok (.iconst (-1), 1) := by decide +kernel
theorem dX11_happy_80 : decode cX11_happy 80 = .ok (.ireturn, 1) := by decide +kernel
theorem dX3_drawDeeds_0 : decode cX3_drawDeeds 0 = .ok (.aload_n 0, 1) := by decide +kernel
theorem dX3_drawDeeds_1 : decode cX3_drawDeeds 1 = .ok (.aload_n 1, 1) := by decide +kernel
theorem dX3_drawDeeds_2 : decode cX3_drawDeeds 2 = .ok (.invokevirtual 46, 3) := by decide +kernel
theorem dX3_drawDeeds_5 : decode cX3_drawDeeds 5 = .ok (.aload_n 0, 1) := by decide +kernel
theorem dX3_drawDeeds_6 : decode cX3_drawDeeds 6 = .ok (.iload_n 2, 1) := by decide +kernel
theorem dX3_drawDeeds_7 : decode cX3_drawDeeds 7 = .ok (.putfield 131, 3) := by decide +kernel
theorem dX3_drawDeeds_10 : decode cX3_drawDeeds 10 = .ok (.iconst 0, 1) := by decide +kernel
theorem dX3_drawDeeds_11 : decode cX3_drawDeeds 11 = .ok (.istore 4, 2) := by decide +kernel
theorem dX3_drawDeeds_13 : decode cX3_drawDeeds 13 = .ok (.iload 4, 2) := by decide +kernel
theorem dX3_drawDeeds_15 : decode cX3_drawDeeds 15 = .ok (.iload_n 3, 1) := by decide +kernel
theorem dX3_drawDeeds_16 : decode cX3_drawDeeds 16 = .ok (.if_icmp .ge 13, 3) := by decide +kernel
theorem dX3_drawDeeds_19 : decode cX3_drawDeeds 19 = .ok (.aload_n 0, 1) := by decide +kernel
theorem dX3_drawDeeds_20 : decode cX3_drawDeeds 20 = .ok (.invokevirtual 134, 3) := by decide +kernel
theorem dX3_drawDeeds_23 : decode cX3_drawDeeds 23 = .ok (.iinc 4 1, 3) := by decide +kernel
theorem dX3_drawDeeds_26 : decode cX3_drawDeeds 26 = .ok (.goto (-13), 3) := by decide +kernel
theorem dX3_drawDeeds_29 : decode cX3_drawDeeds 29 = .ok (.return_, 1) := by decide +kernel
theorem dX4_kindOfLine_0 : decode cX4_kindOfLine 0 = .ok (.getstatic 139, 3) := by decide +kernel
theorem dX4_kindOfLine_3 : decode cX4_kindOfLine 3 = .ok (.iload_n 1, 1) := by decide +kernel
theorem dX4_kindOfLine_4 : decode cX4_kindOfLine 4 = .ok (.iaload, 1) := by decide +kernel
theorem dX4_kindOfLine_5 : decode cX4_kindOfLine 5 = .ok (.istore_n 2, 1) := by decide +kernel
theorem dX4_kindOfLine_6 : decode cX4_kindOfLine 6 = .ok (.iload_n 2, 1) := by decide +kernel
theorem dX4_kindOfLine_7 : decode cX4_kindOfLine 7 = .ok (.getstatic 139, 3) := by decide +kernel
theorem dX4_kindOfLine_10 : decode cX4_kindOfLine 10 = .ok (.iload_n 1, 1) := by decide +kernel
theorem dX4_kindOfLine_11 : decode cX4_kindOfLine 11 = .ok (.iconst 1, 1) := by decide +kernel
theorem dX4_kindOfLine_12 : decode cX4_kindOfLine 12 = .ok (.iadd, 1) := by decide +kernel
theorem dX4_kindOfLine_13 : decode cX4_kindOfLine 13 = .ok (.iaload, 1) := by decide +kernel
theorem dX4_kindOfLine_14 : decode cX4_kindOfLine 14 = .ok (.if_icmp .ge 25, 3) := by decide +kernel
theorem dX4_kindOfLine_17 : decode cX4_kindOfLine 17 = .ok (.aload_n 0, 1) := by decide +kernel
theorem dX4_kindOfLine_18 : decode cX4_kindOfLine 18 = .ok (.getfield 12, 3) := by decide +kernel
theorem dX4_kindOfLine_21 : decode cX4_kindOfLine 21 = .ok (.iload_n 2, 1) := by decide +kernel
theorem dX4_kindOfLine_22 : decode cX4_kindOfLine 22 = .ok (.invokestatic 142, 3) := by decide +kernel
theorem dX4_kindOfLine_25 : decode cX4_kindOfLine 25 = .ok (.invokevirtual 145, 3) := by decide +kernel
theorem dX4_kindOfLine_28 : decode cX4_kindOfLine 28 = .ok (.ifCond .eq 5, 3) := by decide +kernel
theorem dX4_kindOfLine_31 : decode cX4_kindOfLine 31 = .ok (.iload_n 2, 1) := by decide +kernel
theorem dX4_kindOfLine_32 : decode cX4_kindOfLine 32 = .ok (.ireturn, 1) := by decide +kernel
theorem dX4_kindOfLine_33 : decode cX4_kindOfLine 33 = .ok (.iinc 2 1, 3) := by decide +kernel
theorem dX4_kindOfLine_36 : decode cX4_kindOfLine 36 = .ok (.goto (-30), 3) := by decide +kernel
theorem dX4_kindOfLine_39 : decode cX4_kindOfLine 39 = .ok (.iconst (-1), 1) := by decide +kernel
theorem dX4_kindOfLine_40 : decode cX4_kindOfLine 40 = .ok (.ireturn, 1) := by decide +kernel
theorem dX11_till_0 : decode cX11_till 0 = .ok (.aload_n 0, 1) := by decide +kernel
theorem dX11_till_1 : decode cX11_till 1 = .ok (.iload_n 1, 1) := by decide +kernel
theorem dX11_till_2 : decode cX11_till 2 = .ok (.invokevirtual 105, 3) := by decide +kernel
theorem dX11_till_5 : decode cX11_till 5 = .ok (.ifCond .eq 11, 3) := by decide +kernel
theorem dX11_till_8 : decode cX11_till 8 = .ok (.aload_n 0, 1) := by decide +kernel
theorem dX11_till_9 : decode cX11_till 9 = .ok (.iload_n 2, 1) := by decide +kernel
theorem dX11_till_10 : decode cX11_till 10 = .ok (.invokevirtual 161, 3) := by decide +kernel
theorem dX11_till_13 : decode cX11_till 13 = .ok (.ifCond .ne 5, 3) := by decide +kernel
theorem dX11_till_16 : decode cX11_till 16 = .ok (.iconst (-1), 1) := by decide +kernel
theorem dX11_till_17 : decode cX11_till 17 = .ok (.ireturn, 1) := by decide +kernel
theorem dX11_till_18 : decode cX11_till 18 = .ok (.aload_n 0, 1) := by decide +kernel
theorem dX11_till_19 : decode cX11_till 19 = .ok (.getfield 12, 3) := by decide +kernel
theorem dX11_till_22 : decode cX11_till 22 = .ok (.getfield 164, 3) := by decide +kernel
theorem dX11_till_25 : decode cX11_till 25 = .ok (.iload_n 2, 1) := by decide +kernel
theorem dX11_till_26 : decode cX11_till 26 = .ok (.aaload, 1) := by decide +kernel
theorem dX11_till_27 : decode cX11_till 27 = .ok (.astore_n 3, 1) := by decide +kernel
theorem dX11_till_28 : decode cX11_till 28 = .ok (.aload_n 0, 1) := by decide +kernel
theorem dX11_till_29 : decode cX11_till 29 = .ok (.getfield 34, 3) := by decide +kernel
theorem dX11_till_32 : decode cX11_till 32 = .ok (.aload_n 0, 1) := by decide +kernel
theorem dX11_till_33 : decode cX11_till 33 = .ok (.getfield 12, 3) := by decide +kernel
theorem dX11_till_36 : decode cX11_till 36 = .ok (.getfield 109, 3) := by decide +kernel
theorem dX11_till_39 : decode cX11_till 39 = .ok (.iload_n 1, 1) := by decide +kernel
theorem dX11_till_40 : decode cX11_till 40 = .ok (.aaload, 1) := by decide +kernel
theorem dX11_till_41 : decode cX11_till 41 = .ok (.aload_n 3, 1) := by decide +kernel
theorem dX11_till_42 : decode cX11_till 42 = .ok (.aload_n 3, 1) := by decide +kernel
theorem dX11_till_43 : decode cX11_till 43 = .ok (.getfield 168, 3) := by decide +kernel
theorem dX11_till_46 : decode cX11_till 46 = .ok (.invokevirtual 178, 3) := by decide +kernel
theorem dX11_till_49 : decode cX11_till 49 = .ok (.ireturn, 1) := by decide +kernel
theorem dX11_state_0 : decode cX11_state 0 = .ok (.aload_n 0, 1) := by decide +kernel
theorem dX11_state_1 : decode cX11_state 1 = .ok (.iload_n 1, 1) := by decide +kernel
theorem dX11_state_2 : decode cX11_state 2 = .ok (.invokevirtual 105, 3) := by decide +kernel
theorem dX11_state_5 : decode cX11_state 5 = .ok (.ifCond .eq 11, 3) := by decide +kernel
theorem dX11_state_8 : decode cX11_state 8 = .ok (.aload_n 0, 1) := by decide +kernel
theorem dX11_state_9 : decode cX11_state 9 = .ok (.iload_n 2, 1) := by decide +kernel
theorem dX11_state_10 : decode cX11_state 10 = .ok (.invokevirtual 161, 3) := by decide +kernel
theorem dX11_state_13 : decode cX11_state 13 = .ok (.ifCond .ne 6, 3) := by decide +kernel
theorem dX11_state_16 : decode cX11_state 16 = .ok (.bipush (-2), 2) := by decide +kernel
theorem dX11_state_18 : decode cX11_state 18 = .ok (.ireturn, 1) := by decide +kernel
theorem dX11_state_19 : decode cX11_state 19 = .ok (.aload_n 0, 1) := by decide +kernel
theorem dX11_state_20 : decode cX11_state 20 = .ok (.getfield 12, 3) := by decide +kernel
theorem dX11_state_23 : decode cX11_state 23 = .ok (.getfield 164, 3) := by decide +kernel
theorem dX11_state_26 : decode cX11_state 26 = .ok (.iload_n 2, 1) := by decide +kernel
theorem dX11_state_27 : decode cX11_state 27 = .ok (.aaload, 1) := by decide +kernel
theorem dX11_state_28 : decode cX11_state 28 = .ok (.astore 5, 2) := by decide +kernel
theorem dX11_state_30 : decode cX11_state 30 = .ok (.iload_n 3, 1) := by decide +kernel
theorem dX11_state_31 : decode cX11_state 31 = .ok (.ifCond .lt 35, 3) := by decide +kernel
theorem dX11_state_34 : decode cX11_state 34 = .ok (.iload_n 3, 1) := by decide +kernel
theorem dX11_state_35 : decode cX11_state 35 = .ok (.aload 5, 2) := by decide +kernel
theorem dX11_state_37 : decode cX11_state 37 = .ok (.getfield 168, 3) := by decide +kernel
theorem dX11_state_40 : decode cX11_state 40 = .ok (.if_icmp .gt 26, 3) := by decide +kernel
theorem dX11_state_43 : decode cX11_state 43 = .ok (.aload_n 0, 1) := by decide +kernel
theorem dX11_state_44 : decode cX11_state 44 = .ok (.getfield 34, 3) := by decide +kernel
theorem dX11_state_47 : decode cX11_state 47 = .ok (.aload_n 0, 1) := by decide +kernel
theorem dX11_state_48 : decode cX11_state 48 = .ok (.getfield 12, 3) := by decide +kernel
theorem dX11_state_51 : decode cX11_state 51 = .ok (.getfield 109, 3) := by decide +kernel
theorem dX11_state_54 : decode cX11_state 54 = .ok (.iload_n 1, 1) := by decide +kernel
theorem dX11_state_55 : decode cX11_state 55 = .ok (.aaload, 1) := by decide +kernel
theorem dX11_state_56 : decode cX11_state 56 = .ok (.aload 5, 2) := by decide +kernel
theorem dX11_state_58 : decode cX11_state 58 = .ok (.iload_n 3, 1) := by decide +kernel
theorem dX11_state_59 : decode cX11_state 59 = .ok (.invokevirtual 178, 3) := by decide +kernel
theorem dX11_state_62 : decode cX11_state 62 = .ok (.iload_n 3, 1) := by decide +kernel
theorem dX11_state_63 : decode cX11_state 63 = .ok (.if_icmp .ge 6, 3) := by decide +kernel
theorem dX11_state_66 : decode cX11_state 66 = .ok (.bipush (-2), 2) := by decide +kernel
theorem dX11_state_68 : decode cX11_state 68 = .ok (.ireturn, 1) := by decide +kernel
theorem dX11_state_69 : decode cX11_state 69 = .ok (.aload_n 0, 1) := by decide +kernel
theorem dX11_state_70 : decode cX11_state 70 = .ok (.getfield 34, 3) := by decide +kernel
theorem dX11_state_73 : decode cX11_state 73 = .ok (.iload 4, 2) := by decide +kernel
theorem dX11_state_75 : decode cX11_state 75 = .ok (.invokevirtual 182, 3) := by decide +kernel
theorem dX11_state_78 : decode cX11_state 78 = .ok (.ireturn, 1) := by decide +kernel
theorem dX11_ranked_0 : decode cX11_ranked 0 = .ok (.aload_n 0, 1) := by decide +kernel
theorem dX11_ranked_1 : decode cX11_ranked 1 = .ok (.iload_n 1, 1) := by decide +kernel
theorem dX11_ranked_2 : decode cX11_ranked 2 = .ok (.iload_n 2, 1) := by decide +kernel
theorem dX11_ranked_3 : decode cX11_ranked 3 = .ok (.invokevirtual 118, 3) := by decide +kernel
theorem dX11_ranked_6 : decode cX11_ranked 6 = .ok (.ifCond .ne 5, 3) := by decide +kernel
theorem dX11_ranked_9 : decode cX11_ranked 9 = .ok (.iconst (-1), 1) := by decide +kernel
theorem dX11_ranked_10 : decode cX11_ranked 10 = .ok (.ireturn, 1) := by decide +kernel
theorem dX11_ranked_11 : decode cX11_ranked 11 = .ok (.aload_n 0, 1) := by decide +kernel
theorem dX11_ranked_12 : decode cX11_ranked 12 = .ok (.getfield 12, 3) := by decide +kernel
theorem dX11_ranked_15 : decode cX11_ranked 15 = .ok (.getfield 109, 3) := by decide +kernel
theorem dX11_ranked_18 : decode cX11_ranked 18 = .ok (.iload_n 1, 1) := by decide +kernel
theorem dX11_ranked_19 : decode cX11_ranked 19 = .ok (.aaload, 1) := by decide +kernel
theorem dX11_ranked_20 : decode cX11_ranked 20 = .ok (.astore 4, 2) := by decide +kernel
theorem dX11_ranked_22 : decode cX11_ranked 22 = .ok (.aload_n 0, 1) := by decide +kernel
theorem dX11_ranked_23 : decode cX11_ranked 23 = .ok (.getfield 41, 3) := by decide +kernel
theorem dX11_ranked_26 : decode cX11_ranked 26 = .ok (.aload 4, 2) := by decide +kernel
theorem dX11_ranked_28 : decode cX11_ranked 28 = .ok (.iload_n 2, 1) := by decide +kernel
theorem dX11_ranked_29 : decode cX11_ranked 29 = .ok (.ldc2_w 212, 3) := by decide +kernel
theorem dX11_ranked_32 : decode cX11_ranked 32 = .ok (.invokevirtual 214, 3) := by decide +kernel
theorem dX11_ranked_35 : decode cX11_ranked 35 = .ok (.aload_n 0, 1) := by decide +kernel
theorem dX11_ranked_36 : decode cX11_ranked 36 = .ok (.getfield 41, 3) := by decide +kernel
theorem dX11_ranked_39 : decode cX11_ranked 39 = .ok (.aload 4, 2) := by decide +kernel
theorem dX11_ranked_41 : decode cX11_ranked 41 = .ok (.iload_n 3, 1) := by decide +kernel
theorem dX11_ranked_42 : decode cX11_ranked 42 = .ok (.invokevirtual 268, 3) := by decide +kernel
theorem dX11_ranked_45 : decode cX11_ranked 45 = .ok (.ireturn, 1) := by decide +kernel
theorem dX4_readLine_0 : decode cX4_readLine 0 = .ok (.aload_n 0, 1) := by decide +kernel
theorem dX4_readLine_1 : decode cX4_readLine 1 = .ok (.getfield 12, 3) := by decide +kernel
theorem dX4_readLine_4 : decode cX4_readLine 4 = .ok (.invokevirtual 102, 3) := by decide +kernel
theorem dX4_readLine_7 : decode cX4_readLine 7 = .ok (.aload_n 0, 1) := by decide +kernel
theorem dX4_readLine_8 : decode cX4_readLine 8 = .ok (.getfield 12, 3) := by decide +kernel
theorem dX4_readLine_11 : decode cX4_readLine 11 = .ok (.getfield 105, 3) := by decide +kernel
theorem dX4_readLine_14 : decode cX4_readLine 14 = .ok (.ifCond .ne 5, 3) := by decide +kernel
theorem dX4_readLine_17 : decode cX4_readLine 17 = .ok (.iconst 0, 1) := by decide +kernel
theorem dX4_readLine_18 : decode cX4_readLine 18 = .ok (.ireturn, 1) := by decide +kernel
theorem dX4_readLine_19 : decode cX4_readLine 19 = .ok (.aload_n 0, 1) := by decide +kernel
theorem dX4_readLine_20 : decode cX4_readLine 20 = .ok (.iload_n 1, 1) := by decide +kernel
theorem dX4_readLine_21 : decode cX4_readLine 21 = .ok (.invokevirtual 108, 3) := by decide +kernel
theorem dX4_readLine_24 : decode cX4_readLine 24 = .ok (.istore_n 2, 1) := by decide +kernel
theorem dX4_readLine_25 : decode cX4_readLine 25 = .ok (.iload_n 2, 1) := by decide +kernel
theorem dX4_readLine_26 : decode cX4_readLine 26 = .ok (.ifCond .ge 8, 3) := by decide +kernel
theorem dX4_readLine_29 : decode cX4_readLine 29 = .ok (.aload_n 0, 1) := by decide +kernel
theorem dX4_readLine_30 : decode cX4_readLine 30 = .ok (.invokevirtual 112, 3) := by decide +kernel
theorem dX4_readLine_33 : decode cX4_readLine 33 = .ok (.ireturn, 1) := by decide +kernel
theorem dX4_readLine_34 : decode cX4_readLine 34 = .ok (.aload_n 0, 1) := by decide +kernel
theorem dX4_readLine_35 : decode cX4_readLine 35 = .ok (.iload_n 1, 1) := by decide +kernel
theorem dX4_readLine_36 : decode cX4_readLine 36 = .ok (.iload_n 2, 1) := by decide +kernel
theorem dX4_readLine_37 : decode cX4_readLine 37 = .ok (.invokevirtual 116, 3) := by decide +kernel
theorem dX4_readLine_40 : decode cX4_readLine 40 = .ok (.iload_n 2, 1) := by decide +kernel
theorem dX4_readLine_41 : decode cX4_readLine 41 = .ok (.invokestatic 119, 3) := by decide +kernel
theorem dX4_readLine_44 : decode cX4_readLine 44 = .ok (.astore_n 3, 1) := by decide +kernel
theorem dX4_readLine_45 : decode cX4_readLine 45 = .ok (.iconst 0, 1) := by decide +kernel
theorem dX4_readLine_46 : decode cX4_readLine 46 = .ok (.istore 4, 2) := by decide +kernel
theorem dX4_readLine_48 : decode cX4_readLine 48 = .ok (.iload 4, 2) := by decide +kernel
theorem dX4_readLine_50 : decode cX4_readLine 50 = .ok (.aload_n 3, 1) := by decide +kernel
theorem dX4_readLine_51 : decode cX4_readLine 51 = .ok (.invokevirtual 123, 3) := by decide +kernel
theorem dX4_readLine_54 : decode cX4_readLine 54 = .ok (.if_icmp .ge 44, 3) := by decide +kernel
theorem dX4_readLine_57 : decode cX4_readLine 57 = .ok (.aload_n 0, 1) := by decide +kernel
theorem dX4_readLine_58 : decode cX4_readLine 58 = .ok (.getfield 12, 3) := by decide +kernel
theorem dX4_readLine_61 : decode cX4_readLine 61 = .ok (.invokevirtual 102, 3) := by decide +kernel
theorem dX4_readLine_64 : decode cX4_readLine 64 = .ok (.aload_n 0, 1) := by decide +kernel
theorem dX4_readLine_65 : decode cX4_readLine 65 = .ok (.getfield 12, 3) := by decide +kernel
theorem dX4_readLine_68 : decode cX4_readLine 68 = .ok (.getfield 105, 3) := by decide +kernel
theorem dX4_readLine_71 : decode cX4_readLine 71 = .ok (.iconst 2, 1) := by decide +kernel
theorem dX4_readLine_72 : decode cX4_readLine 72 = .ok (.if_icmp .eq 8, 3) := by decide +kernel
theorem dX4_readLine_75 : decode cX4_readLine 75 = .ok (.aload_n 0, 1) := by decide +kernel
theorem dX4_readLine_76 : decode cX4_readLine 76 = .ok (.invokevirtual 112, 3) := by decide +kernel
theorem dX4_readLine_79 : decode cX4_readLine 79 = .ok (.ireturn, 1) := by decide +kernel
theorem dX4_readLine_80 : decode cX4_readLine 80 = .ok (.aload_n 0, 1) := by decide +kernel
theorem dX4_readLine_81 : decode cX4_readLine 81 = .ok (.aload_n 3, 1) := by decide +kernel
theorem dX4_readLine_82 : decode cX4_readLine 82 = .ok (.iload 4, 2) := by decide +kernel
theorem dX4_readLine_84 : decode cX4_readLine 84 = .ok (.invokevirtual 128, 3) := by decide +kernel
theorem dX4_readLine_87 : decode cX4_readLine 87 = .ok (.iload 4, 2) := by decide +kernel
theorem dX4_readLine_89 : decode cX4_readLine 89 = .ok (.invokevirtual 132, 3) := by decide +kernel
theorem dX4_readLine_92 : decode cX4_readLine 92 = .ok (.iinc 4 1, 3) := by decide +kernel
theorem dX4_readLine_95 : decode cX4_readLine 95 = .ok (.goto (-47), 3) := by decide +kernel
theorem dX4_readLine_98 : decode cX4_readLine 98 = .ok (.aload_n 0, 1) := by decide +kernel
theorem dX4_readLine_99 : decode cX4_readLine 99 = .ok (.getfield 12, 3) := by decide +kernel
theorem dX4_readLine_102 : decode cX4_readLine 102 = .ok (.invokevirtual 102, 3) := by decide +kernel
theorem dX4_readLine_105 : decode cX4_readLine 105 = .ok (.aload_n 0, 1) := by decide +kernel
theorem dX4_readLine_106 : decode cX4_readLine 106 = .ok (.getfield 12, 3) := by decide +kernel
theorem dX4_readLine_109 : decode cX4_readLine 109 = .ok (.getfield 105, 3) := by decide +kernel
theorem dX4_readLine_112 : decode cX4_readLine 112 = .ok (.iconst 3, 1) := by decide +kernel
theorem dX4_readLine_113 : decode cX4_readLine 113 = .ok (.if_icmp .eq 8, 3) := by decide +kernel
theorem dX4_readLine_116 : decode cX4_readLine 116 = .ok (.aload_n 0, 1) := by decide +kernel
theorem dX4_readLine_117 : decode cX4_readLine 117 = .ok (.invokevirtual 112, 3) := by decide +kernel
theorem dX4_readLine_120 : decode cX4_readLine 120 = .ok (.ireturn, 1) := by decide +kernel
theorem dX4_readLine_121 : decode cX4_readLine 121 = .ok (.aload_n 0, 1) := by decide +kernel
theorem dX4_readLine_122 : decode cX4_readLine 122 = .ok (.getfield 59, 3) := by decide +kernel
theorem dX4_readLine_125 : decode cX4_readLine 125 = .ok (.ifCond .ne 9, 3) := by decide +kernel
theorem dX4_readLine_128 : decode cX4_readLine 128 = .ok (.aload_n 0, 1) := by decide +kernel
theorem dX4_readLine_129 : decode cX4_readLine 129 = .ok (.iload_n 1, 1) := by decide +kernel
theorem dX4_readLine_130 : decode cX4_readLine 130 = .ok (.iload_n 2, 1) := by decide +kernel
theorem dX4_readLine_131 : decode cX4_readLine 131 = .ok (.invokevirtual 136, 3) := by decide +kernel
theorem dX4_readLine_134 : decode cX4_readLine 134 = .ok (.iconst 1, 1) := by decide +kernel
theorem dX4_readLine_135 : decode cX4_readLine 135 = .ok (.ireturn, 1) := by decide +kernel
theorem dX11_after_0 : decode cX11_after 0 = .ok (.aload_n 0, 1) := by decide +kernel
theorem dX11_after_1 : decode cX11_after 1 = .ok (.iload_n 1, 1) := by decide +kernel
theorem dX11_after_2 : decode cX11_after 2 = .ok (.iload_n 2, 1) := by decide +kernel
theorem dX11_after_3 : decode cX11_after 3 = .ok (.invokevirtual 186, 3) := by decide +kernel
theorem dX11_after_6 : decode cX11_after 6 = .ok (.iconst (-1), 1) := by decide +kernel
theorem dX11_after_7 : decode cX11_after 7 = .ok (.if_icmp .ne 6, 3) := by decide +kernel
theorem dX11_after_10 : decode cX11_after 10 = .ok (.bipush (-2), 2) := by decide +kernel
theorem dX11_after_12 : decode cX11_after 12 = .ok (.ireturn, 1) := by decide +kernel
theorem dX11_after_13 : decode cX11_after 13 = .ok (.iload_n 3, 1) := by decide +kernel
theorem dX11_after_14 : decode cX11_after 14 = .ok (.tableswitch 81 0 4 #[34, 42, 50, 58, 66], 34) := by decide +kernel
theorem dX11_after_48 : decode cX11_after 48 = .ok (.aload_n 0, 1) := by decide +kernel
theorem dX11_after_49 : decode cX11_after 49 = .ok (.getfield 34, 3) := by decide +kernel
theorem dX11_after_52 : decode cX11_after 52 = .ok (.getfield 189, 3) := by decide +kernel
theorem dX11_after_55 : decode cX11_after 55 = .ok (.ireturn, 1) := by decide +kernel
theorem dX11_after_56 : decode cX11_after 56 = .ok (.aload_n 0, 1) := by decide +kernel
theorem dX11_after_57 : decode cX11_after 57 = .ok (.getfield 34, 3) := by decide +kernel
theorem dX11_after_60 : decode cX11_after 60 = .ok (.invokevirtual 192, 3) := by decide +kernel
theorem dX11_after_63 : decode cX11_after 63 = .ok (.ireturn, 1) := by decide +kernel
theorem dX11_after_64 : decode cX11_after 64 = .ok (.aload_n 0, 1) := by decide +kernel
theorem dX11_after_65 : decode cX11_after 65 = .ok (.getfield 34, 3) := by decide +kernel
theorem dX11_after_68 : decode cX11_after 68 = .ok (.invokevirtual 196, 3) := by decide +kernel
theorem dX11_after_71 : decode cX11_after 71 = .ok (.ireturn, 1) := by decide +kernel
theorem dX11_after_72 : decode cX11_after 72 = .ok (.aload_n 0, 1) := by decide +kernel
theorem dX11_after_73 : decode cX11_after 73 = .ok (.getfield 34, 3) := by decide +kernel
theorem dX11_after_76 : decode cX11_after 76 = .ok (.invokevirtual 199, 3) := by decide +kernel
theorem dX11_after_79 : decode cX11_after 79 = .ok (.ireturn, 1) := by decide +kernel
theorem dX11_after_80 : decode cX11_after 80 = .ok (.aload_n 0, 1) := by decide +kernel
theorem dX11_after_81 : decode cX11_after 81 = .ok (.getfield 34, 3) := by decide +kernel
theorem dX11_after_84 : decode cX11_after 84 = .ok (.aload_n 0, 1) := by decide +kernel
theorem dX11_after_85 : decode cX11_after 85 = .ok (.getfield 34, 3) := by decide +kernel
theorem dX11_after_88 : decode cX11_after 88 = .ok (.invokevirtual 199, 3) := by decide +kernel
theorem dX11_after_91 : decode cX11_after 91 = .ok (.invokevirtual 202, 3) := by decide +kernel
theorem dX11_after_94 : decode cX11_after 94 = .ok (.ireturn, 1) := by decide +kernel
theorem dX11_after_95 : decode cX11_after 95 = .ok (.bipush (-2), 2) := by decide +kernel
theorem dX11_after_97 : decode cX11_after 97 = .ok (.ireturn, 1) := by decide +kernel
theorem dX11_drawn_0 : decode cX11_drawn 0 = .ok (.aload_n 0, 1) := by decide +kernel
theorem dX11_drawn_1 : decode cX11_drawn 1 = .ok (.iload_n 1, 1) := by decide +kernel
theorem dX11_drawn_2 : decode cX11_drawn 2 = .ok (.invokevirtual 105, 3) := by decide +kernel
theorem dX11_drawn_5 : decode cX11_drawn 5 = .ok (.ifCond .eq 13, 3) := by decide +kernel
theorem dX11_drawn_8 : decode cX11_drawn 8 = .ok (.iload_n 3, 1) := by decide +kernel
theorem dX11_drawn_9 : decode cX11_drawn 9 = .ok (.ifCond .lt 9, 3) := by decide +kernel
theorem dX11_drawn_12 : decode cX11_drawn 12 = .ok (.iload_n 3, 1) := by decide +kernel
theorem dX11_drawn_13 : decode cX11_drawn 13 = .ok (.bipush 60, 2) := by decide +kernel
theorem dX11_drawn_15 : decode cX11_drawn 15 = .ok (.if_icmp .le 6, 3) := by decide +kernel
theorem dX11_drawn_18 : decode cX11_drawn 18 = .ok (.bipush (-2), 2) := by decide +kernel
theorem dX11_drawn_20 : decode cX11_drawn 20 = .ok (.ireturn, 1) := by decide +kernel
theorem dX11_drawn_21 : decode cX11_drawn 21 = .ok (.aload_n 0, 1) := by decide +kernel
theorem dX11_drawn_22 : decode cX11_drawn 22 = .ok (.getfield 34, 3) := by decide +kernel
theorem dX11_drawn_25 : decode cX11_drawn 25 = .ok (.aload_n 0, 1) := by decide +kernel
theorem dX11_drawn_26 : decode cX11_drawn 26 = .ok (.getfield 12, 3) := by decide +kernel
theorem dX11_drawn_29 : decode cX11_drawn 29 = .ok (.getfield 109, 3) := by decide +kernel
theorem dX11_drawn_32 : decode cX11_drawn 32 = .ok (.iload_n 1, 1) := by decide +kernel
theorem dX11_drawn_33 : decode cX11_drawn 33 = .ok (.aaload, 1) := by decide +kernel
theorem dX11_drawn_34 : decode cX11_drawn 34 = .ok (.iload_n 2, 1) := by decide +kernel
theorem dX11_drawn_35 : decode cX11_drawn 35 = .ok (.iload_n 3, 1) := by decide +kernel
theorem dX11_drawn_36 : decode cX11_drawn 36 = .ok (.invokevirtual 205, 3) := by decide +kernel
theorem dX11_drawn_39 : decode cX11_drawn 39 = .ok (.aload_n 0, 1) := by decide +kernel
theorem dX11_drawn_40 : decode cX11_drawn 40 = .ok (.getfield 34, 3) := by decide +kernel
theorem dX11_drawn_43 : decode cX11_drawn 43 = .ok (.iload 4, 2) := by decide +kernel
theorem dX11_drawn_45 : decode cX11_drawn 45 = .ok (.invokevirtual 182, 3) := by decide +kernel
theorem dX11_drawn_48 : decode cX11_drawn 48 = .ok (.ireturn, 1) := by decide +kernel
theorem dX1_pick_0 : decode cX1_pick 0 = .ok (.aload_n 0, 1) := by decide +kernel
theorem dX1_pick_1 : decode cX1_pick 1 = .ok (.iload_n 3, 1) := by decide +kernel
theorem dX1_pick_2 : decode cX1_pick 2 = .ok (.invokevirtual 55, 3) := by decide +kernel
theorem dX1_pick_5 : decode cX1_pick 5 = .ok (.istore 4, 2) := by decide +kernel
theorem dX1_pick_7 : decode cX1_pick 7 = .ok (.iload 4, 2) := by decide +kernel
theorem dX1_pick_9 : decode cX1_pick 9 = .ok (.iconst (-1), 1) := by decide +kernel
theorem dX1_pick_10 : decode cX1_pick 10 = .ok (.if_icmp .ne 14, 3) := by decide +kernel
theorem dX1_pick_13 : decode cX1_pick 13 = .ok (.iload_n 1, 1) := by decide +kernel
theorem dX1_pick_14 : decode cX1_pick 14 = .ok (.iload_n 2, 1) := by decide +kernel
theorem dX1_pick_15 : decode cX1_pick 15 = .ok (.if_icmp .ne 7, 3) := by decide +kernel
theorem dX1_pick_18 : decode cX1_pick 18 = .ok (.iconst 1, 1) := by decide +kernel
theorem dX1_pick_19 : decode cX1_pick 19 = .ok (.goto 4, 3) := by decide +kernel
theorem dX1_pick_22 : decode cX1_pick 22 = .ok (.iconst 0, 1) := by decide +kernel
theorem dX1_pick_23 : decode cX1_pick 23 = .ok (.ireturn, 1) := by decide +kernel
theorem dX1_pick_24 : decode cX1_pick 24 = .ok (.iload_n 1, 1) := by decide +kernel
theorem dX1_pick_25 : decode cX1_pick 25 = .ok (.iload_n 2, 1) := by decide +kernel
theorem dX1_pick_26 : decode cX1_pick 26 = .ok (.if_icmp .ge 8, 3) := by decide +kernel
theorem dX1_pick_29 : decode cX1_pick 29 = .ok (.iload_n 1, 1) := by decide +kernel
theorem dX1_pick_30 : decode cX1_pick 30 = .ok (.iconst 3, 1) := by decide +kernel
theorem dX1_pick_31 : decode cX1_pick 31 = .ok (.if_icmp .lt 5, 3) := by decide +kernel
theorem dX1_pick_34 : decode cX1_pick 34 = .ok (.iconst 0, 1) := by decide +kernel
theorem dX1_pick_35 : decode cX1_pick 35 = .ok (.ireturn, 1) := by decide +kernel
theorem dX1_pick_36 : decode cX1_pick 36 = .ok (.iload 4, 2) := by decide +kernel
theorem dX1_pick_38 : decode cX1_pick 38 = .ok (.aload_n 0, 1) := by decide +kernel
theorem dX1_pick_39 : decode cX1_pick 39 = .ok (.getfield 9, 3) := by decide +kernel
theorem dX1_pick_42 : decode cX1_pick 42 = .ok (.iload 4, 2) := by decide +kernel
theorem dX1_pick_44 : decode cX1_pick 44 = .ok (.iaload, 1) := by decide +kernel
theorem dX1_pick_45 : decode cX1_pick 45 = .ok (.isub, 1) := by decide +kernel
theorem dX1_pick_46 : decode cX1_pick 46 = .ok (.iconst 1, 1) := by decide +kernel
theorem dX1_pick_47 : decode cX1_pick 47 = .ok (.iadd, 1) := by decide +kernel
theorem dX1_pick_48 : decode cX1_pick 48 = .ok (.istore 5, 2) := by decide +kernel
theorem dX1_pick_50 : decode cX1_pick 50 = .ok (.iload 5, 2) := by decide +kernel
theorem dX1_pick_52 : decode cX1_pick 52 = .ok (.iload 4, 2) := by decide +kernel
theorem dX1_pick_54 : decode cX1_pick 54 = .ok (.if_icmp .gt 32, 3) := by decide +kernel
theorem dX1_pick_57 : decode cX1_pick 57 = .ok (.aload_n 0, 1) := by decide +kernel
theorem dX1_pick_58 : decode cX1_pick 58 = .ok (.getfield 15, 3) := by decide +kernel
theorem dX1_pick_61 : decode cX1_pick 61 = .ok (.iload_n 1, 1) := by decide +kernel
theorem dX1_pick_62 : decode cX1_pick 62 = .ok (.iload 5, 2) := by decide +kernel
theorem dX1_pick_64 : decode cX1_pick 64 = .ok (.iastore, 1) := by decide +kernel
theorem dX1_pick_65 : decode cX1_pick 65 = .ok (.aload_n 0, 1) := by decide +kernel
theorem dX1_pick_66 : decode cX1_pick 66 = .ok (.iload_n 1, 1) := by decide +kernel
theorem dX1_pick_67 : decode cX1_pick 67 = .ok (.iconst 1, 1) := by decide +kernel
theorem dX1_pick_68 : decode cX1_pick 68 = .ok (.iadd, 1) := by decide +kernel
theorem dX1_pick_69 : decode cX1_pick 69 = .ok (.iload_n 2, 1) := by decide +kernel
theorem dX1_pick_70 : decode cX1_pick 70 = .ok (.iload 5, 2) := by decide +kernel
theorem dX1_pick_72 : decode cX1_pick 72 = .ok (.invokestatic 26, 3) := by decide +kernel
theorem dX1_pick_75 : decode cX1_pick 75 = .ok (.ifCond .eq 5, 3) := by decide +kernel
theorem dX1_pick_78 : decode cX1_pick 78 = .ok (.iconst 1, 1) := by decide +kernel
theorem dX1_pick_79 : decode cX1_pick 79 = .ok (.ireturn, 1) := by decide +kernel
theorem dX1_pick_80 : decode cX1_pick 80 = .ok (.iinc 5 1, 3) := by decide +kernel
theorem dX1_pick_83 : decode cX1_pick 83 = .ok (.goto (-33), 3) := by decide +kernel
theorem dX1_pick_86 : decode cX1_pick 86 = .ok (.iconst 0, 1) := by decide +kernel
theorem dX1_pick_87 : decode cX1_pick 87 = .ok (.ireturn, 1) := by decide +kernel
theorem dX4_read_0 : decode cX4_read 0 = .ok (.aload_n 0, 1) := by decide +kernel
theorem dX4_read_1 : decode cX4_read 1 = .ok (.invokevirtual 48, 3) := by decide +kernel
theorem dX4_read_4 : decode cX4_read 4 = .ok (.aload_n 0, 1) := by decide +kernel
theorem dX4_read_5 : decode cX4_read 5 = .ok (.getfield 12, 3) := by decide +kernel
theorem dX4_read_8 : decode cX4_read 8 = .ok (.aload_n 1, 1) := by decide +kernel
theorem dX4_read_9 : decode cX4_read 9 = .ok (.invokevirtual 51, 3) := by decide +kernel
theorem dX4_read_12 : decode cX4_read 12 = .ok (.iconst 1, 1) := by decide +kernel
theorem dX4_read_13 : decode cX4_read 13 = .ok (.istore_n 3, 1) := by decide +kernel
theorem dX4_read_14 : decode cX4_read 14 = .ok (.iconst 0, 1) := by decide +kernel
theorem dX4_read_15 : decode cX4_read 15 = .ok (.istore 4, 2) := by decide +kernel
theorem dX4_read_17 : decode cX4_read 17 = .ok (.iload 4, 2) := by decide +kernel
theorem dX4_read_19 : decode cX4_read 19 = .ok (.sipush 600, 3) := by decide +kernel
theorem dX4_read_22 : decode cX4_read 22 = .ok (.if_icmp .gt 19, 3) := by decide +kernel
theorem dX4_read_25 : decode cX4_read 25 = .ok (.iload_n 3, 1) := by decide +kernel
theorem dX4_read_26 : decode cX4_read 26 = .ok (.ifCond .eq 15, 3) := by decide +kernel
theorem dX4_read_29 : decode cX4_read 29 = .ok (.aload_n 0, 1) := by decide +kernel
theorem dX4_read_30 : decode cX4_read 30 = .ok (.iload_n 2, 1) := by decide +kernel
theorem dX4_read_31 : decode cX4_read 31 = .ok (.invokevirtual 55, 3) := by decide +kernel
theorem dX4_read_34 : decode cX4_read 34 = .ok (.istore_n 3, 1) := by decide +kernel
theorem dX4_read_35 : decode cX4_read 35 = .ok (.iinc 4 1, 3) := by decide +kernel
theorem dX4_read_38 : decode cX4_read 38 = .ok (.goto (-21), 3) := by decide +kernel
theorem dX4_read_41 : decode cX4_read 41 = .ok (.aload_n 0, 1) := by decide +kernel
theorem dX4_read_42 : decode cX4_read 42 = .ok (.getfield 59, 3) := by decide +kernel
theorem dX4_read_45 : decode cX4_read 45 = .ok (.ifCond .ne 23, 3) := by decide +kernel
theorem dX4_read_48 : decode cX4_read 48 = .ok (.aload_n 0, 1) := by decide +kernel
theorem dX4_read_49 : decode cX4_read 49 = .ok (.iload_n 2, 1) := by decide +kernel
theorem dX4_read_50 : decode cX4_read 50 = .ok (.invokevirtual 63, 3) := by decide +kernel
theorem dX4_read_53 : decode cX4_read 53 = .ok (.ifCond .eq 15, 3) := by decide +kernel
theorem dX4_read_56 : decode cX4_read 56 = .ok (.aload_n 0, 1) := by decide +kernel
theorem dX4_read_57 : decode cX4_read 57 = .ok (.iconst 4, 1) := by decide +kernel
theorem dX4_read_58 : decode cX4_read 58 = .ok (.aload_n 0, 1) := by decide +kernel
theorem dX4_read_59 : decode cX4_read 59 = .ok (.getfield 12, 3) := by decide +kernel
theorem dX4_read_62 : decode cX4_read 62 = .ok (.getfield 66, 3) := by decide +kernel
theorem dX4_read_65 : decode cX4_read 65 = .ok (.invokevirtual 69, 3) := by decide +kernel
theorem dX4_read_68 : decode cX4_read 68 = .ok (.return_, 1) := by decide +kernel
theorem dX1_solve_0 : decode cX1_solve 0 = .ok (.aload_n 0, 1) := by decide +kernel
theorem dX1_solve_1 : decode cX1_solve 1 = .ok (.aload_n 1, 1) := by decide +kernel
theorem dX1_solve_2 : decode cX1_solve 2 = .ok (.lload_n 2, 1) := by decide +kernel
theorem dX1_solve_3 : decode cX1_solve 3 = .ok (.invokevirtual 18, 3) := by decide +kernel
theorem dX1_solve_6 : decode cX1_solve 6 = .ok (.aload_n 0, 1) := by decide +kernel
theorem dX1_solve_7 : decode cX1_solve 7 = .ok (.iconst (-1), 1) := by decide +kernel
theorem dX1_solve_8 : decode cX1_solve 8 = .ok (.putfield 22, 3) := by decide +kernel
theorem dX1_solve_11 : decode cX1_solve 11 = .ok (.iconst 0, 1) := by decide +kernel
theorem dX1_solve_12 : decode cX1_solve 12 = .ok (.istore 4, 2) := by decide +kernel
theorem dX1_solve_14 : decode cX1_solve 14 = .ok (.iload 4, 2) := by decide +kernel
theorem dX1_solve_16 : decode cX1_solve 16 = .ok (.iconst 3, 1) := by decide +kernel
theorem dX1_solve_17 : decode cX1_solve 17 = .ok (.if_icmp .gt 34, 3) := by decide +kernel
theorem dX1_solve_20 : decode cX1_solve 20 = .ok (.aload_n 0, 1) := by decide +kernel
theorem dX1_solve_21 : decode cX1_solve 21 = .ok (.getfield 22, 3) := by decide +kernel
theorem dX1_solve_24 : decode cX1_solve 24 = .ok (.iconst (-1), 1) := by decide +kernel
theorem dX1_solve_25 : decode cX1_solve 25 = .ok (.if_icmp .ne 26, 3) := by decide +kernel
theorem dX1_solve_28 : decode cX1_solve 28 = .ok (.aload_n 0, 1) := by decide +kernel
theorem dX1_solve_29 : decode cX1_solve 29 = .ok (.iconst 0, 1) := by decide +kernel
theorem dX1_solve_30 : decode cX1_solve 30 = .ok (.iload 4, 2) := by decide +kernel
theorem dX1_solve_32 : decode cX1_solve 32 = .ok (.iconst (-1), 1) := by decide +kernel
theorem dX1_solve_33 : decode cX1_solve 33 = .ok (.invokestatic 26, 3) := by decide +kernel
theorem dX1_solve_36 : decode cX1_solve 36 = .ok (.ifCond .eq 9, 3) := by decide +kernel
theorem dX1_solve_39 : decode cX1_solve 39 = .ok (.aload_n 0, 1) := by decide +kernel
theorem dX1_solve_40 : decode cX1_solve 40 = .ok (.iload 4, 2) := by decide +kernel
theorem dX1_solve_42 : decode cX1_solve 42 = .ok (.putfield 22, 3) := by decide +kernel
theorem dX1_solve_45 : decode cX1_solve 45 = .ok (.iinc 4 1, 3) := by decide +kernel
theorem dX1_solve_48 : decode cX1_solve 48 = .ok (.goto (-34), 3) := by decide +kernel
theorem dX1_solve_51 : decode cX1_solve 51 = .ok (.return_, 1) := by decide +kernel
theorem dX11_text_0 : decode cX11_text 0 = .ok (.aload_n 0, 1) := by decide +kernel
theorem dX11_text_1 : decode cX11_text 1 = .ok (.iload_n 1, 1) := by decide +kernel
theorem dX11_text_2 : decode cX11_text 2 = .ok (.iload_n 2, 1) := by decide +kernel
theorem dX11_text_3 : decode cX11_text 3 = .ok (.invokevirtual 78, 3) := by decide +kernel
theorem dX11_text_6 : decode cX11_text 6 = .ok (.istore_n 3, 1) := by decide +kernel
theorem dX11_text_7 : decode cX11_text 7 = .ok (.iload_n 3, 1) := by decide +kernel
theorem dX11_text_8 : decode cX11_text 8 = .ok (.ifCond .ge 30, 3) := by decide +kernel
theorem dX11_text_11 : decode cX11_text 11 = .ok (.aload_n 0, 1) := by decide +kernel
theorem dX11_text_12 : decode cX11_text 12 = .ok (.getfield 12, 3) := by decide +kernel
theorem dX11_text_15 : decode cX11_text 15 = .ok (.iconst 0, 1) := by decide +kernel
theorem dX11_text_16 : decode cX11_text 16 = .ok (.putfield 70, 3) := by decide +kernel
theorem dX11_text_19 : decode cX11_text 19 = .ok (.aload_n 0, 1) := by decide +kernel
theorem dX11_text_20 : decode cX11_text 20 = .ok (.getfield 12, 3) := by decide +kernel
theorem dX11_text_23 : decode cX11_text 23 = .ok (.iconst 0, 1) := by decide +kernel
theorem dX11_text_24 : decode cX11_text 24 = .ok (.putfield 82, 3) := by decide +kernel
theorem dX11_text_27 : decode cX11_text 27 = .ok (.aload_n 0, 1) := by decide +kernel
theorem dX11_text_28 : decode cX11_text 28 = .ok (.getfield 12, 3) := by decide +kernel
theorem dX11_text_31 : decode cX11_text 31 = .ok (.iconst (-1), 1) := by decide +kernel
theorem dX11_text_32 : decode cX11_text 32 = .ok (.putfield 85, 3) := by decide +kernel
theorem dX11_text_35 : decode cX11_text 35 = .ok (.bipush (-2), 2) := by decide +kernel
theorem dX11_text_37 : decode cX11_text 37 = .ok (.ireturn, 1) := by decide +kernel
theorem dX11_text_38 : decode cX11_text 38 = .ok (.aload_n 0, 1) := by decide +kernel
theorem dX11_text_39 : decode cX11_text 39 = .ok (.getfield 27, 3) := by decide +kernel
theorem dX11_text_42 : decode cX11_text 42 = .ok (.aload_n 0, 1) := by decide +kernel
theorem dX11_text_43 : decode cX11_text 43 = .ok (.getfield 12, 3) := by decide +kernel
theorem dX11_text_46 : decode cX11_text 46 = .ok (.iload_n 1, 1) := by decide +kernel
theorem dX11_text_47 : decode cX11_text 47 = .ok (.invokevirtual 88, 3) := by decide +kernel
theorem dX11_text_50 : decode cX11_text 50 = .ok (.aload_n 0, 1) := by decide +kernel
theorem dX11_text_51 : decode cX11_text 51 = .ok (.getfield 12, 3) := by decide +kernel
theorem dX11_text_54 : decode cX11_text 54 = .ok (.iconst 0, 1) := by decide +kernel
theorem dX11_text_55 : decode cX11_text 55 = .ok (.putfield 70, 3) := by decide +kernel
theorem dX11_text_58 : decode cX11_text 58 = .ok (.aload_n 0, 1) := by decide +kernel
theorem dX11_text_59 : decode cX11_text 59 = .ok (.getfield 12, 3) := by decide +kernel
theorem dX11_text_62 : decode cX11_text 62 = .ok (.aload_n 0, 1) := by decide +kernel
theorem dX11_text_63 : decode cX11_text 63 = .ok (.getfield 27, 3) := by decide +kernel
theorem dX11_text_66 : decode cX11_text 66 = .ok (.getfield 92, 3) := by decide +kernel
theorem dX11_text_69 : decode cX11_text 69 = .ok (.putfield 82, 3) := by decide +kernel
theorem dX11_text_72 : decode cX11_text 72 = .ok (.aload_n 0, 1) := by decide +kernel
theorem dX11_text_73 : decode cX11_text 73 = .ok (.getfield 12, 3) := by decide +kernel
theorem dX11_text_76 : decode cX11_text 76 = .ok (.aload_n 0, 1) := by decide +kernel
theorem dX11_text_77 : decode cX11_text 77 = .ok (.getfield 27, 3) := by decide +kernel
theorem dX11_text_80 : decode cX11_text 80 = .ok (.getfield 93, 3) := by decide +kernel
theorem dX11_text_83 : decode cX11_text 83 = .ok (.putfield 85, 3) := by decide +kernel
theorem dX11_text_86 : decode cX11_text 86 = .ok (.aload_n 0, 1) := by decide +kernel
theorem dX11_text_87 : decode cX11_text 87 = .ok (.getfield 27, 3) := by decide +kernel
theorem dX11_text_90 : decode cX11_text 90 = .ok (.getfield 92, 3) := by decide +kernel
theorem dX11_text_93 : decode cX11_text 93 = .ok (.ifCond .eq 5, 3) := by decide +kernel
theorem dX11_text_96 : decode cX11_text 96 = .ok (.iconst (-1), 1) := by decide +kernel
theorem dX11_text_97 : decode cX11_text 97 = .ok (.ireturn, 1) := by decide +kernel
theorem dX11_text_98 : decode cX11_text 98 = .ok (.aload_n 0, 1) := by decide +kernel
theorem dX11_text_99 : decode cX11_text 99 = .ok (.getfield 12, 3) := by decide +kernel
theorem dX11_text_102 : decode cX11_text 102 = .ok (.aload_n 0, 1) := by decide +kernel
theorem dX11_text_103 : decode cX11_text 103 = .ok (.getfield 27, 3) := by decide +kernel
theorem dX11_text_106 : decode cX11_text 106 = .ok (.iload_n 1, 1) := by decide +kernel
theorem dX11_text_107 : decode cX11_text 107 = .ok (.iload_n 3, 1) := by decide +kernel
theorem dX11_text_108 : decode cX11_text 108 = .ok (.invokevirtual 94, 3) := by decide +kernel
theorem dX11_text_111 : decode cX11_text 111 = .ok (.iload_n 3, 1) := by decide +kernel
theorem dX11_text_112 : decode cX11_text 112 = .ok (.ireturn, 1) := by decide +kernel
theorem dX11_corner_0 : decode cX11_corner 0 = .ok (.aload_n 0, 1) := by decide +kernel
theorem dX11_corner_1 : decode cX11_corner 1 = .ok (.iload_n 1, 1) := by decide +kernel
theorem dX11_corner_2 : decode cX11_corner 2 = .ok (.iload_n 2, 1) := by decide +kernel
theorem dX11_corner_3 : decode cX11_corner 3 = .ok (.invokevirtual 118, 3) := by decide +kernel
theorem dX11_corner_6 : decode cX11_corner 6 = .ok (.ifCond .ne 5, 3) := by decide +kernel
theorem dX11_corner_9 : decode cX11_corner 9 = .ok (.iconst (-1), 1) := by decide +kernel
theorem dX11_corner_10 : decode cX11_corner 10 = .ok (.ireturn, 1) := by decide +kernel
theorem dX11_corner_11 : decode cX11_corner 11 = .ok (.aload_n 0, 1) := by decide +kernel
theorem dX11_corner_12 : decode cX11_corner 12 = .ok (.getfield 12, 3) := by decide +kernel
theorem dX11_corner_15 : decode cX11_corner 15 = .ok (.getfield 109, 3) := by decide +kernel
theorem dX11_corner_18 : decode cX11_corner 18 = .ok (.iload_n 1, 1) := by decide +kernel
theorem dX11_corner_19 : decode cX11_corner 19 = .ok (.aaload, 1) := by decide +kernel
theorem dX11_corner_20 : decode cX11_corner 20 = .ok (.astore 4, 2) := by decide +kernel
theorem dX11_corner_22 : decode cX11_corner 22 = .ok (.aload_n 0, 1) := by decide +kernel
theorem dX11_corner_23 : decode cX11_corner 23 = .ok (.getfield 48, 3) := by decide +kernel
theorem dX11_corner_26 : decode cX11_corner 26 = .ok (.aload 4, 2) := by decide +kernel
theorem dX11_corner_28 : decode cX11_corner 28 = .ok (.aload 4, 2) := by decide +kernel
theorem dX11_corner_30 : decode cX11_corner 30 = .ok (.invokevirtual 284, 3) := by decide +kernel
theorem dX11_corner_33 : decode cX11_corner 33 = .ok (.aload 4, 2) := by decide +kernel
theorem dX11_corner_35 : decode cX11_corner 35 = .ok (.iload_n 2, 1) := by decide +kernel
theorem dX11_corner_36 : decode cX11_corner 36 = .ok (.invokevirtual 261, 3) := by decide +kernel
theorem dX11_corner_39 : decode cX11_corner 39 = .ok (.ldc2_w 250, 3) := by decide +kernel
theorem dX11_corner_42 : decode cX11_corner 42 = .ok (.lxor, 1) := by decide +kernel
theorem dX11_corner_43 : decode cX11_corner 43 = .ok (.land, 1) := by decide +kernel
theorem dX11_corner_44 : decode cX11_corner 44 = .ok (.invokevirtual 288, 3) := by decide +kernel
theorem dX11_corner_47 : decode cX11_corner 47 = .ok (.aload_n 0, 1) := by decide +kernel
theorem dX11_corner_48 : decode cX11_corner 48 = .ok (.getfield 48, 3) := by decide +kernel
theorem dX11_corner_51 : decode cX11_corner 51 = .ok (.iload_n 3, 1) := by decide +kernel
theorem dX11_corner_52 : decode cX11_corner 52 = .ok (.invokevirtual 292, 3) := by decide +kernel
theorem dX11_corner_55 : decode cX11_corner 55 = .ok (.ireturn, 1) := by decide +kernel
theorem dX11_robbed_0 : decode cX11_robbed 0 = .ok (.aload_n 0, 1) := by decide +kernel
theorem dX11_robbed_1 : decode cX11_robbed 1 = .ok (.iload_n 1, 1) := by decide +kernel
theorem dX11_robbed_2 : decode cX11_robbed 2 = .ok (.iload_n 2, 1) := by decide +kernel
theorem dX11_robbed_3 : decode cX11_robbed 3 = .ok (.invokevirtual 118, 3) := by decide +kernel
theorem dX11_robbed_6 : decode cX11_robbed 6 = .ok (.ifCond .ne 5, 3) := by decide +kernel
theorem dX11_robbed_9 : decode cX11_robbed 9 = .ok (.iconst (-1), 1) := by decide +kernel
theorem dX11_robbed_10 : decode cX11_robbed 10 = .ok (.ireturn, 1) := by decide +kernel
theorem dX11_robbed_11 : decode cX11_robbed 11 = .ok (.aload_n 0, 1) := by decide +kernel
theorem dX11_robbed_12 : decode cX11_robbed 12 = .ok (.getfield 12, 3) := by decide +kernel
theorem dX11_robbed_15 : decode cX11_robbed 15 = .ok (.getfield 109, 3) := by decide +kernel
theorem dX11_robbed_18 : decode cX11_robbed 18 = .ok (.iload_n 1, 1) := by decide +kernel
theorem dX11_robbed_19 : decode cX11_robbed 19 = .ok (.aaload, 1) := by decide +kernel
theorem dX11_robbed_20 : decode cX11_robbed 20 = .ok (.astore 4, 2) := by decide +kernel
theorem dX11_robbed_22 : decode cX11_robbed 22 = .ok (.aload_n 0, 1) := by decide +kernel
theorem dX11_robbed_23 : decode cX11_robbed 23 = .ok (.getfield 48, 3) := by decide +kernel
theorem dX11_robbed_26 : decode cX11_robbed 26 = .ok (.aload 4, 2) := by decide +kernel
theorem dX11_robbed_28 : decode cX11_robbed 28 = .ok (.aload 4, 2) := by decide +kernel
theorem dX11_robbed_30 : decode cX11_robbed 30 = .ok (.iload_n 2, 1) := by decide +kernel
theorem dX11_robbed_31 : decode cX11_robbed 31 = .ok (.invokevirtual 261, 3) := by decide +kernel
theorem dX11_robbed_34 : decode cX11_robbed 34 = .ok (.invokevirtual 288, 3) := by decide +kernel
theorem dX11_robbed_37 : decode cX11_robbed 37 = .ok (.aload_n 0, 1) := by decide +kernel
theorem dX11_robbed_38 : decode cX11_robbed 38 = .ok (.getfield 48, 3) := by decide +kernel
theorem dX11_robbed_41 : decode cX11_robbed 41 = .ok (.iload_n 3, 1) := by decide +kernel
theorem dX11_robbed_42 : decode cX11_robbed 42 = .ok (.invokevirtual 292, 3) := by decide +kernel
theorem dX11_robbed_45 : decode cX11_robbed 45 = .ok (.ireturn, 1) := by decide +kernel
