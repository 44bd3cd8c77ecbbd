theorem dX12_in_0 : decode cX12_in 0 = .ok (.iload_n 0, 1) := by decide +kernel
theorem dX12_in_1 : decode cX12_in 1 = .ok (.iload_n 1, 1) := by decide +kernel
theorem dX12_in_2 : decode cX12_in 2 = .ok (.if_icmp .lt 12, 3) := by decide +kernel
theorem dX12_in_5 : decode cX12_in 5 = .ok (.iload_n 0, 1) := by decide +kernel
theorem dX12_in_6 : decode cX12_in 6 = .ok (.iload_n 2, 1) := by decide +kernel
theorem dX12_in_7 : decode cX12_in 7 = .ok (.if_icmp .gt 7, 3) := by decide +kernel
theorem dX12_in_10 : decode cX12_in 10 = .ok (.iconst 1, 1) := by decide +kernel
theorem dX12_in_11 : decode cX12_in 11 = .ok (.goto 4, 3) := by decide +kernel
theorem dX12_in_14 : decode cX12_in 14 = .ok (.iconst 0, 1) := by decide +kernel
theorem dX12_in_15 : decode cX12_in 15 = .ok (.ireturn, 1) := by decide +kernel
theorem dX12_has_0 : decode cX12_has 0 = .ok (.iload_n 0, 1) := by decide +kernel
theorem dX12_has_1 : decode cX12_has 1 = .ok (.iload_n 1, 1) := by decide +kernel
theorem dX12_has_2 : decode cX12_has 2 = .ok (.ishr, 1) := by decide +kernel
theorem dX12_has_3 : decode cX12_has 3 = .ok (.iconst 1, 1) := by decide +kernel
theorem dX12_has_4 : decode cX12_has 4 = .ok (.iand, 1) := by decide +kernel
theorem dX12_has_5 : decode cX12_has 5 = .ok (.iconst 1, 1) := by decide +kernel
theorem dX12_has_6 : decode cX12_has 6 = .ok (.if_icmp .ne 7, 3) := by decide +kernel
theorem dX12_has_9 : decode cX12_has 9 = .ok (.iconst 1, 1) := by decide +kernel
theorem dX12_has_10 : decode cX12_has 10 = .ok (.goto 4, 3) := by decide +kernel
theorem dX12_has_13 : decode cX12_has 13 = .ok (.iconst 0, 1) := by decide +kernel
theorem dX12_has_14 : decode cX12_has 14 = .ok (.ireturn, 1) := by decide +kernel
theorem dX12_greater_0 : decode cX12_greater 0 = .ok (.iload_n 0, 1) := by decide +kernel
theorem dX12_greater_1 : decode cX12_greater 1 = .ok (.iload_n 1, 1) := by decide +kernel
theorem dX12_greater_2 : decode cX12_greater 2 = .ok (.if_icmp .le 7, 3) := by decide +kernel
theorem dX12_greater_5 : decode cX12_greater 5 = .ok (.iload_n 0, 1) := by decide +kernel
theorem dX12_greater_6 : decode cX12_greater 6 = .ok (.goto 4, 3) := by decide +kernel
theorem dX12_greater_9 : decode cX12_greater 9 = .ok (.iload_n 1, 1) := by decide +kernel
theorem dX12_greater_10 : decode cX12_greater 10 = .ok (.ireturn, 1) := by decide +kernel
theorem dX12_lesser_0 : decode cX12_lesser 0 = .ok (.iload_n 0, 1) := by decide +kernel
theorem dX12_lesser_1 : decode cX12_lesser 1 = .ok (.iload_n 1, 1) := by decide +kernel
theorem dX12_lesser_2 : decode cX12_lesser 2 = .ok (.if_icmp .ge 7, 3) := by decide +kernel
theorem dX12_lesser_5 : decode cX12_lesser 5 = .ok (.iload_n 0, 1) := by decide +kernel
theorem dX12_lesser_6 : decode cX12_lesser 6 = .ok (.goto 4, 3) := by decide +kernel
theorem dX12_lesser_9 : decode cX12_lesser 9 = .ok (.iload_n 1, 1) := by decide +kernel
theorem dX12_lesser_10 : decode cX12_lesser 10 = .ok (.ireturn, 1) := by decide +kernel
theorem dX12_copyRow_0 : decode cX12_copyRow 0 = .ok (.iconst 0, 1) := by decide +kernel
theorem dX12_copyRow_1 : decode cX12_copyRow 1 = .ok (.istore 4, 2) := by decide +kernel
theorem dX12_copyRow_3 : decode cX12_copyRow 3 = .ok (.iload 4, 2) := by decide +kernel
theorem dX12_copyRow_5 : decode cX12_copyRow 5 = .ok (.iload_n 1, 1) := by decide +kernel
theorem dX12_copyRow_6 : decode cX12_copyRow 6 = .ok (.if_icmp .ge 25, 3) := by decide +kernel
theorem dX12_copyRow_9 : decode cX12_copyRow 9 = .ok (.aload_n 0, 1) := by decide +kernel
theorem dX12_copyRow_10 : decode cX12_copyRow 10 = .ok (.iload_n 1, 1) := by decide +kernel
theorem dX12_copyRow_11 : decode cX12_copyRow 11 = .ok (.iload_n 3, 1) := by decide +kernel
theorem dX12_copyRow_12 : decode cX12_copyRow 12 = .ok (.imul, 1) := by decide +kernel
theorem dX12_copyRow_13 : decode cX12_copyRow 13 = .ok (.iload 4, 2) := by decide +kernel
theorem dX12_copyRow_15 : decode cX12_copyRow 15 = .ok (.iadd, 1) := by decide +kernel
theorem dX12_copyRow_16 : decode cX12_copyRow 16 = .ok (.aload_n 0, 1) := by decide +kernel
theorem dX12_copyRow_17 : decode cX12_copyRow 17 = .ok (.iload_n 1, 1) := by decide +kernel
theorem dX12_copyRow_18 : decode cX12_copyRow 18 = .ok (.iload_n 2, 1) := by decide +kernel
theorem dX12_copyRow_19 : decode cX12_copyRow 19 = .ok (.imul, 1) := by decide +kernel
theorem dX12_copyRow_20 : decode cX12_copyRow 20 = .ok (.iload 4, 2) := by decide +kernel
theorem dX12_copyRow_22 : decode cX12_copyRow 22 = .ok (.iadd, 1) := by decide +kernel
theorem dX12_copyRow_23 : decode cX12_copyRow 23 = .ok (.iaload, 1) := by decide +kernel
theorem dX12_copyRow_24 : decode cX12_copyRow 24 = .ok (.iastore, 1) := by decide +kernel
theorem dX12_copyRow_25 : decode cX12_copyRow 25 = .ok (.iinc 4 1, 3) := by decide +kernel
theorem dX12_copyRow_28 : decode cX12_copyRow 28 = .ok (.goto (-25), 3) := by decide +kernel
theorem dX12_copyRow_31 : decode cX12_copyRow 31 = .ok (.return_, 1) := by decide +kernel
theorem dX12_four_0 : decode cX12_four 0 = .ok (.bipush 24, 2) := by decide +kernel
theorem dX12_four_2 : decode cX12_four 2 = .ok (.istore_n 2, 1) := by decide +kernel
theorem dX12_four_3 : decode cX12_four 3 = .ok (.iload_n 2, 1) := by decide +kernel
theorem dX12_four_4 : decode cX12_four 4 = .ok (.ifCond .lt 34, 3) := by decide +kernel
theorem dX12_four_7 : decode cX12_four 7 = .ok (.aload_n 0, 1) := by decide +kernel
theorem dX12_four_8 : decode cX12_four 8 = .ok (.getfield 7, 3) := by decide +kernel
theorem dX12_four_11 : decode cX12_four 11 = .ok (.aload_n 0, 1) := by decide +kernel
theorem dX12_four_12 : decode cX12_four 12 = .ok (.getfield 13, 3) := by decide +kernel
theorem dX12_four_15 : decode cX12_four 15 = .ok (.iconst 0, 1) := by decide +kernel
theorem dX12_four_16 : decode cX12_four 16 = .ok (.iaload, 1) := by decide +kernel
theorem dX12_four_17 : decode cX12_four 17 = .ok (.iload_n 1, 1) := by decide +kernel
theorem dX12_four_18 : decode cX12_four 18 = .ok (.iload_n 2, 1) := by decide +kernel
theorem dX12_four_19 : decode cX12_four 19 = .ok (.ishr, 1) := by decide +kernel
theorem dX12_four_20 : decode cX12_four 20 = .ok (.i2b, 1) := by decide +kernel
theorem dX12_four_21 : decode cX12_four 21 = .ok (.bastore, 1) := by decide +kernel
theorem dX12_four_22 : decode cX12_four 22 = .ok (.aload_n 0, 1) := by decide +kernel
theorem dX12_four_23 : decode cX12_four 23 = .ok (.getfield 13, 3) := by decide +kernel
theorem dX12_four_26 : decode cX12_four 26 = .ok (.iconst 0, 1) := by decide +kernel
theorem dX12_four_27 : decode cX12_four 27 = .ok (.dup2, 1) := by decide +kernel
theorem dX12_four_28 : decode cX12_four 28 = .ok (.iaload, 1) := by decide +kernel
theorem dX12_four_29 : decode cX12_four 29 = .ok (.iconst 1, 1) := by decide +kernel
theorem dX12_four_30 : decode cX12_four 30 = .ok (.iadd, 1) := by decide +kernel
theorem dX12_four_31 : decode cX12_four 31 = .ok (.iastore, 1) := by decide +kernel
theorem dX12_four_32 : decode cX12_four 32 = .ok (.iinc 2 (-8), 3) := by decide +kernel
theorem dX12_four_35 : decode cX12_four 35 = .ok (.goto (-32), 3) := by decide +kernel
theorem dX12_four_38 : decode cX12_four 38 = .ok (.return_, 1) := by decide +kernel
theorem dX12_see_0 : decode cX12_see 0 = .ok (.aload_n 0, 1) := by decide +kernel
theorem dX12_see_1 : decode cX12_see 1 = .ok (.getfield 120, 3) := by decide +kernel
theorem dX12_see_4 : decode cX12_see 4 = .ok (.aload_n 0, 1) := by decide +kernel
theorem dX12_see_5 : decode cX12_see 5 = .ok (.getfield 123, 3) := by decide +kernel
theorem dX12_see_8 : decode cX12_see 8 = .ok (.if_icmp .ge 19, 3) := by decide +kernel
theorem dX12_see_11 : decode cX12_see 11 = .ok (.aload_n 0, 1) := by decide +kernel
theorem dX12_see_12 : decode cX12_see 12 = .ok (.getfield 7, 3) := by decide +kernel
theorem dX12_see_15 : decode cX12_see 15 = .ok (.aload_n 0, 1) := by decide +kernel
theorem dX12_see_16 : decode cX12_see 16 = .ok (.getfield 120, 3) := by decide +kernel
theorem dX12_see_19 : decode cX12_see 19 = .ok (.baload, 1) := by decide +kernel
theorem dX12_see_20 : decode cX12_see 20 = .ok (.sipush 255, 3) := by decide +kernel
theorem dX12_see_23 : decode cX12_see 23 = .ok (.iand, 1) := by decide +kernel
theorem dX12_see_24 : decode cX12_see 24 = .ok (.goto 4, 3) := by decide +kernel
theorem dX12_see_27 : decode cX12_see 27 = .ok (.iconst (-1), 1) := by decide +kernel
theorem dX12_see_28 : decode cX12_see 28 = .ok (.ireturn, 1) := by decide +kernel
theorem dX12_fails_0 : decode cX12_fails 0 = .ok (.aload_n 0, 1) := by decide +kernel
theorem dX12_fails_1 : decode cX12_fails 1 = .ok (.aload_n 0, 1) := by decide +kernel
theorem dX12_fails_2 : decode cX12_fails 2 = .ok (.getfield 130, 3) := by decide +kernel
theorem dX12_fails_5 : decode cX12_fails 5 = .ok (.putfield 143, 3) := by decide +kernel
theorem dX12_fails_8 : decode cX12_fails 8 = .ok (.iconst 0, 1) := by decide +kernel
theorem dX12_fails_9 : decode cX12_fails 9 = .ok (.ireturn, 1) := by decide +kernel
theorem dX12_later_0 : decode cX12_later 0 = .ok (.aload_n 0, 1) := by decide +kernel
theorem dX12_later_1 : decode cX12_later 1 = .ok (.getfield 146, 3) := by decide +kernel
theorem dX12_later_4 : decode cX12_later 4 = .ok (.ifCond .eq 27, 3) := by decide +kernel
theorem dX12_later_7 : decode cX12_later 7 = .ok (.iload_n 2, 1) := by decide +kernel
theorem dX12_later_8 : decode cX12_later 8 = .ok (.aload_n 0, 1) := by decide +kernel
theorem dX12_later_9 : decode cX12_later 9 = .ok (.getfield 149, 3) := by decide +kernel
theorem dX12_later_12 : decode cX12_later 12 = .ok (.if_icmp .lt 19, 3) := by decide +kernel
theorem dX12_later_15 : decode cX12_later 15 = .ok (.iload_n 2, 1) := by decide +kernel
theorem dX12_later_16 : decode cX12_later 16 = .ok (.aload_n 0, 1) := by decide +kernel
theorem dX12_later_17 : decode cX12_later 17 = .ok (.getfield 149, 3) := by decide +kernel
theorem dX12_later_20 : decode cX12_later 20 = .ok (.if_icmp .ne 21, 3) := by decide +kernel
theorem dX12_later_23 : decode cX12_later 23 = .ok (.iload_n 1, 1) := by decide +kernel
theorem dX12_later_24 : decode cX12_later 24 = .ok (.aload_n 0, 1) := by decide +kernel
theorem dX12_later_25 : decode cX12_later 25 = .ok (.getfield 146, 3) := by decide +kernel
theorem dX12_later_28 : decode cX12_later 28 = .ok (.if_icmp .ge 13, 3) := by decide +kernel
theorem dX12_later_31 : decode cX12_later 31 = .ok (.aload_n 0, 1) := by decide +kernel
theorem dX12_later_32 : decode cX12_later 32 = .ok (.iload_n 1, 1) := by decide +kernel
theorem dX12_later_33 : decode cX12_later 33 = .ok (.putfield 146, 3) := by decide +kernel
theorem dX12_later_36 : decode cX12_later 36 = .ok (.aload_n 0, 1) := by decide +kernel
theorem dX12_later_37 : decode cX12_later 37 = .ok (.iload_n 2, 1) := by decide +kernel
theorem dX12_later_38 : decode cX12_later 38 = .ok (.putfield 149, 3) := by decide +kernel
theorem dX12_later_41 : decode cX12_later 41 = .ok (.return_, 1) := by decide +kernel
theorem dX12_fill_0 : decode cX12_fill 0 = .ok (.iload_n 2, 1) := by decide +kernel
theorem dX12_fill_1 : decode cX12_fill 1 = .ok (.istore 5, 2) := by decide +kernel
theorem dX12_fill_3 : decode cX12_fill 3 = .ok (.iload 5, 2) := by decide +kernel
theorem dX12_fill_5 : decode cX12_fill 5 = .ok (.iload_n 3, 1) := by decide +kernel
theorem dX12_fill_6 : decode cX12_fill 6 = .ok (.if_icmp .gt 27, 3) := by decide +kernel
theorem dX12_fill_9 : decode cX12_fill 9 = .ok (.aload_n 0, 1) := by decide +kernel
theorem dX12_fill_10 : decode cX12_fill 10 = .ok (.getfield 160, 3) := by decide +kernel
theorem dX12_fill_13 : decode cX12_fill 13 = .ok (.ifCond .eq 20, 3) := by decide +kernel
theorem dX12_fill_16 : decode cX12_fill 16 = .ok (.aload_n 0, 1) := by decide +kernel
theorem dX12_fill_17 : decode cX12_fill 17 = .ok (.getfield 38, 3) := by decide +kernel
theorem dX12_fill_20 : decode cX12_fill 20 = .ok (.iload_n 1, 1) := by decide +kernel
theorem dX12_fill_21 : decode cX12_fill 21 = .ok (.iload 5, 2) := by decide +kernel
theorem dX12_fill_23 : decode cX12_fill 23 = .ok (.iadd, 1) := by decide +kernel
theorem dX12_fill_24 : decode cX12_fill 24 = .ok (.iload 4, 2) := by decide +kernel
theorem dX12_fill_26 : decode cX12_fill 26 = .ok (.iastore, 1) := by decide +kernel
theorem dX12_fill_27 : decode cX12_fill 27 = .ok (.iinc 5 1, 3) := by decide +kernel
theorem dX12_fill_30 : decode cX12_fill 30 = .ok (.goto (-27), 3) := by decide +kernel
theorem dX12_fill_33 : decode cX12_fill 33 = .ok (.return_, 1) := by decide +kernel
theorem dX12_keepRow_0 : decode cX12_keepRow 0 = .ok (.aload_n 0, 1) := by decide +kernel
theorem dX12_keepRow_1 : decode cX12_keepRow 1 = .ok (.getfield 38, 3) := by decide +kernel
theorem dX12_keepRow_4 : decode cX12_keepRow 4 = .ok (.iconst 0, 1) := by decide +kernel
theorem dX12_keepRow_5 : decode cX12_keepRow 5 = .ok (.iaload, 1) := by decide +kernel
theorem dX12_keepRow_6 : decode cX12_keepRow 6 = .ok (.istore_n 3, 1) := by decide +kernel
theorem dX12_keepRow_7 : decode cX12_keepRow 7 = .ok (.iload_n 3, 1) := by decide +kernel
theorem dX12_keepRow_8 : decode cX12_keepRow 8 = .ok (.iload_n 2, 1) := by decide +kernel
theorem dX12_keepRow_9 : decode cX12_keepRow 9 = .ok (.if_icmp .ne 4, 3) := by decide +kernel
theorem dX12_keepRow_12 : decode cX12_keepRow 12 = .ok (.return_, 1) := by decide +kernel
theorem dX12_keepRow_13 : decode cX12_keepRow 13 = .ok (.iconst 0, 1) := by decide +kernel
theorem dX12_keepRow_14 : decode cX12_keepRow 14 = .ok (.istore 4, 2) := by decide +kernel
theorem dX12_keepRow_16 : decode cX12_keepRow 16 = .ok (.iload 4, 2) := by decide +kernel
theorem dX12_keepRow_18 : decode cX12_keepRow 18 = .ok (.iload_n 1, 1) := by decide +kernel
theorem dX12_keepRow_19 : decode cX12_keepRow 19 = .ok (.if_icmp .ge 29, 3) := by decide +kernel
theorem dX12_keepRow_22 : decode cX12_keepRow 22 = .ok (.aload_n 0, 1) := by decide +kernel
theorem dX12_keepRow_23 : decode cX12_keepRow 23 = .ok (.getfield 38, 3) := by decide +kernel
theorem dX12_keepRow_26 : decode cX12_keepRow 26 = .ok (.iconst 1, 1) := by decide +kernel
theorem dX12_keepRow_27 : decode cX12_keepRow 27 = .ok (.iload_n 1, 1) := by decide +kernel
theorem dX12_keepRow_28 : decode cX12_keepRow 28 = .ok (.iload_n 3, 1) := by decide +kernel
theorem dX12_keepRow_29 : decode cX12_keepRow 29 = .ok (.imul, 1) := by decide +kernel
theorem dX12_keepRow_30 : decode cX12_keepRow 30 = .ok (.iadd, 1) := by decide +kernel
theorem dX12_keepRow_31 : decode cX12_keepRow 31 = .ok (.iload 4, 2) := by decide +kernel
theorem dX12_keepRow_33 : decode cX12_keepRow 33 = .ok (.iadd, 1) := by decide +kernel
theorem dX12_keepRow_34 : decode cX12_keepRow 34 = .ok (.aload_n 0, 1) := by decide +kernel
theorem dX12_keepRow_35 : decode cX12_keepRow 35 = .ok (.getfield 41, 3) := by decide +kernel
theorem dX12_keepRow_38 : decode cX12_keepRow 38 = .ok (.iload 4, 2) := by decide +kernel
theorem dX12_keepRow_40 : decode cX12_keepRow 40 = .ok (.iaload, 1) := by decide +kernel
theorem dX12_keepRow_41 : decode cX12_keepRow 41 = .ok (.iastore, 1) := by decide +kernel
theorem dX12_keepRow_42 : decode cX12_keepRow 42 = .ok (.iinc 4 1, 3) := by decide +kernel
theorem dX12_keepRow_45 : decode cX12_keepRow 45 = .ok (.goto (-29), 3) := by decide +kernel
theorem dX12_keepRow_48 : decode cX12_keepRow 48 = .ok (.aload_n 0, 1) := by decide +kernel
theorem dX12_keepRow_49 : decode cX12_keepRow 49 = .ok (.getfield 38, 3) := by decide +kernel
theorem dX12_keepRow_52 : decode cX12_keepRow 52 = .ok (.iconst 0, 1) := by decide +kernel
theorem dX12_keepRow_53 : decode cX12_keepRow 53 = .ok (.dup2, 1) := by decide +kernel
theorem dX12_keepRow_54 : decode cX12_keepRow 54 = .ok (.iaload, 1) := by decide +kernel
theorem dX12_keepRow_55 : decode cX12_keepRow 55 = .ok (.iconst 1, 1) := by decide +kernel
theorem dX12_keepRow_56 : decode cX12_keepRow 56 = .ok (.iadd, 1) := by decide +kernel
theorem dX12_keepRow_57 : decode cX12_keepRow 57 = .ok (.iastore, 1) := by decide +kernel
theorem dX12_keepRow_58 : decode cX12_keepRow 58 = .ok (.return_, 1) := by decide +kernel
theorem dX12_deedBy_0 : decode cX12_deedBy 0 = .ok (.lload_n 0, 1) := by decide +kernel
theorem dX12_deedBy_1 : decode cX12_deedBy 1 = .ok (.ldc2_w 209, 3) := by decide +kernel
theorem dX12_deedBy_4 : decode cX12_deedBy 4 = .ok (.lcmp, 1) := by decide +kernel
theorem dX12_deedBy_5 : decode cX12_deedBy 5 = .ok (.ifCond .ne 7, 3) := by decide +kernel
theorem dX12_deedBy_8 : decode cX12_deedBy 8 = .ok (.iconst 0, 1) := by decide +kernel
theorem dX12_deedBy_9 : decode cX12_deedBy 9 = .ok (.goto 77, 3) := by decide +kernel
theorem dX12_deedBy_12 : decode cX12_deedBy 12 = .ok (.lload_n 0, 1) := by decide +kernel
theorem dX12_deedBy_13 : decode cX12_deedBy 13 = .ok (.ldc2_w 211, 3) := by decide +kernel
theorem dX12_deedBy_16 : decode cX12_deedBy 16 = .ok (.lcmp, 1) := by decide +kernel
theorem dX12_deedBy_17 : decode cX12_deedBy 17 = .ok (.ifCond .ne 7, 3) := by decide +kernel
theorem dX12_deedBy_20 : decode cX12_deedBy 20 = .ok (.iconst 1, 1) := by decide +kernel
theorem dX12_deedBy_21 : decode cX12_deedBy 21 = .ok (.goto 65, 3) := by decide +kernel
theorem dX12_deedBy_24 : decode cX12_deedBy 24 = .ok (.lload_n 0, 1) := by decide +kernel
theorem dX12_deedBy_25 : decode cX12_deedBy 25 = .ok (.ldc2_w 213, 3) := by decide +kernel
theorem dX12_deedBy_28 : decode cX12_deedBy 28 = .ok (.lcmp, 1) := by decide +kernel
theorem dX12_deedBy_29 : decode cX12_deedBy 29 = .ok (.ifCond .ne 7, 3) := by decide +kernel
theorem dX12_deedBy_32 : decode cX12_deedBy 32 = .ok (.iconst 2, 1) := by decide +kernel
theorem dX12_deedBy_33 : decode cX12_deedBy 33 = .ok (.goto 53, 3) := by decide +kernel
theorem dX12_deedBy_36 : decode cX12_deedBy 36 = .ok (.lload_n 0, 1) := by decide +kernel
theorem dX12_deedBy_37 : decode cX12_deedBy 37 = .ok (.ldc2_w 215, 3) := by decide +kernel
theorem dX12_deedBy_40 : decode cX12_deedBy 40 = .ok (.lcmp, 1) := by decide +kernel
theorem dX12_deedBy_41 : decode cX12_deedBy 41 = .ok (.ifCond .ne 7, 3) := by decide +kernel
theorem dX12_deedBy_44 : decode cX12_deedBy 44 = .ok (.iconst 3, 1) := by decide +kernel
theorem dX12_deedBy_45 : decode cX12_deedBy 45 = .ok (.goto 41, 3) := by decide +kernel
theorem dX12_deedBy_48 : decode cX12_deedBy 48 = .ok (.lload_n 0, 1) := by decide +kernel
theorem dX12_deedBy_49 : decode cX12_deedBy 49 = .ok (.ldc2_w 217, 3) := by decide +kernel
theorem dX12_deedBy_52 : decode cX12_deedBy 52 = .ok (.lcmp, 1) := by decide +kernel
theorem dX12_deedBy_53 : decode cX12_deedBy 53 = .ok (.ifCond .ne 7, 3) := by decide +kernel
theorem dX12_deedBy_56 : decode cX12_deedBy 56 = .ok (.iconst 4, 1) := by decide +kernel
theorem dX12_deedBy_57 : decode cX12_deedBy 57 = .ok (.goto 29, 3) := by decide +kernel
theorem dX12_deedBy_60 : decode cX12_deedBy 60 = .ok (.lload_n 0, 1) := by decide +kernel
theorem dX12_deedBy_61 : decode cX12_deedBy 61 = .ok (.ldc2_w 219, 3) := by decide +kernel
theorem dX12_deedBy_64 : decode cX12_deedBy 64 = .ok (.lcmp, 1) := by decide +kernel
theorem dX12_deedBy_65 : decode cX12_deedBy 65 = .ok (.ifCond .ne 7, 3) := by decide +kernel
theorem dX12_deedBy_68 : decode cX12_deedBy 68 = .ok (.iconst 5, 1) := by decide +kernel
theorem dX12_deedBy_69 : decode cX12_deedBy 69 = .ok (.goto 17, 3) := by decide +kernel
theorem dX12_deedBy_72 : decode cX12_deedBy 72 = .ok (.lload_n 0, 1) := by decide +kernel
theorem dX12_deedBy_73 : decode cX12_deedBy 73 = .ok (.ldc2_w 221, 3) := by decide +kernel
theorem dX12_deedBy_76 : decode cX12_deedBy 76 = .ok (.lcmp, 1) := by decide +kernel
theorem dX12_deedBy_77 : decode cX12_deedBy 77 = .ok (.ifCond .ne 8, 3) := by decide +kernel
theorem dX12_deedBy_80 : decode cX12_deedBy 80 = .ok (.bipush 6, 2) := by decide +kernel
theorem dX12_deedBy_82 : decode cX12_deedBy 82 = .ok (.goto 4, 3) := by decide +kernel
theorem dX12_deedBy_85 : decode cX12_deedBy 85 = .ok (.iconst (-1), 1) := by decide +kernel
theorem dX12_deedBy_86 : decode cX12_deedBy 86 = .ok (.ireturn, 1) := by decide +kernel
theorem dX12_blank_0 : decode cX12_blank 0 = .ok (.iconst 0, 1) := by decide +kernel
theorem dX12_blank_1 : decode cX12_blank 1 = .ok (.istore_n 2, 1) := by decide +kernel
theorem dX12_blank_2 : decode cX12_blank 2 = .ok (.iload_n 2, 1) := by decide +kernel
theorem dX12_blank_3 : decode cX12_blank 3 = .ok (.sipush 161, 3) := by decide +kernel
theorem dX12_blank_6 : decode cX12_blank 6 = .ok (.if_icmp .ge 16, 3) := by decide +kernel
theorem dX12_blank_9 : decode cX12_blank 9 = .ok (.aload_n 0, 1) := by decide +kernel
theorem dX12_blank_10 : decode cX12_blank 10 = .ok (.getfield 38, 3) := by decide +kernel
theorem dX12_blank_13 : decode cX12_blank 13 = .ok (.iload_n 2, 1) := by decide +kernel
theorem dX12_blank_14 : decode cX12_blank 14 = .ok (.iconst 0, 1) := by decide +kernel
theorem dX12_blank_15 : decode cX12_blank 15 = .ok (.iastore, 1) := by decide +kernel
theorem dX12_blank_16 : decode cX12_blank 16 = .ok (.iinc 2 1, 3) := by decide +kernel
theorem dX12_blank_19 : decode cX12_blank 19 = .ok (.goto (-17), 3) := by decide +kernel
theorem dX12_blank_22 : decode cX12_blank 22 = .ok (.aload_n 0, 1) := by decide +kernel
theorem dX12_blank_23 : decode cX12_blank 23 = .ok (.getfield 38, 3) := by decide +kernel
theorem dX12_blank_26 : decode cX12_blank 26 = .ok (.iconst 0, 1) := by decide +kernel
theorem dX12_blank_27 : decode cX12_blank 27 = .ok (.iload_n 1, 1) := by decide +kernel
theorem dX12_blank_28 : decode cX12_blank 28 = .ok (.ifCond .ne 8, 3) := by decide +kernel
theorem dX12_blank_31 : decode cX12_blank 31 = .ok (.bipush 12, 2) := by decide +kernel
theorem dX12_blank_33 : decode cX12_blank 33 = .ok (.goto 13, 3) := by decide +kernel
theorem dX12_blank_36 : decode cX12_blank 36 = .ok (.iload_n 1, 1) := by decide +kernel
theorem dX12_blank_37 : decode cX12_blank 37 = .ok (.iconst 3, 1) := by decide +kernel
theorem dX12_blank_38 : decode cX12_blank 38 = .ok (.if_icmp .ne 7, 3) := by decide +kernel
theorem dX12_blank_41 : decode cX12_blank 41 = .ok (.iconst 3, 1) := by decide +kernel
theorem dX12_blank_42 : decode cX12_blank 42 = .ok (.goto 4, 3) := by decide +kernel
theorem dX12_blank_45 : decode cX12_blank 45 = .ok (.iconst 0, 1) := by decide +kernel
theorem dX12_blank_46 : decode cX12_blank 46 = .ok (.iastore, 1) := by decide +kernel
theorem dX12_blank_47 : decode cX12_blank 47 = .ok (.iload_n 1, 1) := by decide +kernel
theorem dX12_blank_48 : decode cX12_blank 48 = .ok (.ifCond .ne 67, 3) := by decide +kernel
theorem dX12_blank_51 : decode cX12_blank 51 = .ok (.aload_n 0, 1) := by decide +kernel
theorem dX12_blank_52 : decode cX12_blank 52 = .ok (.getfield 38, 3) := by decide +kernel
theorem dX12_blank_55 : decode cX12_blank 55 = .ok (.iconst 1, 1) := by decide +kernel
theorem dX12_blank_56 : decode cX12_blank 56 = .ok (.iconst 2, 1) := by decide +kernel
theorem dX12_blank_57 : decode cX12_blank 57 = .ok (.iastore, 1) := by decide +kernel
theorem dX12_blank_58 : decode cX12_blank 58 = .ok (.iconst 0, 1) := by decide +kernel
theorem dX12_blank_59 : decode cX12_blank 59 = .ok (.istore_n 2, 1) := by decide +kernel
theorem dX12_blank_60 : decode cX12_blank 60 = .ok (.iload_n 2, 1) := by decide +kernel
theorem dX12_blank_61 : decode cX12_blank 61 = .ok (.iconst 4, 1) := by decide +kernel
theorem dX12_blank_62 : decode cX12_blank 62 = .ok (.if_icmp .ge 19, 3) := by decide +kernel
theorem dX12_blank_65 : decode cX12_blank 65 = .ok (.aload_n 0, 1) := by decide +kernel
theorem dX12_blank_66 : decode cX12_blank 66 = .ok (.getfield 38, 3) := by decide +kernel
theorem dX12_blank_69 : decode cX12_blank 69 = .ok (.iconst 3, 1) := by decide +kernel
theorem dX12_blank_70 : decode cX12_blank 70 = .ok (.iload_n 2, 1) := by decide +kernel
theorem dX12_blank_71 : decode cX12_blank 71 = .ok (.iadd, 1) := by decide +kernel
theorem dX12_blank_72 : decode cX12_blank 72 = .ok (.bipush 20, 2) := by decide +kernel
theorem dX12_blank_74 : decode cX12_blank 74 = .ok (.iastore, 1) := by decide +kernel
theorem dX12_blank_75 : decode cX12_blank 75 = .ok (.iinc 2 1, 3) := by decide +kernel
theorem dX12_blank_78 : decode cX12_blank 78 = .ok (.goto (-18), 3) := by decide +kernel
theorem dX12_blank_81 : decode cX12_blank 81 = .ok (.iconst 0, 1) := by decide +kernel
theorem dX12_blank_82 : decode cX12_blank 82 = .ok (.istore_n 2, 1) := by decide +kernel
theorem dX12_blank_83 : decode cX12_blank 83 = .ok (.iload_n 2, 1) := by decide +kernel
theorem dX12_blank_84 : decode cX12_blank 84 = .ok (.bipush 40, 2) := by decide +kernel
theorem dX12_blank_86 : decode cX12_blank 86 = .ok (.if_icmp .ge 29, 3) := by decide +kernel
theorem dX12_blank_89 : decode cX12_blank 89 = .ok (.aload_n 0, 1) := by decide +kernel
theorem dX12_blank_90 : decode cX12_blank 90 = .ok (.getfield 38, 3) := by decide +kernel
theorem dX12_blank_93 : decode cX12_blank 93 = .ok (.bipush 31, 2) := by decide +kernel
theorem dX12_blank_95 : decode cX12_blank 95 = .ok (.iload_n 2, 1) := by decide +kernel
theorem dX12_blank_96 : decode cX12_blank 96 = .ok (.iadd, 1) := by decide +kernel
theorem dX12_blank_97 : decode cX12_blank 97 = .ok (.iconst 1, 1) := by decide +kernel
theorem dX12_blank_98 : decode cX12_blank 98 = .ok (.iastore, 1) := by decide +kernel
theorem dX12_blank_99 : decode cX12_blank 99 = .ok (.aload_n 0, 1) := by decide +kernel
theorem dX12_blank_100 : decode cX12_blank 100 = .ok (.getfield 38, 3) := by decide +kernel
theorem dX12_blank_103 : decode cX12_blank 103 = .ok (.bipush 71, 2) := by decide +kernel
theorem dX12_blank_105 : decode cX12_blank 105 = .ok (.iload_n 2, 1) := by decide +kernel
theorem dX12_blank_106 : decode cX12_blank 106 = .ok (.iadd, 1) := by decide +kernel
theorem dX12_blank_107 : decode cX12_blank 107 = .ok (.iconst (-1), 1) := by decide +kernel
theorem dX12_blank_108 : decode cX12_blank 108 = .ok (.iastore, 1) := by decide +kernel
theorem dX12_blank_109 : decode cX12_blank 109 = .ok (.iinc 2 1, 3) := by decide +kernel
theorem dX12_blank_112 : decode cX12_blank 112 = .ok (.goto (-29), 3) := by decide +kernel
theorem dX12_blank_115 : decode cX12_blank 115 = .ok (.return_, 1) := by decide +kernel
theorem dX12_store_0 : decode cX12_store 0 = .ok (.iconst 0, 1) := by decide +kernel
theorem dX12_store_1 : decode cX12_store 1 = .ok (.istore 4, 2) := by decide +kernel
theorem dX12_store_3 : decode cX12_store 3 = .ok (.iload 4, 2) := by decide +kernel
theorem dX12_store_5 : decode cX12_store 5 = .ok (.iload_n 2, 1) := by decide +kernel
theorem dX12_store_6 : decode cX12_store 6 = .ok (.if_icmp .ge 24, 3) := by decide +kernel
theorem dX12_store_9 : decode cX12_store 9 = .ok (.aload_n 1, 1) := by decide +kernel
theorem dX12_store_10 : decode cX12_store 10 = .ok (.iload_n 2, 1) := by decide +kernel
theorem dX12_store_11 : decode cX12_store 11 = .ok (.iload_n 3, 1) := by decide +kernel
theorem dX12_store_12 : decode cX12_store 12 = .ok (.imul, 1) := by decide +kernel
theorem dX12_store_13 : decode cX12_store 13 = .ok (.iload 4, 2) := by decide +kernel
theorem dX12_store_15 : decode cX12_store 15 = .ok (.iadd, 1) := by decide +kernel
theorem dX12_store_16 : decode cX12_store 16 = .ok (.aload_n 0, 1) := by decide +kernel
theorem dX12_store_17 : decode cX12_store 17 = .ok (.getfield 38, 3) := by decide +kernel
theorem dX12_store_20 : decode cX12_store 20 = .ok (.iload 4, 2) := by decide +kernel
theorem dX12_store_22 : decode cX12_store 22 = .ok (.iaload, 1) := by decide +kernel
theorem dX12_store_23 : decode cX12_store 23 = .ok (.iastore, 1) := by decide +kernel
theorem dX12_store_24 : decode cX12_store 24 = .ok (.iinc 4 1, 3) := by decide +kernel
theorem dX12_store_27 : decode cX12_store 27 = .ok (.goto (-24), 3) := by decide +kernel
theorem dX12_store_30 : decode cX12_store 30 = .ok (.return_, 1) := by decide +kernel
theorem dX12_fault_0 : decode cX12_fault 0 = .ok (.aload_n 0, 1) := by decide +kernel
theorem dX12_fault_1 : decode cX12_fault 1 = .ok (.iconst 0, 1) := by decide +kernel
theorem dX12_fault_2 : decode cX12_fault 2 = .ok (.putfield 100, 3) := by decide +kernel
theorem dX12_fault_5 : decode cX12_fault 5 = .ok (.iload_n 1, 1) := by decide +kernel
theorem dX12_fault_6 : decode cX12_fault 6 = .ok (.ifCond .ne 12, 3) := by decide +kernel
theorem dX12_fault_9 : decode cX12_fault 9 = .ok (.aload_n 0, 1) := by decide +kernel
theorem dX12_fault_10 : decode cX12_fault 10 = .ok (.getfield 17, 3) := by decide +kernel
theorem dX12_fault_13 : decode cX12_fault 13 = .ok (.iconst 0, 1) := by decide +kernel
theorem dX12_fault_14 : decode cX12_fault 14 = .ok (.iaload, 1) := by decide +kernel
theorem dX12_fault_15 : decode cX12_fault 15 = .ok (.goto 18, 3) := by decide +kernel
theorem dX12_fault_18 : decode cX12_fault 18 = .ok (.iload_n 1, 1) := by decide +kernel
theorem dX12_fault_19 : decode cX12_fault 19 = .ok (.iconst 1, 1) := by decide +kernel
theorem dX12_fault_20 : decode cX12_fault 20 = .ok (.if_icmp .ne 12, 3) := by decide +kernel
theorem dX12_fault_23 : decode cX12_fault 23 = .ok (.aload_n 0, 1) := by decide +kernel
theorem dX12_fault_24 : decode cX12_fault 24 = .ok (.getfield 20, 3) := by decide +kernel
theorem dX12_fault_27 : decode cX12_fault 27 = .ok (.iconst 0, 1) := by decide +kernel
theorem dX12_fault_28 : decode cX12_fault 28 = .ok (.iaload, 1) := by decide +kernel
theorem dX12_fault_29 : decode cX12_fault 29 = .ok (.goto 4, 3) := by decide +kernel
theorem dX12_fault_32 : decode cX12_fault 32 = .ok (.iconst (-1), 1) := by decide +kernel
theorem dX12_fault_33 : decode cX12_fault 33 = .ok (.ireturn, 1) := by decide +kernel
theorem dX12_of_0 : decode cX12_of 0 = .ok (.aload_n 0, 1) := by decide +kernel
theorem dX12_of_1 : decode cX12_of 1 = .ok (.getfield 26, 3) := by decide +kernel
theorem dX12_of_4 : decode cX12_of 4 = .ok (.bipush 111, 2) := by decide +kernel
theorem dX12_of_6 : decode cX12_of 6 = .ok (.aload_n 0, 1) := by decide +kernel
theorem dX12_of_7 : decode cX12_of 7 = .ok (.getfield 276, 3) := by decide +kernel
theorem dX12_of_10 : decode cX12_of 10 = .ok (.imul, 1) := by decide +kernel
theorem dX12_of_11 : decode cX12_of 11 = .ok (.iload_n 1, 1) := by decide +kernel
theorem dX12_of_12 : decode cX12_of 12 = .ok (.iadd, 1) := by decide +kernel
theorem dX12_of_13 : decode cX12_of 13 = .ok (.iaload, 1) := by decide +kernel
theorem dX12_of_14 : decode cX12_of 14 = .ok (.ireturn, 1) := by decide +kernel
theorem dX12_deeds_0 : decode cX12_deeds 0 = .ok (.aload_n 0, 1) := by decide +kernel
theorem dX12_deeds_1 : decode cX12_deeds 1 = .ok (.getfield 29, 3) := by decide +kernel
theorem dX12_deeds_4 : decode cX12_deeds 4 = .ok (.sipush 161, 3) := by decide +kernel
theorem dX12_deeds_7 : decode cX12_deeds 7 = .ok (.aload_n 0, 1) := by decide +kernel
theorem dX12_deeds_8 : decode cX12_deeds 8 = .ok (.getfield 301, 3) := by decide +kernel
theorem dX12_deeds_11 : decode cX12_deeds 11 = .ok (.imul, 1) := by decide +kernel
theorem dX12_deeds_12 : decode cX12_deeds 12 = .ok (.iaload, 1) := by decide +kernel
theorem dX12_deeds_13 : decode cX12_deeds 13 = .ok (.ireturn, 1) := by decide +kernel
theorem dX12_deedOf_0 : decode cX12_deedOf 0 = .ok (.aload_n 0, 1) := by decide +kernel
theorem dX12_deedOf_1 : decode cX12_deedOf 1 = .ok (.getfield 29, 3) := by decide +kernel
theorem dX12_deedOf_4 : decode cX12_deedOf 4 = .ok (.sipush 161, 3) := by decide +kernel
theorem dX12_deedOf_7 : decode cX12_deedOf 7 = .ok (.aload_n 0, 1) := by decide +kernel
theorem dX12_deedOf_8 : decode cX12_deedOf 8 = .ok (.getfield 301, 3) := by decide +kernel
theorem dX12_deedOf_11 : decode cX12_deedOf 11 = .ok (.imul, 1) := by decide +kernel
theorem dX12_deedOf_12 : decode cX12_deedOf 12 = .ok (.iconst 1, 1) := by decide +kernel
theorem dX12_deedOf_13 : decode cX12_deedOf 13 = .ok (.iadd, 1) := by decide +kernel
theorem dX12_deedOf_14 : decode cX12_deedOf 14 = .ok (.iconst 4, 1) := by decide +kernel
theorem dX12_deedOf_15 : decode cX12_deedOf 15 = .ok (.iload_n 1, 1) := by decide +kernel
theorem dX12_deedOf_16 : decode cX12_deedOf 16 = .ok (.imul, 1) := by decide +kernel
theorem dX12_deedOf_17 : decode cX12_deedOf 17 = .ok (.iadd, 1) := by decide +kernel
theorem dX12_deedOf_18 : decode cX12_deedOf 18 = .ok (.iload_n 2, 1) := by decide +kernel
theorem dX12_deedOf_19 : decode cX12_deedOf 19 = .ok (.iadd, 1) := by decide +kernel
theorem dX12_deedOf_20 : decode cX12_deedOf 20 = .ok (.iaload, 1) := by decide +kernel
theorem dX12_deedOf_21 : decode cX12_deedOf 21 = .ok (.ireturn, 1) := by decide +kernel
theorem dX12_opens_0 : decode cX12_opens 0 = .ok (.aload_n 0, 1) := by decide +kernel
theorem dX12_opens_1 : decode cX12_opens 1 = .ok (.iconst (-1), 1) := by decide +kernel
theorem dX12_opens_2 : decode cX12_opens 2 = .ok (.putfield 313, 3) := by decide +kernel
theorem dX12_opens_5 : decode cX12_opens 5 = .ok (.iconst 0, 1) := by decide +kernel
theorem dX12_opens_6 : decode cX12_opens 6 = .ok (.istore_n 1, 1) := by decide +kernel
theorem dX12_opens_7 : decode cX12_opens 7 = .ok (.iload_n 1, 1) := by decide +kernel
theorem dX12_opens_8 : decode cX12_opens 8 = .ok (.iconst 4, 1) := by decide +kernel
theorem dX12_opens_9 : decode cX12_opens 9 = .ok (.if_icmp .ge 16, 3) := by decide +kernel
theorem dX12_opens_12 : decode cX12_opens 12 = .ok (.aload_n 0, 1) := by decide +kernel
theorem dX12_opens_13 : decode cX12_opens 13 = .ok (.getfield 60, 3) := by decide +kernel
theorem dX12_opens_16 : decode cX12_opens 16 = .ok (.iload_n 1, 1) := by decide +kernel
theorem dX12_opens_17 : decode cX12_opens 17 = .ok (.iconst 0, 1) := by decide +kernel
theorem dX12_opens_18 : decode cX12_opens 18 = .ok (.iastore, 1) := by decide +kernel
theorem dX12_opens_19 : decode cX12_opens 19 = .ok (.iinc 1 1, 3) := by decide +kernel
theorem dX12_opens_22 : decode cX12_opens 22 = .ok (.goto (-15), 3) := by decide +kernel
theorem dX12_opens_25 : decode cX12_opens 25 = .ok (.iconst 0, 1) := by decide +kernel
theorem dX12_opens_26 : decode cX12_opens 26 = .ok (.istore_n 1, 1) := by decide +kernel
theorem dX12_opens_27 : decode cX12_opens 27 = .ok (.iload_n 1, 1) := by decide +kernel
theorem dX12_opens_28 : decode cX12_opens 28 = .ok (.bipush 40, 2) := by decide +kernel
theorem dX12_opens_30 : decode cX12_opens 30 = .ok (.if_icmp .ge 16, 3) := by decide +kernel
theorem dX12_opens_33 : decode cX12_opens 33 = .ok (.aload_n 0, 1) := by decide +kernel
theorem dX12_opens_34 : decode cX12_opens 34 = .ok (.getfield 63, 3) := by decide +kernel
theorem dX12_opens_37 : decode cX12_opens 37 = .ok (.iload_n 1, 1) := by decide +kernel
theorem dX12_opens_38 : decode cX12_opens 38 = .ok (.iconst 0, 1) := by decide +kernel
theorem dX12_opens_39 : decode cX12_opens 39 = .ok (.iastore, 1) := by decide +kernel
theorem dX12_opens_40 : decode cX12_opens 40 = .ok (.iinc 1 1, 3) := by decide +kernel
theorem dX12_opens_43 : decode cX12_opens 43 = .ok (.goto (-16), 3) := by decide +kernel
theorem dX12_opens_46 : decode cX12_opens 46 = .ok (.return_, 1) := by decide +kernel
theorem dX12_buys_0 : decode cX12_buys 0 = .ok (.aload_n 0, 1) := by decide +kernel
theorem dX12_buys_1 : decode cX12_buys 1 = .ok (.getfield 50, 3) := by decide +kernel
theorem dX12_buys_4 : decode cX12_buys 4 = .ok (.iload_n 2, 1) := by decide +kernel
theorem dX12_buys_5 : decode cX12_buys 5 = .ok (.iaload, 1) := by decide +kernel
theorem dX12_buys_6 : decode cX12_buys 6 = .ok (.iload_n 1, 1) := by decide +kernel
theorem dX12_buys_7 : decode cX12_buys 7 = .ok (.if_icmp .eq 18, 3) := by decide +kernel
theorem dX12_buys_10 : decode cX12_buys 10 = .ok (.aload_n 0, 1) := by decide +kernel
theorem dX12_buys_11 : decode cX12_buys 11 = .ok (.getfield 44, 3) := by decide +kernel
theorem dX12_buys_14 : decode cX12_buys 14 = .ok (.iload_n 1, 1) := by decide +kernel
theorem dX12_buys_15 : decode cX12_buys 15 = .ok (.iaload, 1) := by decide +kernel
theorem dX12_buys_16 : decode cX12_buys 16 = .ok (.aload_n 0, 1) := by decide +kernel
theorem dX12_buys_17 : decode cX12_buys 17 = .ok (.getfield 47, 3) := by decide +kernel
theorem dX12_buys_20 : decode cX12_buys 20 = .ok (.iload_n 2, 1) := by decide +kernel
theorem dX12_buys_21 : decode cX12_buys 21 = .ok (.iaload, 1) := by decide +kernel
theorem dX12_buys_22 : decode cX12_buys 22 = .ok (.if_icmp .ge 5, 3) := by decide +kernel
theorem dX12_buys_25 : decode cX12_buys 25 = .ok (.iconst 0, 1) := by decide +kernel
theorem dX12_buys_26 : decode cX12_buys 26 = .ok (.ireturn, 1) := by decide +kernel
theorem dX12_buys_27 : decode cX12_buys 27 = .ok (.aload_n 0, 1) := by decide +kernel
theorem dX12_buys_28 : decode cX12_buys 28 = .ok (.getfield 44, 3) := by decide +kernel
theorem dX12_buys_31 : decode cX12_buys 31 = .ok (.iload_n 1, 1) := by decide +kernel
theorem dX12_buys_32 : decode cX12_buys 32 = .ok (.dup2, 1) := by decide +kernel
theorem dX12_buys_33 : decode cX12_buys 33 = .ok (.iaload, 1) := by decide +kernel
theorem dX12_buys_34 : decode cX12_buys 34 = .ok (.aload_n 0, 1) := by decide +kernel
theorem dX12_buys_35 : decode cX12_buys 35 = .ok (.getfield 47, 3) := by decide +kernel
theorem dX12_buys_38 : decode cX12_buys 38 = .ok (.iload_n 2, 1) := by decide +kernel
theorem dX12_buys_39 : decode cX12_buys 39 = .ok (.iaload, 1) := by decide +kernel
theorem dX12_buys_40 : decode cX12_buys 40 = .ok (.isub, 1) := by decide +kernel
theorem dX12_buys_41 : decode cX12_buys 41 = .ok (.iastore, 1) := by decide +kernel
theorem dX12_buys_42 : decode cX12_buys 42 = .ok (.aload_n 0, 1) := by decide +kernel
theorem dX12_buys_43 : decode cX12_buys 43 = .ok (.getfield 50, 3) := by decide +kernel
theorem dX12_buys_46 : decode cX12_buys 46 = .ok (.iload_n 2, 1) := by decide +kernel
theorem dX12_buys_47 : decode cX12_buys 47 = .ok (.iaload, 1) := by decide +kernel
theorem dX12_buys_48 : decode cX12_buys 48 = .ok (.iconst (-1), 1) := by decide +kernel
theorem dX12_buys_49 : decode cX12_buys 49 = .ok (.if_icmp .eq 23, 3) := by decide +kernel
theorem dX12_buys_52 : decode cX12_buys 52 = .ok (.aload_n 0, 1) := by decide +kernel
theorem dX12_buys_53 : decode cX12_buys 53 = .ok (.getfield 44, 3) := by decide +kernel
theorem dX12_buys_56 : decode cX12_buys 56 = .ok (.aload_n 0, 1) := by decide +kernel
theorem dX12_buys_57 : decode cX12_buys 57 = .ok (.getfield 50, 3) := by decide +kernel
theorem dX12_buys_60 : decode cX12_buys 60 = .ok (.iload_n 2, 1) := by decide +kernel
theorem dX12_buys_61 : decode cX12_buys 61 = .ok (.iaload, 1) := by decide +kernel
theorem dX12_buys_62 : decode cX12_buys 62 = .ok (.dup2, 1) := by decide +kernel
theorem dX12_buys_63 : decode cX12_buys 63 = .ok (.iaload, 1) := by decide +kernel
theorem dX12_buys_64 : decode cX12_buys 64 = .ok (.aload_n 0, 1) := by decide +kernel
theorem dX12_buys_65 : decode cX12_buys 65 = .ok (.getfield 47, 3) := by decide +kernel
theorem dX12_buys_68 : decode cX12_buys 68 = .ok (.iload_n 2, 1) := by decide +kernel
theorem dX12_buys_69 : decode cX12_buys 69 = .ok (.iaload, 1) := by decide +kernel
theorem dX12_buys_70 : decode cX12_buys 70 = .ok (.iadd, 1) := by decide +kernel
theorem dX12_buys_71 : decode cX12_buys 71 = .ok (.iastore, 1) := by decide +kernel
theorem dX12_buys_72 : decode cX12_buys 72 = .ok (.aload_n 0, 1) := by decide +kernel
theorem dX12_buys_73 : decode cX12_buys 73 = .ok (.getfield 50, 3) := by decide +kernel
theorem dX12_buys_76 : decode cX12_buys 76 = .ok (.iload_n 2, 1) := by decide +kernel
theorem dX12_buys_77 : decode cX12_buys 77 = .ok (.iload_n 1, 1) := by decide +kernel
theorem dX12_buys_78 : decode cX12_buys 78 = .ok (.iastore, 1) := by decide +kernel
theorem dX12_buys_79 : decode cX12_buys 79 = .ok (.aload_n 0, 1) := by decide +kernel
theorem dX12_buys_80 : decode cX12_buys 80 = .ok (.getfield 63, 3) := by decide +kernel
theorem dX12_buys_83 : decode cX12_buys 83 = .ok (.iload_n 2, 1) := by decide +kernel
theorem dX12_buys_84 : decode cX12_buys 84 = .ok (.dup2, 1) := by decide +kernel
theorem dX12_buys_85 : decode cX12_buys 85 = .ok (.iaload, 1) := by decide +kernel
theorem dX12_buys_86 : decode cX12_buys 86 = .ok (.iconst 1, 1) := by decide +kernel
theorem dX12_buys_87 : decode cX12_buys 87 = .ok (.iadd, 1) := by decide +kernel
theorem dX12_buys_88 : decode cX12_buys 88 = .ok (.iastore, 1) := by decide +kernel
theorem dX12_buys_89 : decode cX12_buys 89 = .ok (.iconst 1, 1) := by decide +kernel
theorem dX12_buys_90 : decode cX12_buys 90 = .ok (.ireturn, 1) := by decide +kernel
theorem dX12_steals_0 : decode cX12_steals 0 = .ok (.aload_n 0, 1) := by decide +kernel
theorem dX12_steals_1 : decode cX12_steals 1 = .ok (.getfield 50, 3) := by decide +kernel
theorem dX12_steals_4 : decode cX12_steals 4 = .ok (.iload_n 2, 1) := by decide +kernel
theorem dX12_steals_5 : decode cX12_steals 5 = .ok (.iaload, 1) := by decide +kernel
theorem dX12_steals_6 : decode cX12_steals 6 = .ok (.iconst (-1), 1) := by decide +kernel
theorem dX12_steals_7 : decode cX12_steals 7 = .ok (.if_icmp .eq 13, 3) := by decide +kernel
theorem dX12_steals_10 : decode cX12_steals 10 = .ok (.aload_n 0, 1) := by decide +kernel
theorem dX12_steals_11 : decode cX12_steals 11 = .ok (.getfield 50, 3) := by decide +kernel
theorem dX12_steals_14 : decode cX12_steals 14 = .ok (.iload_n 2, 1) := by decide +kernel
theorem dX12_steals_15 : decode cX12_steals 15 = .ok (.iaload, 1) := by decide +kernel
theorem dX12_steals_16 : decode cX12_steals 16 = .ok (.iload_n 1, 1) := by decide +kernel
theorem dX12_steals_17 : decode cX12_steals 17 = .ok (.if_icmp .ne 5, 3) := by decide +kernel
theorem dX12_steals_20 : decode cX12_steals 20 = .ok (.iconst 0, 1) := by decide +kernel
theorem dX12_steals_21 : decode cX12_steals 21 = .ok (.ireturn, 1) := by decide +kernel
theorem dX12_steals_22 : decode cX12_steals 22 = .ok (.aload_n 0, 1) := by decide +kernel
theorem dX12_steals_23 : decode cX12_steals 23 = .ok (.getfield 60, 3) := by decide +kernel
theorem dX12_steals_26 : decode cX12_steals 26 = .ok (.aload_n 0, 1) := by decide +kernel
theorem dX12_steals_27 : decode cX12_steals 27 = .ok (.getfield 50, 3) := by decide +kernel
theorem dX12_steals_30 : decode cX12_steals 30 = .ok (.iload_n 2, 1) := by decide +kernel
theorem dX12_steals_31 : decode cX12_steals 31 = .ok (.iaload, 1) := by decide +kernel
theorem dX12_steals_32 : decode cX12_steals 32 = .ok (.dup2, 1) := by decide +kernel
theorem dX12_steals_33 : decode cX12_steals 33 = .ok (.iaload, 1) := by decide +kernel
theorem dX12_steals_34 : decode cX12_steals 34 = .ok (.iconst 1, 1) := by decide +kernel
theorem dX12_steals_35 : decode cX12_steals 35 = .ok (.iadd, 1) := by decide +kernel
theorem dX12_steals_36 : decode cX12_steals 36 = .ok (.iastore, 1) := by decide +kernel
theorem dX12_steals_37 : decode cX12_steals 37 = .ok (.aload_n 0, 1) := by decide +kernel
theorem dX12_steals_38 : decode cX12_steals 38 = .ok (.getfield 50, 3) := by decide +kernel
theorem dX12_steals_41 : decode cX12_steals 41 = .ok (.iload_n 2, 1) := by decide +kernel
theorem dX12_steals_42 : decode cX12_steals 42 = .ok (.iload_n 1, 1) := by decide +kernel
theorem dX12_steals_43 : decode cX12_steals 43 = .ok (.iastore, 1) := by decide +kernel
theorem dX12_steals_44 : decode cX12_steals 44 = .ok (.aload_n 0, 1) := by decide +kernel
theorem dX12_steals_45 : decode cX12_steals 45 = .ok (.getfield 63, 3) := by decide +kernel
theorem dX12_steals_48 : decode cX12_steals 48 = .ok (.iload_n 2, 1) := by decide +kernel
theorem dX12_steals_49 : decode cX12_steals 49 = .ok (.dup2, 1) := by decide +kernel
theorem dX12_steals_50 : decode cX12_steals 50 = .ok (.iaload, 1) := by decide +kernel
theorem dX12_steals_51 : decode cX12_steals 51 = .ok (.iconst 1, 1) := by decide +kernel
theorem dX12_steals_52 : decode cX12_steals 52 = .ok (.iadd, 1) := by decide +kernel
theorem dX12_steals_53 : decode cX12_steals 53 = .ok (.iastore, 1) := by decide +kernel
theorem dX12_steals_54 : decode cX12_steals 54 = .ok (.iconst 1, 1) := by decide +kernel
theorem dX12_steals_55 : decode cX12_steals 55 = .ok (.ireturn, 1) := by decide +kernel
theorem dX12_sells_0 : decode cX12_sells 0 = .ok (.aload_n 0, 1) := by decide +kernel
theorem dX12_sells_1 : decode cX12_sells 1 = .ok (.getfield 50, 3) := by decide +kernel
theorem dX12_sells_4 : decode cX12_sells 4 = .ok (.iload_n 2, 1) := by decide +kernel
theorem dX12_sells_5 : decode cX12_sells 5 = .ok (.iaload, 1) := by decide +kernel
theorem dX12_sells_6 : decode cX12_sells 6 = .ok (.iload_n 1, 1) := by decide +kernel
theorem dX12_sells_7 : decode cX12_sells 7 = .ok (.if_icmp .eq 5, 3) := by decide +kernel
theorem dX12_sells_10 : decode cX12_sells 10 = .ok (.iconst 0, 1) := by decide +kernel
theorem dX12_sells_11 : decode cX12_sells 11 = .ok (.ireturn, 1) := by decide +kernel
theorem dX12_sells_12 : decode cX12_sells 12 = .ok (.aload_n 0, 1) := by decide +kernel
theorem dX12_sells_13 : decode cX12_sells 13 = .ok (.getfield 50, 3) := by decide +kernel
theorem dX12_sells_16 : decode cX12_sells 16 = .ok (.iload_n 2, 1) := by decide +kernel
theorem dX12_sells_17 : decode cX12_sells 17 = .ok (.iconst (-1), 1) := by decide +kernel
theorem dX12_sells_18 : decode cX12_sells 18 = .ok (.iastore, 1) := by decide +kernel
theorem dX12_sells_19 : decode cX12_sells 19 = .ok (.aload_n 0, 1) := by decide +kernel
theorem dX12_sells_20 : decode cX12_sells 20 = .ok (.getfield 44, 3) := by decide +kernel
theorem dX12_sells_23 : decode cX12_sells 23 = .ok (.iload_n 1, 1) := by decide +kernel
theorem dX12_sells_24 : decode cX12_sells 24 = .ok (.dup2, 1) := by decide +kernel
theorem dX12_sells_25 : decode cX12_sells 25 = .ok (.iaload, 1) := by decide +kernel
theorem dX12_sells_26 : decode cX12_sells 26 = .ok (.aload_n 0, 1) := by decide +kernel
theorem dX12_sells_27 : decode cX12_sells 27 = .ok (.getfield 47, 3) := by decide +kernel
theorem dX12_sells_30 : decode cX12_sells 30 = .ok (.iload_n 2, 1) := by decide +kernel
theorem dX12_sells_31 : decode cX12_sells 31 = .ok (.iaload, 1) := by decide +kernel
theorem dX12_sells_32 : decode cX12_sells 32 = .ok (.iadd, 1) := by decide +kernel
theorem dX12_sells_33 : decode cX12_sells 33 = .ok (.iastore, 1) := by decide +kernel
theorem dX12_sells_34 : decode cX12_sells 34 = .ok (.aload_n 0, 1) := by decide +kernel
theorem dX12_sells_35 : decode cX12_sells 35 = .ok (.getfield 63, 3) := by decide +kernel
theorem dX12_sells_38 : decode cX12_sells 38 = .ok (.iload_n 2, 1) := by decide +kernel
theorem dX12_sells_39 : decode cX12_sells 39 = .ok (.dup2, 1) := by decide +kernel
theorem dX12_sells_40 : decode cX12_sells 40 = .ok (.iaload, 1) := by decide +kernel
theorem dX12_sells_41 : decode cX12_sells 41 = .ok (.iconst 1, 1) := by decide +kernel
theorem dX12_sells_42 : decode cX12_sells 42 = .ok (.iadd, 1) := by decide +kernel
theorem dX12_sells_43 : decode cX12_sells 43 = .ok (.iastore, 1) := by decide +kernel
theorem dX12_sells_44 : decode cX12_sells 44 = .ok (.iconst 1, 1) := by decide +kernel
theorem dX12_sells_45 : decode cX12_sells 45 = .ok (.ireturn, 1) := by decide +kernel
theorem dX12_thinks_0 : decode cX12_thinks 0 = .ok (.aload_n 0, 1) := by decide +kernel
theorem dX12_thinks_1 : decode cX12_thinks 1 = .ok (.getfield 50, 3) := by decide +kernel
theorem dX12_thinks_4 : decode cX12_thinks 4 = .ok (.iload_n 2, 1) := by decide +kernel
theorem dX12_thinks_5 : decode cX12_thinks 5 = .ok (.iaload, 1) := by decide +kernel
theorem dX12_thinks_6 : decode cX12_thinks 6 = .ok (.iload_n 1, 1) := by decide +kernel
theorem dX12_thinks_7 : decode cX12_thinks 7 = .ok (.if_icmp .eq 5, 3) := by decide +kernel
theorem dX12_thinks_10 : decode cX12_thinks 10 = .ok (.iconst 0, 1) := by decide +kernel
theorem dX12_thinks_11 : decode cX12_thinks 11 = .ok (.ireturn, 1) := by decide +kernel
theorem dX12_thinks_12 : decode cX12_thinks 12 = .ok (.aload_n 0, 1) := by decide +kernel
theorem dX12_thinks_13 : decode cX12_thinks 13 = .ok (.getfield 53, 3) := by decide +kernel
theorem dX12_thinks_16 : decode cX12_thinks 16 = .ok (.iload_n 2, 1) := by decide +kernel
theorem dX12_thinks_17 : decode cX12_thinks 17 = .ok (.iconst 1, 1) := by decide +kernel
theorem dX12_thinks_18 : decode cX12_thinks 18 = .ok (.bastore, 1) := by decide +kernel
theorem dX12_thinks_19 : decode cX12_thinks 19 = .ok (.aload_n 0, 1) := by decide +kernel
theorem dX12_thinks_20 : decode cX12_thinks 20 = .ok (.aload_n 0, 1) := by decide +kernel
theorem dX12_thinks_21 : decode cX12_thinks 21 = .ok (.getfield 313, 3) := by decide +kernel
theorem dX12_thinks_24 : decode cX12_thinks 24 = .ok (.iconst (-1), 1) := by decide +kernel
theorem dX12_thinks_25 : decode cX12_thinks 25 = .ok (.if_icmp .ne 7, 3) := by decide +kernel
theorem dX12_thinks_28 : decode cX12_thinks 28 = .ok (.iload_n 1, 1) := by decide +kernel
theorem dX12_thinks_29 : decode cX12_thinks 29 = .ok (.goto 7, 3) := by decide +kernel
theorem dX12_thinks_32 : decode cX12_thinks 32 = .ok (.aload_n 0, 1) := by decide +kernel
theorem dX12_thinks_33 : decode cX12_thinks 33 = .ok (.getfield 313, 3) := by decide +kernel
theorem dX12_thinks_36 : decode cX12_thinks 36 = .ok (.putfield 313, 3) := by decide +kernel
theorem dX12_thinks_39 : decode cX12_thinks 39 = .ok (.iconst 1, 1) := by decide +kernel
theorem dX12_thinks_40 : decode cX12_thinks 40 = .ok (.ireturn, 1) := by decide +kernel
theorem dX12_minutesOf_0 : decode cX12_minutesOf 0 = .ok (.iconst 0, 1) := by decide +kernel
theorem dX12_minutesOf_1 : decode cX12_minutesOf 1 = .ok (.istore_n 2, 1) := by decide +kernel
theorem dX12_minutesOf_2 : decode cX12_minutesOf 2 = .ok (.iconst 0, 1) := by decide +kernel
theorem dX12_minutesOf_3 : decode cX12_minutesOf 3 = .ok (.istore_n 3, 1) := by decide +kernel
theorem dX12_minutesOf_4 : decode cX12_minutesOf 4 = .ok (.iload_n 3, 1) := by decide +kernel
theorem dX12_minutesOf_5 : decode cX12_minutesOf 5 = .ok (.aload_n 0, 1) := by decide +kernel
theorem dX12_minutesOf_6 : decode cX12_minutesOf 6 = .ok (.getfield 283, 3) := by decide +kernel
theorem dX12_minutesOf_9 : decode cX12_minutesOf 9 = .ok (.if_icmp .ge 27, 3) := by decide +kernel
theorem dX12_minutesOf_12 : decode cX12_minutesOf 12 = .ok (.iload_n 2, 1) := by decide +kernel
theorem dX12_minutesOf_13 : decode cX12_minutesOf 13 = .ok (.aload_n 0, 1) := by decide +kernel
theorem dX12_minutesOf_14 : decode cX12_minutesOf 14 = .ok (.getfield 50, 3) := by decide +kernel
theorem dX12_minutesOf_17 : decode cX12_minutesOf 17 = .ok (.iload_n 3, 1) := by decide +kernel
theorem dX12_minutesOf_18 : decode cX12_minutesOf 18 = .ok (.iaload, 1) := by decide +kernel
theorem dX12_minutesOf_19 : decode cX12_minutesOf 19 = .ok (.iload_n 1, 1) := by decide +kernel
theorem dX12_minutesOf_20 : decode cX12_minutesOf 20 = .ok (.if_icmp .ne 7, 3) := by decide +kernel
theorem dX12_minutesOf_23 : decode cX12_minutesOf 23 = .ok (.iconst 1, 1) := by decide +kernel
theorem dX12_minutesOf_24 : decode cX12_minutesOf 24 = .ok (.goto 4, 3) := by decide +kernel
theorem dX12_minutesOf_27 : decode cX12_minutesOf 27 = .ok (.iconst 0, 1) := by decide +kernel
theorem dX12_minutesOf_28 : decode cX12_minutesOf 28 = .ok (.iadd, 1) := by decide +kernel
theorem dX12_minutesOf_29 : decode cX12_minutesOf 29 = .ok (.istore_n 2, 1) := by decide +kernel
theorem dX12_minutesOf_30 : decode cX12_minutesOf 30 = .ok (.iinc 3 1, 3) := by decide +kernel
theorem dX12_minutesOf_33 : decode cX12_minutesOf 33 = .ok (.goto (-29), 3) := by decide +kernel
theorem dX12_minutesOf_36 : decode cX12_minutesOf 36 = .ok (.iload_n 2, 1) := by decide +kernel
theorem dX12_minutesOf_37 : decode cX12_minutesOf 37 = .ok (.ireturn, 1) := by decide +kernel
theorem dX12_ofAll_0 : decode cX12_ofAll 0 = .ok (.iconst 0, 1) := by decide +kernel
theorem dX12_ofAll_1 : decode cX12_ofAll 1 = .ok (.istore_n 2, 1) := by decide +kernel
theorem dX12_ofAll_2 : decode cX12_ofAll 2 = .ok (.iconst 0, 1) := by decide +kernel
theorem dX12_ofAll_3 : decode cX12_ofAll 3 = .ok (.istore_n 3, 1) := by decide +kernel
theorem dX12_ofAll_4 : decode cX12_ofAll 4 = .ok (.iload_n 3, 1) := by decide +kernel
theorem dX12_ofAll_5 : decode cX12_ofAll 5 = .ok (.aload_n 0, 1) := by decide +kernel
theorem dX12_ofAll_6 : decode cX12_ofAll 6 = .ok (.getfield 283, 3) := by decide +kernel
theorem dX12_ofAll_9 : decode cX12_ofAll 9 = .ok (.if_icmp .ge 30, 3) := by decide +kernel
theorem dX12_ofAll_12 : decode cX12_ofAll 12 = .ok (.iload_n 1, 1) := by decide +kernel
theorem dX12_ofAll_13 : decode cX12_ofAll 13 = .ok (.ifCond .ne 26, 3) := by decide +kernel
theorem dX12_ofAll_16 : decode cX12_ofAll 16 = .ok (.iload_n 2, 1) := by decide +kernel
theorem dX12_ofAll_17 : decode cX12_ofAll 17 = .ok (.aload_n 0, 1) := by decide +kernel
theorem dX12_ofAll_18 : decode cX12_ofAll 18 = .ok (.getfield 53, 3) := by decide +kernel
theorem dX12_ofAll_21 : decode cX12_ofAll 21 = .ok (.iload_n 3, 1) := by decide +kernel
theorem dX12_ofAll_22 : decode cX12_ofAll 22 = .ok (.baload, 1) := by decide +kernel
theorem dX12_ofAll_23 : decode cX12_ofAll 23 = .ok (.ifCond .eq 7, 3) := by decide +kernel
theorem dX12_ofAll_26 : decode cX12_ofAll 26 = .ok (.iconst 1, 1) := by decide +kernel
theorem dX12_ofAll_27 : decode cX12_ofAll 27 = .ok (.goto 4, 3) := by decide +kernel
theorem dX12_ofAll_30 : decode cX12_ofAll 30 = .ok (.iconst 0, 1) := by decide +kernel
theorem dX12_ofAll_31 : decode cX12_ofAll 31 = .ok (.iadd, 1) := by decide +kernel
theorem dX12_ofAll_32 : decode cX12_ofAll 32 = .ok (.istore_n 2, 1) := by decide +kernel
theorem dX12_ofAll_33 : decode cX12_ofAll 33 = .ok (.iinc 3 1, 3) := by decide +kernel
theorem dX12_ofAll_36 : decode cX12_ofAll 36 = .ok (.goto (-32), 3) := by decide +kernel
theorem dX12_ofAll_39 : decode cX12_ofAll 39 = .ok (.iconst 0, 1) := by decide +kernel
theorem dX12_ofAll_40 : decode cX12_ofAll 40 = .ok (.istore_n 3, 1) := by decide +kernel
theorem dX12_ofAll_41 : decode cX12_ofAll 41 = .ok (.iload_n 3, 1) := by decide +kernel
theorem dX12_ofAll_42 : decode cX12_ofAll 42 = .ok (.aload_n 0, 1) := by decide +kernel
theorem dX12_ofAll_43 : decode cX12_ofAll 43 = .ok (.getfield 289, 3) := by decide +kernel
theorem dX12_ofAll_46 : decode cX12_ofAll 46 = .ok (.if_icmp .ge 32, 3) := by decide +kernel
theorem dX12_ofAll_49 : decode cX12_ofAll 49 = .ok (.iload_n 1, 1) := by decide +kernel
theorem dX12_ofAll_50 : decode cX12_ofAll 50 = .ok (.iconst 1, 1) := by decide +kernel
theorem dX12_ofAll_51 : decode cX12_ofAll 51 = .ok (.if_icmp .ne 27, 3) := by decide +kernel
theorem dX12_ofAll_54 : decode cX12_ofAll 54 = .ok (.iload_n 2, 1) := by decide +kernel
theorem dX12_ofAll_55 : decode cX12_ofAll 55 = .ok (.aload_n 0, 1) := by decide +kernel
theorem dX12_ofAll_56 : decode cX12_ofAll 56 = .ok (.getfield 57, 3) := by decide +kernel
theorem dX12_ofAll_59 : decode cX12_ofAll 59 = .ok (.iload_n 3, 1) := by decide +kernel
theorem dX12_ofAll_60 : decode cX12_ofAll 60 = .ok (.iaload, 1) := by decide +kernel
theorem dX12_ofAll_61 : decode cX12_ofAll 61 = .ok (.iconst (-1), 1) := by decide +kernel
theorem dX12_ofAll_62 : decode cX12_ofAll 62 = .ok (.if_icmp .eq 7, 3) := by decide +kernel
theorem dX12_ofAll_65 : decode cX12_ofAll 65 = .ok (.iconst 1, 1) := by decide +kernel
theorem dX12_ofAll_66 : decode cX12_ofAll 66 = .ok (.goto 4, 3) := by decide +kernel
theorem dX12_ofAll_69 : decode cX12_ofAll 69 = .ok (.iconst 0, 1) := by decide +kernel
theorem dX12_ofAll_70 : decode cX12_ofAll 70 = .ok (.iadd, 1) := by decide +kernel
theorem dX12_ofAll_71 : decode cX12_ofAll 71 = .ok (.istore_n 2, 1) := by decide +kernel
theorem dX12_ofAll_72 : decode cX12_ofAll 72 = .ok (.iinc 3 1, 3) := by decide +kernel
theorem dX12_ofAll_75 : decode cX12_ofAll 75 = .ok (.goto (-34), 3) := by decide +kernel
theorem dX12_ofAll_78 : decode cX12_ofAll 78 = .ok (.iconst 0, 1) := by decide +kernel
theorem dX12_ofAll_79 : decode cX12_ofAll 79 = .ok (.istore_n 3, 1) := by decide +kernel
theorem dX12_ofAll_80 : decode cX12_ofAll 80 = .ok (.iload_n 3, 1) := by decide +kernel
theorem dX12_ofAll_81 : decode cX12_ofAll 81 = .ok (.aload_n 0, 1) := by decide +kernel
theorem dX12_ofAll_82 : decode cX12_ofAll 82 = .ok (.getfield 286, 3) := by decide +kernel
theorem dX12_ofAll_85 : decode cX12_ofAll 85 = .ok (.if_icmp .ge 23, 3) := by decide +kernel
theorem dX12_ofAll_88 : decode cX12_ofAll 88 = .ok (.iload_n 1, 1) := by decide +kernel
theorem dX12_ofAll_89 : decode cX12_ofAll 89 = .ok (.iconst 2, 1) := by decide +kernel
theorem dX12_ofAll_90 : decode cX12_ofAll 90 = .ok (.if_icmp .ne 18, 3) := by decide +kernel
theorem dX12_ofAll_93 : decode cX12_ofAll 93 = .ok (.iload_n 2, 1) := by decide +kernel
theorem dX12_ofAll_94 : decode cX12_ofAll 94 = .ok (.aload_n 0, 1) := by decide +kernel
theorem dX12_ofAll_95 : decode cX12_ofAll 95 = .ok (.getfield 44, 3) := by decide +kernel
theorem dX12_ofAll_98 : decode cX12_ofAll 98 = .ok (.iload_n 3, 1) := by decide +kernel
theorem dX12_ofAll_99 : decode cX12_ofAll 99 = .ok (.iaload, 1) := by decide +kernel
theorem dX12_ofAll_100 : decode cX12_ofAll 100 = .ok (.iadd, 1) := by decide +kernel
theorem dX12_ofAll_101 : decode cX12_ofAll 101 = .ok (.istore_n 2, 1) := by decide +kernel
theorem dX12_ofAll_102 : decode cX12_ofAll 102 = .ok (.iinc 3 1, 3) := by decide +kernel
theorem dX12_ofAll_105 : decode cX12_ofAll 105 = .ok (.goto (-25), 3) := by decide +kernel
theorem dX12_ofAll_108 : decode cX12_ofAll 108 = .ok (.iload_n 2, 1) := by decide +kernel
theorem dX12_ofAll_109 : decode cX12_ofAll 109 = .ok (.ireturn, 1) := by decide +kernel
theorem dX12_cost_0 : decode cX12_cost 0 = .ok (.aload_n 0, 1) := by decide +kernel
theorem dX12_cost_1 : decode cX12_cost 1 = .ok (.getfield 50, 3) := by decide +kernel
theorem dX12_cost_4 : decode cX12_cost 4 = .ok (.iload_n 2, 1) := by decide +kernel
theorem dX12_cost_5 : decode cX12_cost 5 = .ok (.iaload, 1) := by decide +kernel
theorem dX12_cost_6 : decode cX12_cost 6 = .ok (.iload_n 1, 1) := by decide +kernel
theorem dX12_cost_7 : decode cX12_cost 7 = .ok (.if_icmp .ne 7, 3) := by decide +kernel
theorem dX12_cost_10 : decode cX12_cost 10 = .ok (.iconst 0, 1) := by decide +kernel
theorem dX12_cost_11 : decode cX12_cost 11 = .ok (.goto 9, 3) := by decide +kernel
theorem dX12_cost_14 : decode cX12_cost 14 = .ok (.aload_n 0, 1) := by decide +kernel
theorem dX12_cost_15 : decode cX12_cost 15 = .ok (.getfield 47, 3) := by decide +kernel
theorem dX12_cost_18 : decode cX12_cost 18 = .ok (.iload_n 2, 1) := by decide +kernel
theorem dX12_cost_19 : decode cX12_cost 19 = .ok (.iaload, 1) := by decide +kernel
theorem dX12_cost_20 : decode cX12_cost 20 = .ok (.ireturn, 1) := by decide +kernel
theorem dX12_leadBy_0 : decode cX12_leadBy 0 = .ok (.iconst 0, 1) := by decide +kernel
theorem dX12_leadBy_1 : decode cX12_leadBy 1 = .ok (.istore_n 3, 1) := by decide +kernel
theorem dX12_leadBy_2 : decode cX12_leadBy 2 = .ok (.iconst 0, 1) := by decide +kernel
theorem dX12_leadBy_3 : decode cX12_leadBy 3 = .ok (.istore 4, 2) := by decide +kernel
theorem dX12_leadBy_5 : decode cX12_leadBy 5 = .ok (.iload 4, 2) := by decide +kernel
theorem dX12_leadBy_7 : decode cX12_leadBy 7 = .ok (.iload_n 2, 1) := by decide +kernel
theorem dX12_leadBy_8 : decode cX12_leadBy 8 = .ok (.if_icmp .ge 21, 3) := by decide +kernel
theorem dX12_leadBy_11 : decode cX12_leadBy 11 = .ok (.iload_n 3, 1) := by decide +kernel
theorem dX12_leadBy_12 : decode cX12_leadBy 12 = .ok (.aload_n 0, 1) := by decide +kernel
theorem dX12_leadBy_13 : decode cX12_leadBy 13 = .ok (.getfield 47, 3) := by decide +kernel
theorem dX12_leadBy_16 : decode cX12_leadBy 16 = .ok (.iload_n 1, 1) := by decide +kernel
theorem dX12_leadBy_17 : decode cX12_leadBy 17 = .ok (.iload 4, 2) := by decide +kernel
theorem dX12_leadBy_19 : decode cX12_leadBy 19 = .ok (.iadd, 1) := by decide +kernel
theorem dX12_leadBy_20 : decode cX12_leadBy 20 = .ok (.iaload, 1) := by decide +kernel
theorem dX12_leadBy_21 : decode cX12_leadBy 21 = .ok (.iadd, 1) := by decide +kernel
theorem dX12_leadBy_22 : decode cX12_leadBy 22 = .ok (.istore_n 3, 1) := by decide +kernel
theorem dX12_leadBy_23 : decode cX12_leadBy 23 = .ok (.iinc 4 1, 3) := by decide +kernel
theorem dX12_leadBy_26 : decode cX12_leadBy 26 = .ok (.goto (-21), 3) := by decide +kernel
theorem dX12_leadBy_29 : decode cX12_leadBy 29 = .ok (.iload_n 3, 1) := by decide +kernel
theorem dX12_leadBy_30 : decode cX12_leadBy 30 = .ok (.aload_n 0, 1) := by decide +kernel
theorem dX12_leadBy_31 : decode cX12_leadBy 31 = .ok (.getfield 75, 3) := by decide +kernel
theorem dX12_leadBy_34 : decode cX12_leadBy 34 = .ok (.iload_n 1, 1) := by decide +kernel
theorem dX12_leadBy_35 : decode cX12_leadBy 35 = .ok (.iload_n 2, 1) := by decide +kernel
theorem dX12_leadBy_36 : decode cX12_leadBy 36 = .ok (.iadd, 1) := by decide +kernel
theorem dX12_leadBy_37 : decode cX12_leadBy 37 = .ok (.iaload, 1) := by decide +kernel
theorem dX12_leadBy_38 : decode cX12_leadBy 38 = .ok (.isub, 1) := by decide +kernel
theorem dX12_leadBy_39 : decode cX12_leadBy 39 = .ok (.ireturn, 1) := by decide +kernel
theorem dX12_handsOf_0 : decode cX12_handsOf 0 = .ok (.lconst 0, 1) := by decide +kernel
theorem dX12_handsOf_1 : decode cX12_handsOf 1 = .ok (.lstore_n 2, 1) := by decide +kernel
theorem dX12_handsOf_2 : decode cX12_handsOf 2 = .ok (.iconst 0, 1) := by decide +kernel
theorem dX12_handsOf_3 : decode cX12_handsOf 3 = .ok (.istore 4, 2) := by decide +kernel
theorem dX12_handsOf_5 : decode cX12_handsOf 5 = .ok (.iload 4, 2) := by decide +kernel
theorem dX12_handsOf_7 : decode cX12_handsOf 7 = .ok (.aload_n 0, 1) := by decide +kernel
theorem dX12_handsOf_8 : decode cX12_handsOf 8 = .ok (.getfield 283, 3) := by decide +kernel
theorem dX12_handsOf_11 : decode cX12_handsOf 11 = .ok (.if_icmp .ge 31, 3) := by decide +kernel
theorem dX12_handsOf_14 : decode cX12_handsOf 14 = .ok (.lload_n 2, 1) := by decide +kernel
theorem dX12_handsOf_15 : decode cX12_handsOf 15 = .ok (.aload_n 0, 1) := by decide +kernel
theorem dX12_handsOf_16 : decode cX12_handsOf 16 = .ok (.getfield 50, 3) := by decide +kernel
theorem dX12_handsOf_19 : decode cX12_handsOf 19 = .ok (.iload 4, 2) := by decide +kernel
theorem dX12_handsOf_21 : decode cX12_handsOf 21 = .ok (.iaload, 1) := by decide +kernel
theorem dX12_handsOf_22 : decode cX12_handsOf 22 = .ok (.iload_n 1, 1) := by decide +kernel
theorem dX12_handsOf_23 : decode cX12_handsOf 23 = .ok (.if_icmp .ne 10, 3) := by decide +kernel
theorem dX12_handsOf_26 : decode cX12_handsOf 26 = .ok (.lconst 1, 1) := by decide +kernel
theorem dX12_handsOf_27 : decode cX12_handsOf 27 = .ok (.iload 4, 2) := by decide +kernel
theorem dX12_handsOf_29 : decode cX12_handsOf 29 = .ok (.lshl, 1) := by decide +kernel
theorem dX12_handsOf_30 : decode cX12_handsOf 30 = .ok (.goto 4, 3) := by decide +kernel
theorem dX12_handsOf_33 : decode cX12_handsOf 33 = .ok (.lconst 0, 1) := by decide +kernel
theorem dX12_handsOf_34 : decode cX12_handsOf 34 = .ok (.lor, 1) := by decide +kernel
theorem dX12_handsOf_35 : decode cX12_handsOf 35 = .ok (.lstore_n 2, 1) := by decide +kernel
theorem dX12_handsOf_36 : decode cX12_handsOf 36 = .ok (.iinc 4 1, 3) := by decide +kernel
theorem dX12_handsOf_39 : decode cX12_handsOf 39 = .ok (.goto (-34), 3) := by decide +kernel
theorem dX12_handsOf_42 : decode cX12_handsOf 42 = .ok (.lload_n 2, 1) := by decide +kernel
theorem dX12_handsOf_43 : decode cX12_handsOf 43 = .ok (.lreturn, 1) := by decide +kernel
theorem dX12_allHit_0 : decode cX12_allHit 0 = .ok (.iconst 0, 1) := by decide +kernel
theorem dX12_allHit_1 : decode cX12_allHit 1 = .ok (.istore_n 3, 1) := by decide +kernel
theorem dX12_allHit_2 : decode cX12_allHit 2 = .ok (.iload_n 3, 1) := by decide +kernel
theorem dX12_allHit_3 : decode cX12_allHit 3 = .ok (.aload_n 0, 1) := by decide +kernel
theorem dX12_allHit_4 : decode cX12_allHit 4 = .ok (.getfield 412, 3) := by decide +kernel
theorem dX12_allHit_7 : decode cX12_allHit 7 = .ok (.if_icmp .ge 24, 3) := by decide +kernel
theorem dX12_allHit_10 : decode cX12_allHit 10 = .ok (.aload_n 0, 1) := by decide +kernel
theorem dX12_allHit_11 : decode cX12_allHit 11 = .ok (.getfield 78, 3) := by decide +kernel
theorem dX12_allHit_14 : decode cX12_allHit 14 = .ok (.iload_n 3, 1) := by decide +kernel
theorem dX12_allHit_15 : decode cX12_allHit 15 = .ok (.laload, 1) := by decide +kernel
theorem dX12_allHit_16 : decode cX12_allHit 16 = .ok (.lload_n 1, 1) := by decide +kernel
theorem dX12_allHit_17 : decode cX12_allHit 17 = .ok (.land, 1) := by decide +kernel
theorem dX12_allHit_18 : decode cX12_allHit 18 = .ok (.lconst 0, 1) := by decide +kernel
theorem dX12_allHit_19 : decode cX12_allHit 19 = .ok (.lcmp, 1) := by decide +kernel
theorem dX12_allHit_20 : decode cX12_allHit 20 = .ok (.ifCond .ne 5, 3) := by decide +kernel
theorem dX12_allHit_23 : decode cX12_allHit 23 = .ok (.iconst 0, 1) := by decide +kernel
theorem dX12_allHit_24 : decode cX12_allHit 24 = .ok (.ireturn, 1) := by decide +kernel
theorem dX12_allHit_25 : decode cX12_allHit 25 = .ok (.iinc 3 1, 3) := by decide +kernel
theorem dX12_allHit_28 : decode cX12_allHit 28 = .ok (.goto (-26), 3) := by decide +kernel
theorem dX12_allHit_31 : decode cX12_allHit 31 = .ok (.iconst 1, 1) := by decide +kernel
theorem dX12_allHit_32 : decode cX12_allHit 32 = .ok (.ireturn, 1) := by decide +kernel
theorem dX12_hasBit_0 : decode cX12_hasBit 0 = .ok (.lload_n 0, 1) := by decide +kernel
theorem dX12_hasBit_1 : decode cX12_hasBit 1 = .ok (.iload_n 2, 1) := by decide +kernel
theorem dX12_hasBit_2 : decode cX12_hasBit 2 = .ok (.lshr, 1) := by decide +kernel
theorem dX12_hasBit_3 : decode cX12_hasBit 3 = .ok (.lconst 1, 1) := by decide +kernel
theorem dX12_hasBit_4 : decode cX12_hasBit 4 = .ok (.land, 1) := by decide +kernel
theorem dX12_hasBit_5 : decode cX12_hasBit 5 = .ok (.lconst 1, 1) := by decide +kernel
theorem dX12_hasBit_6 : decode cX12_hasBit 6 = .ok (.lcmp, 1) := by decide +kernel
theorem dX12_hasBit_7 : decode cX12_hasBit 7 = .ok (.ifCond .ne 7, 3) := by decide +kernel
theorem dX12_hasBit_10 : decode cX12_hasBit 10 = .ok (.iconst 1, 1) := by decide +kernel
theorem dX12_hasBit_11 : decode cX12_hasBit 11 = .ok (.goto 4, 3) := by decide +kernel
theorem dX12_hasBit_14 : decode cX12_hasBit 14 = .ok (.iconst 0, 1) := by decide +kernel
theorem dX12_hasBit_15 : decode cX12_hasBit 15 = .ok (.ireturn, 1) := by decide +kernel
