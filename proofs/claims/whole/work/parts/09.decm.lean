theorem dX12_in_0 : decode cX12_in 0 = .ok (.iload_n 0, 1) := by decide +kernel
theorem dX12_in_1 : decode cX12_in 1 = .ok (.iload_n 1, 1) := by decide +kernel
theorem dX12_in_2 : decode cX12_in 2 = .ok (.if_icmp .lt 12, 3) := by decide +kernel
theorem dX12_in_5 : decode cX12_in 5 = .ok (.iload_n 0, 1) := by decide +kernel
theorem dX12_in_6 : decode cX12_in 6 = .ok (.iload_n 2, 1) := by decide +kernel
theorem dX12_in_7 : decode cX12_in 7 = .ok (.if_icmp .gt 7, 3) := by decide +kernel
theorem dX12_in_10 : decode cX12_in 10 = .ok (.iconst 1, 1) := by decide +kernel
theorem dX12_in_11 : decode cX12_in 11 = .ok (.goto 4, 3) := by decide +kernel
theorem dX12_in_14 : decode cX12_in 14 = .ok (.iconst 0, 1) := by decide +kernel
theorem dX12_in_15 : decode cX12_in 15 = .ok (.ireturn, 1) := by decide +kernel
theorem dX12_has_0 : decode cX12_has 0 = .ok (.iload_n 0, 1) := by decide +kernel
theorem dX12_has_1 : decode cX12_has 1 = .ok (.iload_n 1, 1) := by decide +kernel
theorem dX12_has_2 : decode cX12_has 2 = .ok (.ishr, 1) := by decide +kernel
theorem dX12_has_3 : decode cX12_has 3 = .ok (.iconst 1, 1) := by decide +kernel
theorem dX12_has_4 : decode cX12_has 4 = .ok (.iand, 1) := by decide +kernel
theorem dX12_has_5 : decode cX12_has 5 = .ok (.iconst 1, 1) := by decide +kernel
theorem dX12_has_6 : decode cX12_has 6 = .ok (.if_icmp .ne 7, 3) := by decide +kernel
theorem dX12_has_9 : decode cX12_has 9 = .ok (.iconst 1, 1) := by decide +kernel
theorem dX12_has_10 : decode cX12_has 10 = .ok (.goto 4, 3) := by decide +kernel
theorem dX12_has_13 : decode cX12_has 13 = .ok (.iconst 0, 1) := by decide +kernel
theorem dX12_has_14 : decode cX12_has 14 = .ok (.ireturn, 1) := by decide +kernel
theorem dX12_greater_0 : decode cX12_greater 0 = .ok (.iload_n 0, 1) := by decide +kernel
theorem dX12_greater_1 : decode cX12_greater 1 = .ok (.iload_n 1, 1) := by decide +kernel
theorem dX12_greater_2 : decode cX12_greater 2 = .ok (.if_icmp .le 7, 3) := by decide +kernel
theorem dX12_greater_5 : decode cX12_greater 5 = .ok (.iload_n 0, 1) := by decide +kernel
theorem dX12_greater_6 : decode cX12_greater 6 = .ok (.goto 4, 3) := by decide +kernel
theorem dX12_greater_9 : decode cX12_greater 9 = .ok (.iload_n 1, 1) := by decide +kernel
theorem dX12_greater_10 : decode cX12_greater 10 = .ok (.ireturn, 1) := by decide +kernel
theorem dX12_lesser_0 : decode cX12_lesser 0 = .ok (.iload_n 0, 1) := by decide +kernel
theorem dX12_lesser_1 : decode cX12_lesser 1 = .ok (.iload_n 1, 1) := by decide +kernel
theorem dX12_lesser_2 : decode cX12_lesser 2 = .ok (.if_icmp .ge 7, 3) := by decide +kernel
theorem dX12_lesser_5 : decode cX12_lesser 5 = .ok (.iload_n 0, 1) := by decide +kernel
theorem dX12_lesser_6 : decode cX12_lesser 6 = .ok (.goto 4, 3) := by decide +kernel
theorem dX12_lesser_9 : decode cX12_lesser 9 = .ok (.iload_n 1, 1) := by decide +kernel
theorem dX12_lesser_10 : decode cX12_lesser 10 = .ok (.ireturn, 1) := by decide +kernel
theorem dX12_copyRow_0 : decode cX12_copyRow 0 = .ok (.iconst 0, 1) := by decide +kernel
theorem dX12_copyRow_1 : decode cX12_copyRow 1 = .ok (.istore 4, 2) := by decide +kernel
theorem dX12_copyRow_3 : decode cX12_copyRow 3 = .ok (.iload 4, 2) := by decide +kernel
theorem dX12_copyRow_5 : decode cX12_copyRow 5 = .ok (.iload_n 1, 1) := by decide +kernel
theorem dX12_copyRow_6 : decode cX12_copyRow 6 = .ok (.if_icmp .ge 25, 3) := by decide +kernel
theorem dX12_copyRow_9 : decode cX12_copyRow 9 = .ok (.aload_n 0, 1) := by decide +kernel
theorem dX12_copyRow_10 : decode cX12_copyRow 10 = .ok (.iload_n 1, 1) := by decide +kernel
theorem dX12_copyRow_11 : decode cX12_copyRow 11 = .ok (.iload_n 3, 1) := by decide +kernel
theorem dX12_copyRow_12 : decode cX12_copyRow 12 = .ok (.imul, 1) := by decide +kernel
theorem dX12_copyRow_13 : decode cX12_copyRow 13 = .ok (.iload 4, 2) := by decide +kernel
theorem dX12_copyRow_15 : decode cX12_copyRow 15 = .ok (.iadd, 1) := by decide +kernel
theorem dX12_copyRow_16 : decode cX12_copyRow 16 = .ok (.aload_n 0, 1) := by decide +kernel
theorem dX12_copyRow_17 : decode cX12_copyRow 17 = .ok (.iload_n 1, 1) := by decide +kernel
theorem dX12_copyRow_18 : decode cX12_copyRow 18 = .ok (.iload_n 2, 1) := by decide +kernel
theorem dX12_copyRow_19 : decode cX12_copyRow 19 = .ok (.imul, 1) := by decide +kernel
theorem dX12_copyRow_20 : decode cX12_copyRow 20 = .ok (.iload 4, 2) := by decide +kernel
theorem dX12_copyRow_22 : decode cX12_copyRow 22 = .ok (.iadd, 1) := by decide +kernel
theorem dX12_copyRow_23 : decode cX12_copyRow 23 = .ok (.iaload, 1) := by decide +kernel
theorem dX12_copyRow_24 : decode cX12_copyRow 24 = .ok (.iastore, 1) := by decide +kernel
theorem dX12_copyRow_25 : decode cX12_copyRow 25 = .ok (.iinc 4 1, 3) := by decide +kernel
theorem dX12_copyRow_28 : decode cX12_copyRow 28 = .ok (.goto (-25), 3) := by decide +kernel
theorem dX12_copyRow_31 : decode cX12_copyRow 31 = .ok (.return_, 1) := by decide +kernel
theorem dX12_four_0 : decode cX12_four 0 = .ok (.bipush 24, 2) := by decide +kernel
theorem dX12_four_2 : decode cX12_four 2 = .ok (.istore_n 2, 1) := by decide +kernel
theorem dX12_four_3 : decode cX12_four 3 = .ok (.iload_n 2, 1) := by decide +kernel
theorem dX12_four_4 : decode cX12_four 4 = .ok (.ifCond .lt 34, 3) := by decide +kernel
theorem dX12_four_7 : decode cX12_four 7 = .ok (.aload_n 0, 1) := by decide +kernel
theorem dX12_four_8 : decode cX12_four 8 = .ok (.getfield 7, 3) := by decide +kernel
theorem dX12_four_11 : decode cX12_four 11 = .ok (.aload_n 0, 1) := by decide +kernel
theorem dX12_four_12 : decode cX12_four 12 = .ok (.getfield 13, 3) := by decide +kernel
theorem dX12_four_15 : decode cX12_four 15 = .ok (.iconst 0, 1) := by decide +kernel
theorem dX12_four_16 : decode cX12_four 16 = .ok (.iaload, 1) := by decide +kernel
theorem dX12_four_17 : decode cX12_four 17 = .ok (.iload_n 1, 1) := by decide +kernel
theorem dX12_four_18 : decode cX12_four 18 = .ok (.iload_n 2, 1) := by decide +kernel
theorem dX12_four_19 : decode cX12_four 19 = .ok (.ishr, 1) := by decide +kernel
theorem dX12_four_20 : decode cX12_four 20 = .ok (.i2b, 1) := by decide +kernel
theorem dX12_four_21 : decode cX12_four 21 = .ok (.bastore, 1) := by decide +kernel
theorem dX12_four_22 : decode cX12_four 22 = .ok (.aload_n 0, 1) := by decide +kernel
theorem dX12_four_23 : decode cX12_four 23 = .ok (.getfield 13, 3) := by decide +kernel
theorem dX12_four_26 : decode cX12_four 26 = .ok (.iconst 0, 1) := by decide +kernel
theorem dX12_four_27 : decode cX12_four 27 = .ok (.dup2, 1) := by decide +kernel
theorem dX12_four_28 : decode cX12_four 28 = .ok (.iaload, 1) := by decide +kernel
theorem dX12_four_29 : decode cX12_four 29 = .ok (.iconst 1, 1) := by decide +kernel
theorem dX12_four_30 : decode cX12_four 30 = .ok (.iadd, 1) := by decide +kernel
theorem dX12_four_31 : decode cX12_four 31 = .ok (.iastore, 1) := by decide +kernel
theorem dX12_four_32 : decode cX12_four 32 = .ok (.iinc 2 (-8), 3) := by decide +kernel
theorem dX12_four_35 : decode cX12_four 35 = .ok (.goto (-32), 3) := by decide +kernel
theorem dX12_four_38 : decode cX12_four 38 = .ok (.return_, 1) := by decide +kernel
theorem dX12_see_0 : decode cX12_see 0 = .ok (.aload_n 0, 1) := by decide +kernel
theorem dX12_see_1 : decode cX12_see 1 = .ok (.getfield 120, 3) := by decide +kernel
theorem dX12_see_4 : decode cX12_see 4 = .ok (.aload_n 0, 1) := by decide +kernel
theorem dX12_see_5 : decode cX12_see 5 = .ok (.getfield 123, 3) := by decide +kernel
theorem dX12_see_8 : decode cX12_see 8 = .ok (.if_icmp .ge 19, 3) := by decide +kernel
theorem dX12_see_11 : decode cX12_see 11 = .ok (.aload_n 0, 1) := by decide +kernel
theorem dX12_see_12 : decode cX12_see 12 = .ok (.getfield 7, 3) := by decide +kernel
theorem dX12_see_15 : decode cX12_see 15 = .ok (.aload_n 0, 1) := by decide +kernel
theorem dX12_see_16 : decode cX12_see 16 = .ok (.getfield 120, 3) := by decide +kernel
theorem dX12_see_19 : decode cX12_see 19 = .ok (.baload, 1) := by decide +kernel
theorem dX12_see_20 : decode cX12_see 20 = .ok (.sipush 255, 3) := by decide +kernel
theorem dX12_see_23 : decode cX12_see 23 = .ok (.iand, 1) := by decide +kernel
theorem dX12_see_24 : decode cX12_see 24 = .ok (.goto 4, 3) := by decide +kernel
theorem dX12_see_27 : decode cX12_see 27 = .ok (.iconst (-1), 1) := by decide +kernel
theorem dX12_see_28 : decode cX12_see 28 = .ok (.ireturn, 1) := by decide +kernel
theorem dX12_fails_0 : decode cX12_fails 0 = .ok (.aload_n 0, 1) := by decide +kernel
theorem dX12_fails_1 : decode cX12_fails 1 = .ok (.aload_n 0, 1) := by decide +kernel
theorem dX12_fails_2 : decode cX12_fails 2 = .ok (.getfield 130, 3) := by decide +kernel
theorem dX12_fails_5 : decode cX12_fails 5 = .ok (.putfield 143, 3) := by decide +kernel
theorem dX12_fails_8 : decode cX12_fails 8 = .ok (.iconst 0, 1) := by decide +kernel
theorem dX12_fails_9 : decode cX12_fails 9 = .ok (.ireturn, 1) := by decide +kernel
theorem dX12_later_0 : decode cX12_later 0 = .ok (.aload_n 0, 1) := by decide +kernel
theorem dX12_later_1 : decode cX12_later 1 = .ok (.getfield 146, 3) := by decide +kernel
theorem dX12_later_4 : decode cX12_later 4 = .ok (.ifCond .eq 27, 3) := by decide +kernel
theorem dX12_later_7 : decode cX12_later 7 = .ok (.iload_n 2, 1) := by decide +kernel
theorem dX12_later_8 : decode cX12_later 8 = .ok (.aload_n 0, 1) := by decide +kernel
theorem dX12_later_9 : decode cX12_later 9 = .ok (.getfield 149, 3) := by decide +kernel
theorem dX12_later_12 : decode cX12_later 12 = .ok (.if_icmp .lt 19, 3) := by decide +kernel
theorem dX12_later_15 : decode cX12_later 15 = .ok (.iload_n 2, 1) := by decide +kernel
theorem dX12_later_16 : decode cX12_later 16 = .ok (.aload_n 0, 1) := by decide +kernel
theorem dX12_later_17 : decode cX12_later 17 = .ok (.getfield 149, 3) := by decide +kernel
theorem dX12_later_20 : decode cX12_later 20 = .ok (.if_icmp .ne 21, 3) := by decide +kernel
theorem dX12_later_23 : decode cX12_later 23 = .ok (.iload_n 1, 1) := by decide +kernel
theorem dX12_later_24 : decode cX12_later 24 = .ok (.aload_n 0, 1) := by decide +kernel
theorem dX12_later_25 : decode cX12_later 25 = .ok (.getfield 146, 3) := by decide +kernel
theorem dX12_later_28 : decode cX12_later 28 = .ok (.if_icmp .ge 13, 3) := by decide +kernel
theorem dX12_later_31 : decode cX12_later 31 = .ok (.aload_n 0, 1) := by decide +kernel
theorem dX12_later_32 : decode cX12_later 32 = .ok (.iload_n 1, 1) := by decide +kernel
theorem dX12_later_33 : decode cX12_later 33 = .ok (.putfield 146, 3) := by decide +kernel
theorem dX12_later_36 : decode cX12_later 36 = .ok (.aload_n 0, 1) := by decide +kernel
theorem dX12_later_37 : decode cX12_later 37 = .ok (.iload_n 2, 1) := by decide +kernel
theorem dX12_later_38 : decode cX12_later 38 = .ok (.putfield 149, 3) := by decide +kernel
theorem dX12_later_41 : decode cX12_later 41 = .ok (.return_, 1) := by decide +kernel
theorem dX12_fill_0 : decode cX12_fill 0 = .ok (.iload_n 2, 1) := by decide +kernel
theorem dX12_fill_1 : decode cX12_fill 1 = .ok (.istore 5, 2) := by decide +kernel
theorem dX12_fill_3 : decode cX12_fill 3 = .ok (.iload 5, 2) := by decide +kernel
theorem dX12_fill_5 : decode cX12_fill 5 = .ok (.iload_n 3, 1) := by decide +kernel
theorem dX12_fill_6 : decode cX12_fill 6 = .ok (.if_icmp .gt 27, 3) := by decide +kernel
theorem dX12_fill_9 : decode cX12_fill 9 = .ok (.aload_n 0, 1) := by decide +kernel
theorem dX12_fill_10 : decode cX12_fill 10 = .ok (.getfield 160, 3) := by decide +kernel
theorem dX12_fill_13 : decode cX12_fill 13 = .ok (.ifCond .eq 20, 3) := by decide +kernel
theorem dX12_fill_16 : decode cX12_fill 16 = .ok (.aload_n 0, 1) := by decide +kernel
theorem dX12_fill_17 : decode cX12_fill 17 = .ok (.getfield 38, 3) := by decide +kernel
theorem dX12_fill_20 : decode cX12_fill 20 = .ok (.iload_n 1, 1) := by decide +kernel
theorem dX12_fill_21 : decode cX12_fill 21 = .ok (.iload 5, 2) := by decide +kernel
theorem dX12_fill_23 : decode cX12_fill 23 = .ok (.iadd, 1) := by decide +kernel
theorem dX12_fill_24 : decode cX12_fill 24 = .ok (.iload 4, 2) := by decide +kernel
theorem dX12_fill_26 : decode cX12_fill 26 = .ok (.iastore, 1) := by decide +kernel
theorem dX12_fill_27 : decode cX12_fill 27 = .ok (.iinc 5 1, 3) := by decide +kernel
theorem dX12_fill_30 : decode cX12_fill 30 = .ok (.goto (-27), 3) := by decide +kernel
theorem dX12_fill_33 : decode cX12_fill 33 = .ok (.return_, 1) := by decide +kernel
theorem dX12_keepRow_0 : decode cX12_keepRow 0 = .ok (.aload_n 0, 1) := by decide +kernel
theorem dX12_keepRow_1 : decode cX12_keepRow 1 = .ok (.getfield 38, 3) := by decide +kernel
theorem dX12_keepRow_4 : decode cX12_keepRow 4 = .ok (.iconst 0, 1) := by decide +kernel
theorem dX12_keepRow_5 : decode cX12_keepRow 5 = .ok (.iaload, 1) := by decide +kernel
theorem dX12_keepRow_6 : decode cX12_keepRow 6 = .ok (.istore_n 3, 1) := by decide +kernel
theorem dX12_keepRow_7 : decode cX12_keepRow 7 = .ok (.iload_n 3, 1) := by decide +kernel
theorem dX12_keepRow_8 : decode cX12_keepRow 8 = .ok (.iload_n 2, 1) := by decide +kernel
theorem dX12_keepRow_9 : decode cX12_keepRow 9 = .ok (.if_icmp .ne 4, 3) := by decide +kernel
theorem dX12_keepRow_12 : decode cX12_keepRow 12 = .ok (.return_, 1) := by decide +kernel
theorem dX12_keepRow_13 : decode cX12_keepRow 13 = .ok (.iconst 0, 1) := by decide +kernel
theorem dX12_keepRow_14 : decode cX12_keepRow 14 = .ok (.istore 4, 2) := by decide +kernel
theorem dX12_keepRow_16 : decode cX12_keepRow 16 = .ok (.iload 4, 2) := by decide +kernel
theorem dX12_keepRow_18 : decode cX12_keepRow 18 = .ok (.iload_n 1, 1) := by decide +kernel
theorem dX12_keepRow_19 : decode cX12_keepRow 19 = .ok (.if_icmp .ge 29, 3) := by decide +kernel
theorem dX12_keepRow_22 : decode cX12_keepRow 22 = .ok (.aload_n 0, 1) := by decide +kernel
theorem dX12_keepRow_23 : decode cX12_keepRow 23 = .ok (.getfield 38, 3) := by decide +kernel
theorem dX12_keepRow_26 : decode cX12_keepRow 26 = .ok (.iconst 1, 1) := by decide +kernel
theorem dX12_keepRow_27 : decode cX12_keepRow 27 = .ok (.iload_n 1, 1) := by decide +kernel
theorem dX12_keepRow_28 : decode cX12_keepRow 28 = .ok (.iload_n 3, 1) := by decide +kernel
theorem dX12_keepRow_29 : decode cX12_keepRow 29 = .ok (.imul, 1) := by decide +kernel
theorem dX12_keepRow_30 : decode cX12_keepRow 30 = .ok (.iadd, 1) := by decide +kernel
theorem dX12_keepRow_31 : decode cX12_keepRow 31 = .ok (.iload 4, 2) := by decide +kernel
theorem dX12_keepRow_33 : decode cX12_keepRow 33 = .ok (.iadd, 1) := by decide +kernel
theorem dX12_keepRow_34 : decode cX12_keepRow 34 = .ok (.aload_n 0, 1) := by decide +kernel
theorem dX12_keepRow_35 : decode cX12_keepRow 35 = .ok (.getfield 41, 3) := by decide +kernel
theorem dX12_keepRow_38 : decode cX12_keepRow 38 = .ok (.iload 4, 2) := by decide +kernel
theorem dX12_keepRow_40 : decode cX12_keepRow 40 = .ok (.iaload, 1) := by decide +kernel
theorem dX12_keepRow_41 : decode cX12_keepRow 41 = .ok (.iastore, 1) := by decide +kernel
theorem dX12_keepRow_42 : decode cX12_keepRow 42 = .ok (.iinc 4 1, 3) := by decide +kernel
theorem dX12_keepRow_45 : decode cX12_keepRow 45 = .ok (.goto (-29), 3) := by decide +kernel
theorem dX12_keepRow_48 : decode cX12_keepRow 48 = .ok (.aload_n 0, 1) := by decide +kernel
theorem dX12_keepRow_49 : decode cX12_keepRow 49 = .ok (.getfield 38, 3) := by decide +kernel
theorem dX12_keepRow_52 : decode cX12_keepRow 52 = .ok (.iconst 0, 1) := by decide +kernel
theorem dX12_keepRow_53 : decode cX12_keepRow 53 = .ok (.dup2, 1) := by decide +kernel
theorem dX12_keepRow_54 : decode cX12_keepRow 54 = .ok (.iaload, 1) := by decide +kernel
theorem dX12_keepRow_55 : decode cX12_keepRow 55 = .ok (.iconst 1, 1) := by decide +kernel
theorem dX12_keepRow_56 : decode cX12_keepRow 56 = .ok (.iadd, 1) := by decide +kernel
theorem dX12_keepRow_57 : decode cX12_keepRow 57 = .ok (.iastore, 1) := by decide +kernel
theorem dX12_keepRow_58 : decode cX12_keepRow 58 = .ok (.return_, 1) := by decide +kernel
theorem dX12_deedBy_0 : decode cX12_deedBy 0 = .ok (.lload_n 0, 1) := by decide +kernel
theorem dX12_deedBy_1 : decode cX12_deedBy 1 = .ok (.ldc2_w 209, 3) := by decide +kernel
theorem dX12_deedBy_4 : decode cX12_deedBy 4 = .ok (.lcmp, 1) := by decide +kernel
theorem dX12_deedBy_5 : decode cX12_deedBy 5 = .ok (.ifCond .ne 7, 3) := by decide +kernel
theorem dX12_deedBy_8 : decode cX12_deedBy 8 = .ok (.iconst 0, 1) := by decide +kernel
theorem dX12_deedBy_9 : decode cX12_deedBy 9 = .ok (.goto 77, 3) := by decide +kernel
theorem dX12_deedBy_12 : decode cX12_deedBy 12 = .ok (.lload_n 0, 1) := by decide +kernel
theorem dX12_deedBy_13 : decode cX12_deedBy 13 = .ok (.ldc2_w 211, 3) := by decide +kernel
theorem dX12_deedBy_16 : decode cX12_deedBy 16 = .ok (.lcmp, 1) := by decide +kernel
theorem dX12_deedBy_17 : decode cX12_deedBy 17 = .ok (.ifCond .ne 7, 3) := by decide +kernel
theorem dX12_deedBy_20 : decode cX12_deedBy 20 = .ok (.iconst 1, 1) := by decide +kernel
theorem dX12_deedBy_21 : decode cX12_deedBy 21 = .ok (.goto 65, 3) := by decide +kernel
theorem dX12_deedBy_24 : decode cX12_deedBy 24 = .ok (.lload_n 0, 1) := by decide +kernel
theorem dX12_deedBy_25 : decode cX12_deedBy 25 = .ok (.ldc2_w 213, 3) := by decide +kernel
theorem dX12_deedBy_28 : decode cX12_deedBy 28 = .ok (.lcmp, 1) := by decide +kernel
theorem dX12_deedBy_29 : decode cX12_deedBy 29 = .ok (.ifCond .ne 7, 3) := by decide +kernel
theorem dX12_deedBy_32 : decode cX12_deedBy 32 = .ok (.iconst 2, 1) := by decide +kernel
theorem dX12_deedBy_33 : decode cX12_deedBy 33 = .ok (.goto 53, 3) := by decide +kernel
theorem dX12_deedBy_36 : decode cX12_deedBy 36 = .ok (.lload_n 0, 1) := by decide +kernel
theorem dX12_deedBy_37 : decode cX12_deedBy 37 = .ok (.ldc2_w 215, 3) := by decide +kernel
theorem dX12_deedBy_40 : decode cX12_deedBy 40 = .ok (.lcmp, 1) := by decide +kernel
theorem dX12_deedBy_41 : decode cX12_deedBy 41 = .ok (.ifCond .ne 7, 3) := by decide +kernel
theorem dX12_deedBy_44 : decode cX12_deedBy 44 = .ok (.iconst 3, 1) := by decide +kernel
theorem dX12_deedBy_45 : decode cX12_deedBy 45 = .ok (.goto 41, 3) := by decide +kernel
theorem dX12_deedBy_48 : decode cX12_deedBy 48 = .ok (.lload_n 0, 1) := by decide +kernel
theorem dX12_deedBy_49 : decode cX12_deedBy 49 = .ok (.ldc2_w 217, 3) := by decide +kernel
theorem dX12_deedBy_52 : decode cX12_deedBy 52 = .ok (.lcmp, 1) := by decide +kernel
theorem dX12_deedBy_53 : decode cX12_deedBy 53 = .ok (.ifCond .ne 7, 3) := by decide +kernel
theorem dX12_deedBy_56 : decode cX12_deedBy 56 = .ok (.iconst 4, 1) := by decide +kernel
theorem dX12_deedBy_57 : decode cX12_deedBy 57 = .ok (.goto 29, 3) := by decide +kernel
theorem dX12_deedBy_60 : decode cX12_deedBy 60 = .ok (.lload_n 0, 1) := by decide +kernel
theorem dX12_deedBy_61 : decode cX12_deedBy 61 = .ok (.ldc2_w 219, 3) := by decide +kernel
theorem dX12_deedBy_64 : decode cX12_deedBy 64 = .ok (.lcmp, 1) := by decide +kernel
theorem dX12_deedBy_65 : decode cX12_deedBy 65 = .ok (.ifCond .ne 7, 3) := by decide +kernel
theorem dX12_deedBy_68 : decode cX12_deedBy 68 = .ok (.iconst 5, 1) := by decide +kernel
theorem dX12_deedBy_69 : decode cX12_deedBy 69 = .ok (.goto 17, 3) := by decide +kernel
theorem dX12_deedBy_72 : decode cX12_deedBy 72 = .ok (.lload_n 0, 1) := by decide +kernel
theorem dX12_deedBy_73 : decode cX12_deedBy 73 = .ok (.ldc2_w 221, 3) := by decide +kernel
theorem dX12_deedBy_76 : decode cX12_deedBy 76 = .ok (.lcmp, 1) := by decide +kernel
theorem dX12_deedBy_77 : decode cX12_deedBy 77 = .ok (.ifCond .ne 8, 3) := by decide +kernel
theorem dX12_deedBy_80 : decode cX12_deedBy 80 = .ok (.bipush 6, 2) := by decide +kernel
theorem dX12_deedBy_82 : decode cX12_deedBy 82 = .ok (.goto 4, 3) := by decide +kernel
theorem dX12_deedBy_85 : decode cX12_deedBy 85 = .ok (.iconst (-1), 1) := by decide +kernel
theorem dX12_deedBy_86 : decode cX12_deedBy 86 = .ok (.ireturn, 1) := by decide +kernel
theorem dX12_blank_0 : decode cX12_blank 0 = .ok (.iconst 0, 1) := by decide +kernel
theorem dX12_blank_1 : decode cX12_blank 1 = .ok (.istore_n 2, 1) := by decide +kernel
theorem dX12_blank_2 : decode cX12_blank 2 = .ok (.iload_n 2, 1) := by decide +kernel
theorem dX12_blank_3 : decode cX12_blank 3 = .ok (.sipush 161, 3) := by decide +kernel
theorem dX12_blank_6 : decode cX12_blank 6 = .ok (.if_icmp .ge 16, 3) := by decide +kernel
theorem dX12_blank_9 : decode cX12_blank 9 = .ok (.aload_n 0, 1) := by decide +kernel
theorem dX12_blank_10 : decode cX12_blank 10 = .ok (.getfield 38, 3) := by decide +kernel
theorem dX12_blank_13 : decode cX12_blank 13 = .ok (.iload_n 2, 1) := by decide +kernel
theorem dX12_blank_14 : decode cX12_blank 14 = .ok (.iconst 0, 1) := by decide +kernel
theorem dX12_blank_15 : decode cX12_blank 15 = .ok (.iastore, 1) := by decide +kernel
theorem dX12_blank_16 : decode cX12_blank 16 = .ok (.iinc 2 1, 3) := by decide +kernel
theorem dX12_blank_19 : decode cX12_blank 19 = .ok (.goto (-17), 3) := by decide +kernel
theorem dX12_blank_22 : decode cX12_blank 22 = .ok (.aload_n 0, 1) := by decide +kernel
theorem dX12_blank_23 : decode cX12_blank 23 = .ok (.getfield 38, 3) := by decide +kernel
theorem dX12_blank_26 : decode cX12_blank 26 = .ok (.iconst 0, 1) := by decide +kernel
theorem dX12_blank_27 : decode cX12_blank 27 = .ok (.iload_n 1, 1) := by decide +kernel
theorem dX12_blank_28 : decode cX12_blank 28 = .ok (.ifCond .ne 8, 3) := by decide +kernel
theorem dX12_blank_31 : decode cX12_blank 31 = .ok (.bipush 12, 2) := by decide +kernel
theorem dX12_blank_33 : decode cX12_blank 33 = .ok (.goto 13, 3) := by decide +kernel
theorem dX12_blank_36 : decode cX12_blank 36 = .ok (.iload_n 1, 1) := by decide +kernel
theorem dX12_blank_37 : decode cX12_blank 37 = .ok (.iconst 3, 1) := by decide +kernel
theorem dX12_blank_38 : decode cX12_blank 38 = .ok (.if_icmp .ne 7, 3) := by decide +kernel
theorem dX12_blank_41 : decode cX12_blank 41 = .ok (.iconst 3, 1) := by decide +kernel
theorem dX12_blank_42 : decode cX12_blank 42 = .ok (.goto 4, 3) := by decide +kernel
theorem dX12_blank_45 : decode cX12_blank 45 = .ok (.iconst 0, 1) := by decide +kernel
theorem dX12_blank_46 : decode cX12_blank 46 = .ok (.iastore, 1) := by decide +kernel
theorem dX12_blank_47 : decode cX12_blank 47 = .ok (.iload_n 1, 1) := by decide +kernel
theorem dX12_blank_48 : decode cX12_blank 48 = .ok (.ifCond .ne 67, 3) := by decide +kernel
theorem dX12_blank_51 : decode cX12_blank 51 = .ok (.aload_n 0, 1) := by decide +kernel
theorem dX12_blank_52 : decode cX12_blank 52 = .ok (.getfield 38, 3) := by decide +kernel
theorem dX12_blank_55 : decode cX12_blank 55 = .ok (.iconst 1, 1) := by decide +kernel
theorem dX12_blank_56 : decode cX12_blank 56 = .ok (.iconst 2, 1) := by decide +kernel
theorem dX12_blank_57 : decode cX12_blank 57 = .ok (.iastore, 1) := by decide +kernel
theorem dX12_blank_58 : decode cX12_blank 58 = .ok (.iconst 0, 1) := by decide +kernel
theorem dX12_blank_59 : decode cX12_blank 59 = .ok (.istore_n 2, 1) := by decide +kernel
theorem dX12_blank_60 : decode cX12_blank 60 = .ok (.iload_n 2, 1) := by decide +kernel
theorem dX12_blank_61 : decode cX12_blank 61 = .ok (.iconst 4, 1) := by decide +kernel
theorem dX12_blank_62 : decode cX12_blank 62 = .ok (.if_icmp .ge 19, 3) := by decide +kernel
theorem dX12_blank_65 : decode cX12_blank 65 = .ok (.aload_n 0, 1) := by decide +kernel
theorem dX12_blank_66 : decode cX12_blank 66 = .ok (.getfield 38, 3) := by decide +kernel
theorem dX12_blank_69 : decode cX12_blank 69 = .ok (.iconst 3, 1) := by decide +kernel
theorem dX12_blank_70 : decode cX12_blank 70 = .ok (.iload_n 2, 1) := by decide +kernel
theorem dX12_blank_71 : decode cX12_blank 71 = .ok (.iadd, 1) := by decide +kernel
theorem dX12_blank_72 : decode cX12_blank 72 = .ok (.bipush 20, 2) := by decide +kernel
theorem dX12_blank_74 : decode cX12_blank 74 = .ok (.iastore, 1) := by decide +kernel
theorem dX12_blank_75 : decode cX12_blank 75 = .ok (.iinc 2 1, 3) := by decide +kernel
theorem dX12_blank_78 : decode cX12_blank 78 = .ok (.goto (-18), 3) := by decide +kernel
theorem dX12_blank_81 : decode cX12_blank 81 = .ok (.iconst 0, 1) := by decide +kernel
theorem dX12_blank_82 : decode cX12_blank 82 = .ok (.istore_n 2, 1) := by decide +kernel
theorem dX12_blank_83 : decode cX12_blank 83 = .ok (.iload_n 2, 1) := by decide +kernel
theorem dX12_blank_84 : decode cX12_blank 84 = .ok (.bipush 40, 2) := by decide +kernel
theorem dX12_blank_86 : decode cX12_blank 86 = .ok (.if_icmp .ge 29, 3) := by decide +kernel
theorem dX12_blank_89 : decode cX12_blank 89 = .ok (.aload_n 0, 1) := by decide +kernel
theorem dX12_blank_90 : decode cX12_blank 90 = .ok (.getfield 38, 3) := by decide +kernel
theorem dX12_blank_93 : decode cX12_blank 93 = .ok (.bipush 31, 2) := by decide +kernel
theorem dX12_blank_95 : decode cX12_blank 95 = .ok (.iload_n 2, 1) := by decide +kernel
theorem dX12_blank_96 : decode cX12_blank 96 = .ok (.iadd, 1) := by decide +kernel
theorem dX12_blank_97 : decode cX12_blank 97 = .ok (.iconst 1, 1) := by decide +kernel
theorem dX12_blank_98 : decode cX12_blank 98 = .ok (.iastore, 1) := by decide +kernel
theorem dX12_blank_99 : decode cX12_blank 99 = .ok (.aload_n 0, 1) := by decide +kernel
theorem dX12_blank_100 : decode cX12_blank 100 = .ok (.getfield 38, 3) := by decide +kernel
theorem dX12_blank_103 : decode cX12_blank 103 = .ok (.bipush 71, 2) := by decide +kernel
theorem dX12_blank_105 : decode cX12_blank 105 = .ok (.iload_n 2, 1) := by decide +kernel
theorem dX12_blank_106 : decode cX12_blank 106 = .ok (.iadd, 1) := by decide +kernel
theorem dX12_blank_107 : decode cX12_blank 107 = .ok (.iconst (-1), 1) := by decide +kernel
theorem dX12_blank_108 : decode cX12_blank 108 = .ok (.iastore, 1) := by decide +kernel
theorem dX12_blank_109 : decode cX12_blank 109 = .ok (.iinc 2 1, 3) := by decide +kernel
theorem dX12_blank_112 : decode cX12_blank 112 = .ok (.goto (-29), 3) := by decide +kernel
theorem dX12_blank_115 : decode cX12_blank 115 = .ok (.return_, 1) := by decide +kernel
theorem dX12_store_0 : decode cX12_store 0 = .ok (.iconst 0, 1) := by decide +kernel
theorem dX12_store_1 : decode cX12_store 1 = .ok (.istore 4, 2) := by decide +kernel
theorem dX12_store_3 : decode cX12_store 3 = .ok (.iload 4, 2) := by decide +kernel
theorem dX12_store_5 : decode cX12_store 5 = .ok (.iload_n 2, 1) := by decide +kernel
theorem dX12_store_6 : decode cX12_store 6 = .ok (.if_icmp .ge 24, 3) := by decide +kernel
theorem dX12_store_9 : decode cX12_store 9 = .ok (.aload_n 1, 1) := by decide +kernel
theorem dX12_store_10 : decode cX12_store 10 = .ok (.iload_n 2, 1) := by decide +kernel
theorem dX12_store_11 : decode cX12_store 11 = .ok (.iload_n 3, 1) := by decide +kernel
theorem dX12_store_12 : decode cX12_store 12 = .ok (.imul, 1) := by decide +kernel
theorem dX12_store_13 : decode cX12_store 13 = .ok (.iload 4, 2) := by decide +kernel
theorem dX12_store_15 : decode cX12_store 15 = .ok (.iadd, 1) := by decide +kernel
theorem dX12_store_16 : decode cX12_store 16 = .ok (.aload_n 0, 1) := by decide +kernel
theorem dX12_store_17 : decode cX12_store 17 = .ok (.getfield 38, 3) := by decide +kernel
theorem dX12_store_20 : decode cX12_store 20 = .ok (.iload 4, 2) := by decide +kernel
theorem dX12_store_22 : decode cX12_store 22 = .ok (.iaload, 1) := by decide +kernel
theorem dX12_store_23 : decode cX12_store 23 = .ok (.iastore, 1) := by decide +kernel
theorem dX12_store_24 : decode cX12_store 24 = .ok (.iinc 4 1, 3) := by decide +kernel
theorem dX12_store_27 : decode cX12_store 27 = .ok (.goto (-24), 3) := by decide +kernel
theorem dX12_store_30 : decode cX12_store 30 = .ok (.return_, 1) := by decide +kernel
theorem dX12_fault_0 : decode cX12_fault 0 = .ok (.aload_n 0, 1) := by decide +kernel
theorem dX12_fault_1 : decode cX12_fault 1 = .ok (.iconst 0, 1) := by decide +kernel
theorem dX12_fault_2 : decode cX12_fault 2 = .ok (.putfield 100, 3) := by decide +kernel
theorem dX12_fault_5 : decode cX12_fault 5 = .ok (.iload_n 1, 1) := by decide +kernel
theorem dX12_fault_6 : decode cX12_fault 6 = .ok (.ifCond .ne 12, 3) := by decide +kernel
theorem dX12_fault_9 : decode cX12_fault 9 = .ok (.aload_n 0, 1) := by decide +kernel
theorem dX12_fault_10 : decode cX12_fault 10 = .ok (.getfield 17, 3) := by decide +kernel
theorem dX12_fault_13 : decode cX12_fault 13 = .ok (.iconst 0, 1) := by decide +kernel
theorem dX12_fault_14 : decode cX12_fault 14 = .ok (.iaload, 1) := by decide +kernel
theorem dX12_fault_15 : decode cX12_fault 15 = .ok (.goto 18, 3) := by decide +kernel
theorem dX12_fault_18 : decode cX12_fault 18 = .ok (.iload_n 1, 1) := by decide +kernel
theorem dX12_fault_19 : decode cX12_fault 19 = .ok (.iconst 1, 1) := by decide +kernel
theorem dX12_fault_20 : decode cX12_fault 20 = .ok (.if_icmp .ne 12, 3) := by decide +kernel
theorem dX12_fault_23 : decode cX12_fault 23 = .ok (.aload_n 0, 1) := by decide +kernel
theorem dX12_fault_24 : decode cX12_fault 24 = .ok (.getfield 20, 3) := by decide +kernel
theorem dX12_fault_27 : decode cX12_fault 27 = .ok (.iconst 0, 1) := by decide +kernel
theorem dX12_fault_28 : decode cX12_fault 28 = .ok (.iaload, 1) := by decide +kernel
theorem dX12_fault_29 : decode cX12_fault 29 = .ok (.goto 4, 3) := by decide +kernel
theorem dX12_fault_32 : decode cX12_fault 32 = .ok (.iconst (-1), 1) := by decide +kernel
theorem dX12_fault_33 : decode cX12_fault 33 = .ok (.ireturn, 1) := by decide +kernel
theorem dX12_of_0 : decode cX12_of 0 = .ok (.aload_n 0, 1) := by decide +kernel
theorem dX12_of_1 : decode cX12_of 1 = .ok (.getfield 26, 3) := by decide +kernel
theorem dX12_of_4 : decode cX12_of 4 = .ok (.bipush 111, 2) := by decide +kernel
theorem dX12_of_6 : decode cX12_of 6 = .ok (.aload_n 0, 1) := by decide +kernel
theorem dX12_of_7 : decode cX12_of 7 = .ok (.getfield 276, 3) := by decide +kernel
theorem dX12_of_10 : decode cX12_of 10 = .ok (.imul, 1) := by decide +kernel
theorem dX12_of_11 : decode cX12_of 11 = .ok (.iload_n 1, 1) := by decide +kernel
theorem dX12_of_12 : decode cX12_of 12 = .ok (.iadd, 1) := by decide +kernel
theorem dX12_of_13 : decode cX12_of 13 = .ok (.iaload, 1) := by decide +kernel
theorem dX12_of_14 : decode cX12_of 14 = .ok (.ireturn, 1) := by decide +kernel
theorem dX12_deeds_0 : decode cX12_deeds 0 = .ok (.aload_n 0, 1) := by decide +kernel
theorem dX12_deeds_1 : decode cX12_deeds 1 = .ok (.getfield 29, 3) := by decide +kernel
theorem dX12_deeds_4 : decode cX12_deeds 4 = .ok (.sipush 161, 3) := by decide +kernel
theorem dX12_deeds_7 : decode cX12_deeds 7 = .ok (.aload_n 0, 1) := by decide +kernel
theorem dX12_deeds_8 : decode cX12_deeds 8 = .ok (.getfield 301, 3) := by decide +kernel
theorem dX12_deeds_11 : decode cX12_deeds 11 = .ok (.imul, 1) := by decide +kernel
theorem dX12_deeds_12 : decode cX12_deeds 12 = .ok (.iaload, 1) := by decide +kernel
theorem dX12_deeds_13 : decode cX12_deeds 13 = .ok (.ireturn, 1) := by decide +kernel
theorem dX12_deedOf_0 : decode cX12_deedOf 0 = .ok (.aload_n 0, 1) := by decide +kernel
theorem dX12_deedOf_1 : decode cX12_deedOf 1 = .ok (.getfield 29, 3) := by decide +kernel
theorem dX12_deedOf_4 : decode cX12_deedOf 4 = .ok (.sipush 161, 3) := by decide +kernel
theorem dX12_deedOf_7 : decode cX12_deedOf 7 = .ok (.aload_n 0, 1) := by decide +kernel
theorem dX12_deedOf_8 : decode cX12_deedOf 8 = .ok (.getfield 301, 3) := by decide +kernel
theorem dX12_deedOf_11 : decode cX12_deedOf 11 = .ok (.imul, 1) := by decide +kernel
theorem dX12_deedOf_12 : decode cX12_deedOf 12 = .ok (.iconst 1, 1) := by decide +kernel
theorem dX12_deedOf_13 : decode cX12_deedOf 13 = .ok (.iadd, 1) := by decide +kernel
theorem dX12_deedOf_14 : decode cX12_deedOf 14 = .ok (.iconst 4, 1) := by decide +kernel
theorem dX12_deedOf_15 : decode cX12_deedOf 15 = .ok (.iload_n 1, 1) := by decide +kernel
theorem dX12_deedOf_16 : decode cX12_deedOf 16 = .ok (.imul, 1) := by decide +kernel
theorem dX12_deedOf_17 : decode cX12_deedOf 17 = .ok (.iadd, 1) := by decide +kernel
theorem dX12_deedOf_18 : decode cX12_deedOf 18 = .ok (.iload_n 2, 1) := by decide +kernel
theorem dX12_deedOf_19 : decode cX12_deedOf 19 = .ok (.iadd, 1) := by decide +kernel
theorem dX12_deedOf_20 : decode cX12_deedOf 20 = .ok (.iaload, 1) := by decide +kernel
theorem dX12_deedOf_21 : decode cX12_deedOf 21 = .ok (.ireturn, 1) := by decide +kernel
theorem dX12_opens_0 : decode cX12_opens 0 = .ok (.aload_n 0, 1) := by decide +kernel
theorem dX12_opens_1 : decode cX12_opens 1 = .ok (.iconst (-1), 1) := by decide +kernel
theorem dX12_opens_2 : decode cX12_opens 2 = .ok (.putfield 313, 3) := by decide +kernel
theorem dX12_opens_5 : decode cX12_opens 5 = .ok (.iconst 0, 1) := by decide +kernel
theorem dX12_opens_6 : decode cX12_opens 6 = .ok (.istore_n 1, 1) := by decide +kernel
theorem dX12_opens_7 : decode cX12_opens 7 = .ok (.iload_n 1, 1) := by decide +kernel
theorem dX12_opens_8 : decode cX12_opens 8 = .ok (.iconst 4, 1) := by decide +kernel
theorem dX12_opens_9 : decode cX12_opens 9 = .ok (.if_icmp .ge 16, 3) := by decide +kernel
theorem dX12_opens_12 : decode cX12_opens 12 = .ok (.aload_n 0, 1) := by decide +kernel
theorem dX12_opens_13 : decode cX12_opens 13 = .ok (.getfield 60, 3) := by decide +kernel
theorem dX12_opens_16 : decode cX12_opens 16 = .ok (.iload_n 1, 1) := by decide +kernel
theorem dX12_opens_17 : decode cX12_opens 17 = .ok (.iconst 0, 1) := by decide +kernel
theorem dX12_opens_18 : decode cX12_opens 18 = .ok (.iastore, 1) := by decide +kernel
theorem dX12_opens_19 : decode cX12_opens 19 = .ok (.iinc 1 1, 3) := by decide +kernel
theorem dX12_opens_22 : decode cX12_opens 22 = .ok (.goto (-15), 3) := by decide +kernel
theorem dX12_opens_25 : decode cX12_opens 25 = .ok (.iconst 0, 1) := by decide +kernel
theorem dX12_opens_26 : decode cX12_opens 26 = .ok (.istore_n 1, 1) := by decide +kernel
theorem dX12_opens_27 : decode cX12_opens 27 = .ok (.iload_n 1, 1) := by decide +kernel
theorem dX12_opens_28 : decode cX12_opens 28 = .ok (.bipush 40, 2) := by decide +kernel
theorem dX12_opens_30 : decode cX12_opens 30 = .ok (.if_icmp .ge 16, 3) := by decide +kernel
theorem dX12_opens_33 : decode cX12_opens 33 = .ok (.aload_n 0, 1) := by decide +kernel
theorem dX12_opens_34 : decode cX12_opens 34 = .ok (.getfield 63, 3) := by decide +kernel
theorem dX12_opens_37 : decode cX12_opens 37 = .ok (.iload_n 1, 1) := by decide +kernel
theorem dX12_opens_38 : decode cX12_opens 38 = .ok (.iconst 0, 1) := by decide +kernel
theorem dX12_opens_39 : decode cX12_opens 39 = .ok (.iastore, 1) := by decide +kernel
theorem dX12_opens_40 : decode cX12_opens 40 = .ok (.iinc 1 1, 3) := by decide +kernel
theorem dX12_opens_43 : decode cX12_opens 43 = .ok (.goto (-16), 3) := by decide +kernel
theorem dX12_opens_46 : decode cX12_opens 46 = .ok (.return_, 1) := by decide +kernel
theorem dX12_buys_0 : decode cX12_buys 0 = .ok (.aload_n 0, 1) := by decide +kernel
theorem dX12_buys_1 : decode cX12_buys 1 = .ok (.getfield 50, 3) := by decide +kernel
theorem dX12_buys_4 : decode cX12_buys 4 = .ok (.iload_n 2, 1) := by decide +kernel
theorem dX12_buys_5 : decode cX12_buys 5 = .ok (.iaload, 1) := by decide +kernel
theorem dX12_buys_6 : decode cX12_buys 6 = .ok (.iload_n 1, 1) := by decide +kernel
theorem dX12_buys_7 : decode cX12_buys 7 = .ok (.if_icmp .eq 18, 3) := by decide +kernel
theorem dX12_buys_10 : decode cX12_buys 10 = .ok (.aload_n 0, 1) := by decide +kernel
theorem dX12_buys_11 : decode cX12_buys 11 = .ok (.getfield 44, 3) := by decide +kernel
theorem dX12_buys_14 : decode cX12_buys 14 = .ok (.iload_n 1, 1) := by decide +kernel
theorem dX12_buys_15 : decode cX12_buys 15 = .ok (.iaload, 1) := by decide +kernel
theorem dX12_buys_16 : decode cX12_buys 16 = .ok (.aload_n 0, 1) := by decide +kernel
theorem dX12_buys_17 : decode cX12_buys 17 = .ok (.getfield 47, 3) := by decide +kernel
theorem dX12_buys_20 : decode cX12_buys 20 = .ok (.iload_n 2, 1) := by decide +kernel
theorem dX12_buys_21 : decode cX12_buys 21 = .ok (.iaload, 1) := by decide +kernel
theorem dX12_buys_22 : decode cX12_buys 22 = .ok (.if_icmp .ge 5, 3) := by decide +kernel
theorem dX12_buys_25 : decode cX12_buys 25 = .ok (.iconst 0, 1) := by decide +kernel
theorem dX12_buys_26 : decode cX12_buys 26 = .ok (.ireturn, 1) := by decide +kernel
theorem dX12_buys_27 : decode cX12_buys 27 = .ok (.aload_n 0, 1) := by decide +kernel
theorem dX12_buys_28 : decode cX12_buys 28 = .ok (.getfield 44, 3) := by decide +kernel
theorem dX12_buys_31 : decode cX12_buys 31 = .ok (.iload_n 1, 1) := by decide +kernel
theorem dX12_buys_32 : decode cX12_buys 32 = .ok (.dup2, 1) := by decide +kernel
theorem dX12_buys_33 : decode cX12_buys 33 = .ok (.iaload, 1) := by decide +kernel
theorem dX12_buys_34 : decode cX12_buys 34 = .ok (.aload_n 0, 1) := by decide +kernel
theorem dX12_buys_35 : decode cX12_buys 35 = .ok (.getfield 47, 3) := by decide +kernel
theorem dX12_buys_38 : decode cX12_buys 38 = .ok (.iload_n 2, 1) := by decide +kernel
theorem dX12_buys_39 : decode cX12_buys 39 = .ok (.iaload, 1) := by decide +kernel
theorem dX12_buys_40 : decode cX12_buys 40 = .ok (.isub, 1) := by decide +kernel
theorem dX12_buys_41 : decode cX12_buys 41 = .ok (.iastore, 1) := by decide +kernel
theorem dX12_buys_42 : decode cX12_buys 42 = .ok (.aload_n 0, 1) := by decide +kernel
theorem dX12_buys_43 : decode cX12_buys 43 = .ok (.getfield 50, 3) := by decide +kernel
theorem dX12_buys_46 : decode cX12_buys 46 = .ok (.iload_n 2, 1) := by decide +kernel
theorem dX12_buys_47 : decode cX12_buys 47 = .ok (.iaload, 1) := by decide +kernel
theorem dX12_buys_48 : decode cX12_buys 48 = .ok (.iconst (-1), 1) := by decide +kernel
theorem dX12_buys_49 : decode cX12_buys 49 = .ok (.if_icmp .eq 23, 3) := by decide +kernel
theorem dX12_buys_52 : decode cX12_buys 52 = .ok (.aload_n 0, 1) := by decide +kernel
theorem dX12_buys_53 : decode cX12_buys 53 = .ok (.getfield 44, 3) := by decide +kernel
theorem dX12_buys_56 : decode cX12_buys 56 = .ok (.aload_n 0, 1) := by decide +kernel
theorem dX12_buys_57 : decode cX12_buys 57 = .ok (.getfield 50, 3) := by decide +kernel
theorem dX12_buys_60 : decode cX12_buys 60 = .ok (.iload_n 2, 1) := by decide +kernel
theorem dX12_buys_61 : decode cX12_buys 61 = .ok (.iaload, 1) := by decide +kernel
theorem dX12_buys_62 : decode cX12_buys 62 = .ok (.dup2, 1) := by decide +kernel
theorem dX12_buys_63 : decode cX12_buys 63 = .ok (.iaload, 1) := by decide +kernel
theorem dX12_buys_64 : decode cX12_buys 64 = .ok (.aload_n 0, 1) := by decide +kernel
theorem dX12_buys_65 : decode cX12_buys 65 = .ok (.getfield 47, 3) := by decide +kernel
theorem dX12_buys_68 : decode cX12_buys 68 = .ok (.iload_n 2, 1) := by decide +kernel
theorem dX12_buys_69 : decode cX12_buys 69 = .ok (.iaload, 1) := by decide +kernel
theorem dX12_buys_70 : decode cX12_buys 70 = .ok (.iadd, 1) := by decide +kernel
theorem dX12_buys_71 : decode cX12_buys 71 = .ok (.iastore, 1) := by decide +kernel
theorem dX12_buys_72 : decode cX12_buys 72 = .ok (.aload_n 0, 1) := by decide +kernel
theorem dX12_buys_73 : decode cX12_buys 73 = .ok (.getfield 50, 3) := by decide +kernel
theorem dX12_buys_76 : decode cX12_buys 76 = .ok (.iload_n 2, 1) := by decide +kernel
theorem dX12_buys_77 : decode cX12_buys 77 = .ok (.iload_n 1, 1) := by decide +kernel
theorem dX12_buys_78 : decode cX12_buys 78 = .ok (.iastore, 1) := by decide +kernel
theorem dX12_buys_79 : decode cX12_buys 79 = .ok (.aload_n 0, 1) := by decide +kernel
theorem dX12_buys_80 : decode cX12_buys 80 = .ok (.getfield 63, 3) := by decide +kernel
theorem dX12_buys_83 : decode cX12_buys 83 = .ok (.iload_n 2, 1) := by decide +kernel
theorem dX12_buys_84 : decode cX12_buys 84 = .ok (.dup2, 1) := by decide +kernel
theorem dX12_buys_85 : decode cX12_buys 85 = .ok (.iaload, 1) := by decide +kernel
theorem dX12_buys_86 : decode cX12_buys 86 = .ok (.iconst 1, 1) := by decide +kernel
theorem dX12_buys_87 : decode cX12_buys 87 = .ok (.iadd, 1) := by decide +kernel
theorem dX12_buys_88 : decode cX12_buys 88 = .ok (.iastore, 1) := by decide +kernel
theorem dX12_buys_89 : decode cX12_buys 89 = .ok (.iconst 1, 1) := by decide +kernel
theorem dX12_buys_90 : decode cX12_buys 90 = .ok (.ireturn, 1) := by decide +kernel
theorem dX12_steals_0 : decode cX12_steals 0 = .ok (.aload_n 0, 1) := by decide +kernel
theorem dX12_steals_1 : decode cX12_steals 1 = .ok (.getfield 50, 3) := by decide +kernel
theorem dX12_steals_4 : decode cX12_steals 4 = .ok (.iload_n 2, 1) := by decide +kernel
theorem dX12_steals_5 : decode cX12_steals 5 = .ok (.iaload, 1) := by decide +kernel
theorem dX12_steals_6 : decode cX12_steals 6 = .ok (.iconst (-1), 1) := by decide +kernel
theorem dX12_steals_7 : decode cX12_steals 7 = .ok (.if_icmp .eq 13, 3) := by decide +kernel
theorem dX12_steals_10 : decode cX12_steals 10 = .ok (.aload_n 0, 1) := by decide +kernel
theorem dX12_steals_11 : decode cX12_steals 11 = .ok (.getfield 50, 3) := by decide +kernel
theorem dX12_steals_14 : decode cX12_steals 14 = .ok (.iload_n 2, 1) := by decide +kernel
theorem dX12_steals_15 : decode cX12_steals 15 = .ok (.iaload, 1) := by decide +kernel
theorem dX12_steals_16 : decode cX12_steals 16 = .ok (.iload_n 1, 1) := by decide +kernel
theorem dX12_steals_17 : decode cX12_steals 17 = .ok (.if_icmp .ne 5, 3) := by decide +kernel
theorem dX12_steals_20 : decode cX12_steals 20 = .ok (.iconst 0, 1) := by decide +kernel
theorem dX12_steals_21 : decode cX12_steals 21 = .ok (.ireturn, 1) := by decide +kernel
theorem dX12_steals_22 : decode cX12_steals 22 = .ok (.aload_n 0, 1) := by decide +kernel
theorem dX12_steals_23 : decode cX12_steals 23 = .ok (.getfield 60, 3) := by decide +kernel
theorem dX12_steals_26 : decode cX12_steals 26 = .ok (.aload_n 0, 1) := by decide +kernel
theorem dX12_steals_27 : decode cX12_steals 27 = .ok (.getfield 50, 3) := by decide +kernel
theorem dX12_steals_30 : decode cX12_steals 30 = .ok (.iload_n 2, 1) := by decide +kernel
theorem dX12_steals_31 : decode cX12_steals 31 = .ok (.iaload, 1) := by decide +kernel
theorem dX12_steals_32 : decode cX12_steals 32 = .ok (.dup2, 1) := by decide +kernel
theorem dX12_steals_33 : decode cX12_steals 33 = .ok (.iaload, 1) := by decide +kernel
theorem dX12_steals_34 : decode cX12_steals 34 = .ok (.iconst 1, 1) := by decide +kernel
theorem dX12_steals_35 : decode cX12_steals 35 = .ok (.iadd, 1) := by decide +kernel
theorem dX12_steals_36 : decode cX12_steals 36 = .ok (.iastore, 1) := by decide +kernel
theorem dX12_steals_37 : decode cX12_steals 37 = .ok (.aload_n 0, 1) := by decide +kernel
theorem dX12_steals_38 : decode cX12_steals 38 = .ok (.getfield 50, 3) := by decide +kernel
theorem dX12_steals_41 : decode cX12_steals 41 = .ok (.iload_n 2, 1) := by decide +kernel
theorem dX12_steals_42 : decode cX12_steals 42 = .ok (.iload_n 1, 1) := by decide +kernel
theorem dX12_steals_43 : decode cX12_steals 43 = .ok (.iastore, 1) := by decide +kernel
theorem dX12_steals_44 : decode cX12_steals 44 = .ok (.aload_n 0, 1) := by decide +kernel
theorem dX12_steals_45 : decode cX12_steals 45 = .ok (.getfield 63, 3) := by decide +kernel
theorem dX12_steals_48 : decode cX12_steals 48 = .ok (.iload_n 2, 1) := by decide +kernel
theorem dX12_steals_49 : decode cX12_steals 49 = .ok (.dup2, 1) := by decide +kernel
theorem dX12_steals_50 : decode cX12_steals 50 = .ok (.iaload, 1) := by decide +kernel
theorem dX12_steals_51 : decode cX12_steals 51 = .ok (.iconst 1, 1) := by decide +kernel
theorem dX12_steals_52 : decode cX12_steals 52 = .ok (.iadd, 1) := by decide +kernel
theorem dX12_steals_53 : decode cX12_steals 53 = .ok (.iastore, 1) := by decide +kernel
theorem dX12_steals_54 : decode cX12_steals 54 = .ok (.iconst 1, 1) := by decide +kernel
theorem dX12_steals_55 : decode cX12_steals 55 = .ok (.ireturn, 1) := by decide +kernel
theorem dX12_sells_0 : decode cX12_sells 0 = .ok (.aload_n 0, 1) := by decide +kernel
theorem dX12_sells_1 : decode cX12_sells 1 = .ok (.getfield 50, 3) := by decide +kernel
theorem dX12_sells_4 : decode cX12_sells 4 = .ok (.iload_n 2, 1) := by decide +kernel
theorem dX12_sells_5 : decode cX12_sells 5 = .ok (.iaload, 1) := by decide +kernel
theorem dX12_sells_6 : decode cX12_sells 6 = .ok (.iload_n 1, 1) := by decide +kernel
theorem dX12_sells_7 : decode cX12_sells 7 = .ok (.if_icmp .eq 5, 3) := by decide +kernel
theorem dX12_sells_10 : decode cX12_sells 10 = .ok (.iconst 0, 1) := by decide +kernel
theorem dX12_sells_11 : decode cX12_sells 11 = .ok (.ireturn, 1) := by decide +kernel
theorem dX12_sells_12 : decode cX12_sells 12 = .ok (.aload_n 0, 1) := by decide +kernel
theorem dX12_sells_13 : decode cX12_sells 13 = .ok (.getfield 50, 3) := by decide +kernel
theorem dX12_sells_16 : decode cX12_sells 16 = .ok (.iload_n 2, 1) := by decide +kernel
theorem dX12_sells_17 : decode cX12_sells 17 = .ok (.iconst (-1), 1) := by decide +kernel
theorem dX12_sells_18 : decode cX12_sells 18 = .ok (.iastore, 1) := by decide +kernel
theorem dX12_sells_19 : decode cX12_sells 19 = .ok (.aload_n 0, 1) := by decide +kernel
theorem dX12_sells_20 : decode cX12_sells 20 = .ok (.getfield 44, 3) := by decide +kernel
theorem dX12_sells_23 : decode cX12_sells 23 = .ok (.iload_n 1, 1) := by decide +kernel
theorem dX12_sells_24 : decode cX12_sells 24 = .ok (.dup2, 1) := by decide +kernel
theorem dX12_sells_25 : decode cX12_sells 25 = .ok (.iaload, 1) := by decide +kernel
theorem dX12_sells_26 : decode cX12_sells 26 = .ok (.aload_n 0, 1) := by decide +kernel
theorem dX12_sells_27 : decode cX12_sells 27 = .ok (.getfield 47, 3) := by decide +kernel
theorem dX12_sells_30 : decode cX12_sells 30 = .ok (.iload_n 2, 1) := by decide +kernel
theorem dX12_sells_31 : decode cX12_sells 31 = .ok (.iaload, 1) := by decide +kernel
theorem dX12_sells_32 : decode cX12_sells 32 = .ok (.iadd, 1) := by decide +kernel
theorem dX12_sells_33 : decode cX12_sells 33 = .ok (.iastore, 1) := by decide +kernel
theorem dX12_sells_34 : decode cX12_sells 34 = .ok (.aload_n 0, 1) := by decide +kernel
theorem dX12_sells_35 : decode cX12_sells 35 = .ok (.getfield 63, 3) := by decide +kernel
theorem dX12_sells_38 : decode cX12_sells 38 = .ok (.iload_n 2, 1) := by decide +kernel
theorem dX12_sells_39 : decode cX12_sells 39 = .ok (.dup2, 1) := by decide +kernel
theorem dX12_sells_40 : decode cX12_sells 40 = .ok (.iaload, 1) := by decide +kernel
theorem dX12_sells_41 : decode cX12_sells 41 = .ok (.iconst 1, 1) := by decide +kernel
theorem dX12_sells_42 : decode cX12_sells 42 = .ok (.iadd, 1) := by decide +kernel
theorem dX12_sells_43 : decode cX12_sells 43 = .ok (.iastore, 1) := by decide +kernel
theorem dX12_sells_44 : decode cX12_sells 44 = .ok (.iconst 1, 1) := by decide +kernel
theorem dX12_sells_45 : decode cX12_sells 45 = .ok (.ireturn, 1) := by decide +kernel
theorem dX12_thinks_0 : decode cX12_thinks 0 = .ok (.aload_n 0, 1) := by decide +kernel
theorem dX12_thinks_1 : decode cX12_thinks 1 = .ok (.getfield 50, 3) := by decide +kernel
theorem dX12_thinks_4 : decode cX12_thinks 4 = .ok (.iload_n 2, 1) := by decide +kernel
theorem dX12_thinks_5 : decode cX12_thinks 5 = .ok (.iaload, 1) := by decide +kernel
theorem dX12_thinks_6 : decode cX12_thinks 6 = .ok (.iload_n 1, 1) := by decide +kernel
theorem dX12_thinks_7 : decode cX12_thinks 7 = .ok (.if_icmp .eq 5, 3) := by decide +kernel
theorem dX12_thinks_10 : decode cX12_thinks 10 = .ok (.iconst 0, 1) := by decide +kernel
theorem dX12_thinks_11 : decode cX12_thinks 11 = .ok (.ireturn, 1) := by decide +kernel
theorem dX12_thinks_12 : decode cX12_thinks 12 = .ok (.aload_n 0, 1) := by decide +kernel
theorem dX12_thinks_13 : decode cX12_thinks 13 = .ok (.getfield 53, 3) := by decide +kernel
theorem dX12_thinks_16 : decode cX12_thinks 16 = .ok (.iload_n 2, 1) := by decide +kernel
theorem dX12_thinks_17 : decode cX12_thinks 17 = .ok (.iconst 1, 1) := by decide +kernel
theorem dX12_thinks_18 : decode cX12_thinks 18 = .ok (.bastore, 1) := by decide +kernel
theorem dX12_thinks_19 : decode cX12_thinks 19 = .ok (.aload_n 0, 1) := by decide +kernel
theorem dX12_thinks_20 : decode cX12_thinks 20 = .ok (.aload_n 0, 1) := by decide +kernel
theorem dX12_thinks_21 : decode cX12_thinks 21 = .ok (.getfield 313, 3) := by decide +kernel
theorem dX12_thinks_24 : decode cX12_thinks 24 = .ok (.iconst (-1), 1) := by decide +kernel
theorem dX12_thinks_25 : decode cX12_thinks 25 = .ok (.if_icmp .ne 7, 3) := by decide +kernel
theorem dX12_thinks_28 : decode cX12_thinks 28 = .ok (.iload_n 1, 1) := by decide +kernel
theorem dX12_thinks_29 : decode cX12_thinks 29 = .ok (.goto 7, 3) := by decide +kernel
theorem dX12_thinks_32 : decode cX12_thinks 32 = .ok (.aload_n 0, 1) := by decide +kernel
theorem dX12_thinks_33 : decode cX12_thinks 33 = .ok (.getfield 313, 3) := by decide +kernel
theorem dX12_thinks_36 : decode cX12_thinks 36 = .ok (.putfield 313, 3) := by decide +kernel
theorem dX12_thinks_39 : decode cX12_thinks 39 = .ok (.iconst 1, 1) := by decide +kernel
theorem dX12_thinks_40 : decode cX12_thinks 40 = .ok (.ireturn, 1) := by decide +kernel
theorem dX12_minutesOf_0 : decode cX12_minutesOf 0 = .ok (.iconst 0, 1) := by decide +kernel
theorem dX12_minutesOf_1 : decode cX12_minutesOf 1 = .ok (.istore_n 2, 1) := by decide +kernel
theorem dX12_minutesOf_2 : decode cX12_minutesOf 2 = .ok (.iconst 0, 1) := by decide +kernel
theorem dX12_minutesOf_3 : decode cX12_minutesOf 3 = .ok (.istore_n 3, 1) := by decide +kernel
theorem dX12_minutesOf_4 : decode cX12_minutesOf 4 = .ok (.iload_n 3, 1) := by decide +kernel
theorem dX12_minutesOf_5 : decode cX12_minutesOf 5 = .ok (.aload_n 0, 1) := by decide +kernel
theorem dX12_minutesOf_6 : decode cX12_minutesOf 6 = .ok (.getfield 283, 3) := by decide +kernel
theorem dX12_minutesOf_9 : decode cX12_minutesOf 9 = .ok (.if_icmp .ge 27, 3) := by decide +kernel
theorem dX12_minutesOf_12 : decode cX12_minutesOf 12 = .ok (.iload_n 2, 1) := by decide +kernel
theorem dX12_minutesOf_13 : decode cX12_minutesOf 13 = .ok (.aload_n 0, 1) := by decide +kernel
theorem dX12_minutesOf_14 : decode cX12_minutesOf 14 = .ok (.getfield 50, 3) := by decide +kernel
theorem dX12_minutesOf_17 : decode cX12_minutesOf 17 = .ok (.iload_n 3, 1) := by decide +kernel
theorem dX12_minutesOf_18 : decode cX12_minutesOf 18 = .ok (.iaload, 1) := by decide +kernel
theorem dX12_minutesOf_19 : decode cX12_minutesOf 19 = .ok (.iload_n 1, 1) := by decide +kernel
theorem dX12_minutesOf_20 : decode cX12_minutesOf 20 = .ok (.if_icmp .ne 7, 3) := by decide +kernel
theorem dX12_minutesOf_23 : decode cX12_minutesOf 23 = .ok (.iconst 1, 1) := by decide +kernel
theorem dX12_minutesOf_24 : decode cX12_minutesOf 24 = .ok (.goto 4, 3) := by decide +kernel
theorem dX12_minutesOf_27 : decode cX12_minutesOf 27 = .ok (.iconst 0, 1) := by decide +kernel
theorem dX12_minutesOf_28 : decode cX12_minutesOf 28 = .ok (.iadd, 1) := by decide +kernel
theorem dX12_minutesOf_29 : decode cX12_minutesOf 29 = .ok (.istore_n 2, 1) := by decide +kernel
theorem dX12_minutesOf_30 : decode cX12_minutesOf 30 = .ok (.iinc 3 1, 3) := by decide +kernel
theorem dX12_minutesOf_33 : decode cX12_minutesOf 33 = .ok (.goto (-29), 3) := by decide +kernel
theorem dX12_minutesOf_36 : decode cX12_minutesOf 36 = .ok (.iload_n 2, 1) := by decide +kernel
theorem dX12_minutesOf_37 : decode cX12_minutesOf 37 = .ok (.ireturn, 1) := by decide +kernel
theorem dX12_ofAll_0 : decode cX12_ofAll 0 = .ok (.iconst 0, 1) := by decide +kernel
theorem dX12_ofAll_1 : decode cX12_ofAll 1 = .ok (.istore_n 2, 1) := by decide +kernel
theorem dX12_ofAll_2 : decode cX12_ofAll 2 = .ok (.iconst 0, 1) := by decide +kernel
theorem dX12_ofAll_3 : decode cX12_ofAll 3 = .ok (.istore_n 3, 1) := by decide +kernel
theorem dX12_ofAll_4 : decode cX12_ofAll 4 = .ok (.iload_n 3, 1) := by decide +kernel
theorem dX12_ofAll_5 : decode cX12_ofAll 5 = .ok (.aload_n 0, 1) := by decide +kernel
theorem dX12_ofAll_6 : decode cX12_ofAll 6 = .ok (.getfield 283, 3) := by decide +kernel
theorem dX12_ofAll_9 : decode cX12_ofAll 9 = .ok (.if_icmp .ge 30, 3) := by decide +kernel
theorem dX12_ofAll_12 : decode cX12_ofAll 12 = .ok (.iload_n 1, 1) := by decide +kernel
theorem dX12_ofAll_13 : decode cX12_ofAll 13 = .ok (.ifCond .ne 26, 3) := by decide +kernel
theorem dX12_ofAll_16 : decode cX12_ofAll 16 = .ok (.iload_n 2, 1) := by decide +kernel
theorem dX12_ofAll_17 : decode cX12_ofAll 17 = .ok (.aload_n 0, 1) := by decide +kernel
theorem dX12_ofAll_18 : decode cX12_ofAll 18 = .ok (.getfield 53, 3) := by decide +kernel
theorem dX12_ofAll_21 : decode cX12_ofAll 21 = .ok (.iload_n 3, 1) := by decide +kernel
theorem dX12_ofAll_22 : decode cX12_ofAll 22 = .ok (.baload, 1) := by decide +kernel
theorem dX12_ofAll_23 : decode cX12_ofAll 23 = .ok (.ifCond .eq 7, 3) := by decide +kernel
theorem dX12_ofAll_26 : decode cX12_ofAll 26 = .ok (.iconst 1, 1) := by decide +kernel
theorem dX12_ofAll_27 : decode cX12_ofAll 27 = .ok (.goto 4, 3) := by decide +kernel
theorem dX12_ofAll_30 : decode cX12_ofAll 30 = .ok (.iconst 0, 1) := by decide +kernel
theorem dX12_ofAll_31 : decode cX12_ofAll 31 = .ok (.iadd, 1) := by decide +kernel
theorem dX12_ofAll_32 : decode cX12_ofAll 32 = .ok (.istore_n 2, 1) := by decide +kernel
theorem dX12_ofAll_33 : decode cX12_ofAll 33 = .ok (.iinc 3 1, 3) := by decide +kernel
theorem dX12_ofAll_36 : decode cX12_ofAll 36 = .ok (.goto (-32), 3) := by decide +kernel
theorem dX12_ofAll_39 : decode cX12_ofAll 39 = .ok (.iconst 0, 1) := by decide +kernel
theorem dX12_ofAll_40 : decode cX12_ofAll 40 = .ok (.istore_n 3, 1) := by decide +kernel
theorem dX12_ofAll_41 : decode cX12_ofAll 41 = .ok (.iload_n 3, 1) := by decide +kernel
theorem dX12_ofAll_42 : decode cX12_ofAll 42 = .ok (.aload_n 0, 1) := by decide +kernel
theorem dX12_ofAll_43 : decode cX12_ofAll 43 = .ok (.getfield 289, 3) := by decide +kernel
theorem dX12_ofAll_46 : decode cX12_ofAll 46 = .ok (.if_icmp .ge 32, 3) := by decide +kernel
theorem dX12_ofAll_49 : decode cX12_ofAll 49 = .ok (.iload_n 1, 1) := by decide +kernel
theorem dX12_ofAll_50 : decode cX12_ofAll 50 = .ok (.iconst 1, 1) := by decide +kernel
theorem dX12_ofAll_51 : decode cX12_ofAll 51 = .ok (.if_icmp .ne 27, 3) := by decide +kernel
theorem dX12_ofAll_54 : decode cX12_ofAll 54 = .ok (.iload_n 2, 1) := by decide +kernel
theorem dX12_ofAll_55 : decode cX12_ofAll 55 = .ok (.aload_n 0, 1) := by decide +kernel
theorem dX12_ofAll_56 : decode cX12_ofAll 56 = .ok (.getfield 57, 3) := by decide +kernel
theorem dX12_ofAll_59 : decode cX12_ofAll 59 = .ok (.iload_n 3, 1) := by decide +kernel
theorem dX12_ofAll_60 : decode cX12_ofAll 60 = .ok (.iaload, 1) := by decide +kernel
theorem dX12_ofAll_61 : decode cX12_ofAll 61 = .ok (.iconst (-1), 1) := by decide +kernel
theorem dX12_ofAll_62 : decode cX12_ofAll 62 = .ok (.if_icmp .eq 7, 3) := by decide +kernel
theorem dX12_ofAll_65 : decode cX12_ofAll 65 = .ok (.iconst 1, 1) := by decide +kernel
theorem dX12_ofAll_66 : decode cX12_ofAll 66 = .ok (.goto 4, 3) := by decide +kernel
theorem dX12_ofAll_69 : decode cX12_ofAll 69 = .ok (.iconst 0, 1) := by decide +kernel
theorem dX12_ofAll_70 : decode cX12_ofAll 70 = .ok (.iadd, 1) := by decide +kernel
theorem dX12_ofAll_71 : decode cX12_ofAll 71 = .ok (.istore_n 2, 1) := by decide +kernel
theorem dX12_ofAll_72 : decode cX12_ofAll 72 = .ok (.iinc 3 1, 3) := by decide +kernel
theorem dX12_ofAll_75 : decode cX12_ofAll 75 = .ok (.goto (-34), 3) := by decide +kernel
theorem dX12_ofAll_78 : decode cX12_ofAll 78 = .ok (.iconst 0, 1) := by decide +kernel
theorem dX12_ofAll_79 : decode cX12_ofAll 79 = .ok (.istore_n 3, 1) := by decide +kernel
theorem dX12_ofAll_80 : decode cX12_ofAll 80 = .ok (.iload_n 3, 1) := by decide +kernel
theorem dX12_ofAll_81 : decode cX12_ofAll 81 = .ok (.aload_n 0, 1) := by decide +kernel
theorem dX12_ofAll_82 : decode cX12_ofAll 82 = .ok (.getfield 286, 3) := by decide +kernel
theorem dX12_ofAll_85 : decode cX12_ofAll 85 = .ok (.if_icmp .ge 23, 3) := by decide +kernel
theorem dX12_ofAll_88 : decode cX12_ofAll 88 = .ok (.iload_n 1, 1) := by decide +kernel
theorem dX12_ofAll_89 : decode cX12_ofAll 89 = .ok (.iconst 2, 1) := by decide +kernel
theorem dX12_ofAll_90 : decode cX12_ofAll 90 = .ok (.if_icmp .ne 18, 3) := by decide +kernel
theorem dX12_ofAll_93 : decode cX12_ofAll 93 = .ok (.iload_n 2, 1) := by decide +kernel
theorem dX12_ofAll_94 : decode cX12_ofAll 94 = .ok (.aload_n 0, 1) := by decide +kernel
theorem dX12_ofAll_95 : decode cX12_ofAll 95 = .ok (.getfield 44, 3) := by decide +kernel
theorem dX12_ofAll_98 : decode cX12_ofAll 98 = .ok (.iload_n 3, 1) := by decide +kernel
theorem dX12_ofAll_99 : decode cX12_ofAll 99 = .ok (.iaload, 1) := by decide +kernel
theorem dX12_ofAll_100 : decode cX12_ofAll 100 = .ok (.iadd, 1) := by decide +kernel
theorem dX12_ofAll_101 : decode cX12_ofAll 101 = .ok (.istore_n 2, 1) := by decide +kernel
theorem dX12_ofAll_102 : decode cX12_ofAll 102 = .ok (.iinc 3 1, 3) := by decide +kernel
theorem dX12_ofAll_105 : decode cX12_ofAll 105 = .ok (.goto (-25), 3) := by decide +kernel
theorem dX12_ofAll_108 : decode cX12_ofAll 108 = .ok (.iload_n 2, 1) := by decide +kernel
theorem dX12_ofAll_109 : decode cX12_ofAll 109 = .ok (.ireturn, 1) := by decide +kernel
theorem dX12_cost_0 : decode cX12_cost 0 = .ok (.aload_n 0, 1) := by decide +kernel
theorem dX12_cost_1 : decode cX12_cost 1 = .ok (.getfield 50, 3) := by decide +kernel
theorem dX12_cost_4 : decode cX12_cost 4 = .ok (.iload_n 2, 1) := by decide +kernel
theorem dX12_cost_5 : decode cX12_cost 5 = .ok (.iaload, 1) := by decide +kernel
theorem dX12_cost_6 : decode cX12_cost 6 = .ok (.iload_n 1, 1) := by decide +kernel
theorem dX12_cost_7 : decode cX12_cost 7 = .ok (.if_icmp .ne 7, 3) := by decide +kernel
theorem dX12_cost_10 : decode cX12_cost 10 = .ok (.iconst 0, 1) := by decide +kernel
theorem dX12_cost_11 : decode cX12_cost 11 = .ok (.goto 9, 3) := by decide +kernel
theorem dX12_cost_14 : decode cX12_cost 14 = .ok (.aload_n 0, 1) := by decide +kernel
theorem dX12_cost_15 : decode cX12_cost 15 = .ok (.getfield 47, 3) := by decide +kernel
theorem dX12_cost_18 : decode cX12_cost 18 = .ok (.iload_n 2, 1) := by decide +kernel
theorem dX12_cost_19 : decode cX12_cost 19 = .ok (.iaload, 1) := by decide +kernel
theorem dX12_cost_20 : decode cX12_cost 20 = .ok (.ireturn, 1) := by decide +kernel
theorem dX12_leadBy_0 : decode cX12_leadBy 0 = .ok (.iconst 0, 1) := by decide +kernel
theorem dX12_leadBy_1 : decode cX12_leadBy 1 = .ok (.istore_n 3, 1) := by decide +kernel
theorem dX12_leadBy_2 : decode cX12_leadBy 2 = .ok (.iconst 0, 1) := by decide +kernel
theorem dX12_leadBy_3 : decode cX12_leadBy 3 = .ok (.istore 4, 2) := by decide +kernel
theorem dX12_leadBy_5 : decode cX12_leadBy 5 = .ok (.iload 4, 2) := by decide +kernel
theorem dX12_leadBy_7 : decode cX12_leadBy 7 = .ok (.iload_n 2, 1) := by decide +kernel
theorem dX12_leadBy_8 : decode cX12_leadBy 8 = .ok (.if_icmp .ge 21, 3) := by decide +kernel
theorem dX12_leadBy_11 : decode cX12_leadBy 11 = .ok (.iload_n 3, 1) := by decide +kernel
theorem dX12_leadBy_12 : decode cX12_leadBy 12 = .ok (.aload_n 0, 1) := by decide +kernel
theorem dX12_leadBy_13 : decode cX12_leadBy 13 = .ok (.getfield 47, 3) := by decide +kernel
theorem dX12_leadBy_16 : decode cX12_leadBy 16 = .ok (.iload_n 1, 1) := by decide +kernel
theorem dX12_leadBy_17 : decode cX12_leadBy 17 = .ok (.iload 4, 2) := by decide +kernel
theorem dX12_leadBy_19 : decode cX12_leadBy 19 = .ok (.iadd, 1) := by decide +kernel
theorem dX12_leadBy_20 : decode cX12_leadBy 20 = .ok (.iaload, 1) := by decide +kernel
theorem dX12_leadBy_21 : decode cX12_leadBy 21 = .ok (.iadd, 1) := by decide +kernel
theorem dX12_leadBy_22 : decode cX12_leadBy 22 = .ok (.istore_n 3, 1) := by decide +kernel
theorem dX12_leadBy_23 : decode cX12_leadBy 23 = .ok (.iinc 4 1, 3) := by decide +kernel
theorem dX12_leadBy_26 : decode cX12_leadBy 26 = .ok (.goto (-21), 3) := by decide +kernel
theorem dX12_leadBy_29 : decode cX12_leadBy 29 = .ok (.iload_n 3, 1) := by decide +kernel
theorem dX12_leadBy_30 : decode cX12_leadBy 30 = .ok (.aload_n 0, 1) := by decide +kernel
theorem dX12_leadBy_31 : decode cX12_leadBy 31 = .ok (.getfield 75, 3) := by decide +kernel
theorem dX12_leadBy_34 : decode cX12_leadBy 34 = .ok (.iload_n 1, 1) := by decide +kernel
theorem dX12_leadBy_35 : decode cX12_leadBy 35 = .ok (.iload_n 2, 1) := by decide +kernel
theorem dX12_leadBy_36 : decode cX12_leadBy 36 = .ok (.iadd, 1) := by decide +kernel
theorem dX12_leadBy_37 : decode cX12_leadBy 37 = .ok (.iaload, 1) := by decide +kernel
theorem dX12_leadBy_38 : decode cX12_leadBy 38 = .ok (.isub, 1) := by decide +kernel
theorem dX12_leadBy_39 : decode cX12_leadBy 39 = .ok (.ireturn, 1) := by decide +kernel
theorem dX12_handsOf_0 : decode cX12_handsOf 0 = .ok (.lconst 0, 1) := by decide +kernel
theorem dX12_handsOf_1 : decode cX12_handsOf 1 = .ok (.lstore_n 2, 1) := by decide +kernel
theorem dX12_handsOf_2 : decode cX12_handsOf 2 = .ok (.iconst 0, 1) := by decide +kernel
theorem dX12_handsOf_3 : decode cX12_handsOf 3 = .ok (.istore 4, 2) := by decide +kernel
theorem dX12_handsOf_5 : decode cX12_handsOf 5 = .ok (.iload 4, 2) := by decide +kernel
theorem dX12_handsOf_7 : decode cX12_handsOf 7 = .ok (.aload_n 0, 1) := by decide +kernel
theorem dX12_handsOf_8 : decode cX12_handsOf 8 = .ok (.getfield 283, 3) := by decide +kernel
theorem dX12_handsOf_11 : decode cX12_handsOf 11 = .ok (.if_icmp .ge 31, 3) := by decide +kernel
theorem dX12_handsOf_14 : decode cX12_handsOf 14 = .ok (.lload_n 2, 1) := by decide +kernel
theorem dX12_handsOf_15 : decode cX12_handsOf 15 = .ok (.aload_n 0, 1) := by decide +kernel
theorem dX12_handsOf_16 : decode cX12_handsOf 16 = .ok (.getfield 50, 3) := by decide +kernel
theorem dX12_handsOf_19 : decode cX12_handsOf 19 = .ok (.iload 4, 2) := by decide +kernel
theorem dX12_handsOf_21 : decode cX12_handsOf 21 = .ok (.iaload, 1) := by decide +kernel
theorem dX12_handsOf_22 : decode cX12_handsOf 22 = .ok (.iload_n 1, 1) := by decide +kernel
theorem dX12_handsOf_23 : decode cX12_handsOf 23 = .ok (.if_icmp .ne 10, 3) := by decide +kernel
theorem dX12_handsOf_26 : decode cX12_handsOf 26 = .ok (.lconst 1, 1) := by decide +kernel
theorem dX12_handsOf_27 : decode cX12_handsOf 27 = .ok (.iload 4, 2) := by decide +kernel
theorem dX12_handsOf_29 : decode cX12_handsOf 29 = .ok (.lshl, 1) := by decide +kernel
theorem dX12_handsOf_30 : decode cX12_handsOf 30 = .ok (.goto 4, 3) := by decide +kernel
theorem dX12_handsOf_33 : decode cX12_handsOf 33 = .ok (.lconst 0, 1) := by decide +kernel
theorem dX12_handsOf_34 : decode cX12_handsOf 34 = .ok (.lor, 1) := by decide +kernel
theorem dX12_handsOf_35 : decode cX12_handsOf 35 = .ok (.lstore_n 2, 1) := by decide +kernel
theorem dX12_handsOf_36 : decode cX12_handsOf 36 = .ok (.iinc 4 1, 3) := by decide +kernel
theorem dX12_handsOf_39 : decode cX12_handsOf 39 = .ok (.goto (-34), 3) := by decide +kernel
theorem dX12_handsOf_42 : decode cX12_handsOf 42 = .ok (.lload_n 2, 1) := by decide +kernel
theorem dX12_handsOf_43 : decode cX12_handsOf 43 = .ok (.lreturn, 1) := by decide +kernel
theorem dX12_allHit_0 : decode cX12_allHit 0 = .ok (.iconst 0, 1) := by decide +kernel
theorem dX12_allHit_1 : decode cX12_allHit 1 = .ok (.istore_n 3, 1) := by decide +kernel
theorem dX12_allHit_2 : decode cX12_allHit 2 = .ok (.iload_n 3, 1) := by decide +kernel
theorem dX12_allHit_3 : decode cX12_allHit 3 = .ok (.aload_n 0, 1) := by decide +kernel
theorem dX12_allHit_4 : decode cX12_allHit 4 = .ok (.getfield 412, 3) := by decide +kernel
theorem dX12_allHit_7 : decode cX12_allHit 7 = .ok (.if_icmp .ge 24, 3) := by decide +kernel
theorem dX12_allHit_10 : decode cX12_allHit 10 = .ok (.aload_n 0, 1) := by decide +kernel
theorem dX12_allHit_11 : decode cX12_allHit 11 = .ok (.getfield 78, 3) := by decide +kernel
theorem dX12_allHit_14 : decode cX12_allHit 14 = .ok (.iload_n 3, 1) := by decide +kernel
theorem dX12_allHit_15 : decode cX12_allHit 15 = .ok (.laload, 1) := by decide +kernel
theorem dX12_allHit_16 : decode cX12_allHit 16 = .ok (.lload_n 1, 1) := by decide +kernel
theorem dX12_allHit_17 : decode cX12_allHit 17 = .ok (.land, 1) := by decide +kernel
theorem dX12_allHit_18 : decode cX12_allHit 18 = .ok (.lconst 0, 1) := by decide +kernel
theorem dX12_allHit_19 : decode cX12_allHit 19 = .ok (.lcmp, 1) := by decide +kernel
theorem dX12_allHit_20 : decode cX12_allHit 20 = .ok (.ifCond .ne 5, 3) := by decide +kernel
theorem dX12_allHit_23 : decode cX12_allHit 23 = .ok (.iconst 0, 1) := by decide +kernel
theorem dX12_allHit_24 : decode cX12_allHit 24 = .ok (.ireturn, 1) := by decide +kernel
theorem dX12_allHit_25 : decode cX12_allHit 25 = .ok (.iinc 3 1, 3) := by decide +kernel
theorem dX12_allHit_28 : decode cX12_allHit 28 = .ok (.goto (-26), 3) := by decide +kernel
theorem dX12_allHit_31 : decode cX12_allHit 31 = .ok (.iconst 1, 1) := by decide +kernel
theorem dX12_allHit_32 : decode cX12_allHit 32 = .ok (.ireturn, 1) := by decide +kernel
theorem dX12_hasBit_0 : decode cX12_hasBit 0 = .ok (.lload_n 0, 1) := by decide +kernel
theorem dX12_hasBit_1 : decode cX12_hasBit 1 = .ok (.iload_n 2, 1) := by decide +kernel
theorem dX12_hasBit_2 : decode cX12_hasBit 2 = .ok (.lshr, 1) := by decide +kernel
theorem dX12_hasBit_3 : decode cX12_hasBit 3 = .ok (.lconst 1, 1) := by decide +kernel
theorem dX12_hasBit_4 : decode cX12_hasBit 4 = .ok (.land, 1) := by decide +kernel
theorem dX12_hasBit_5 : decode cX12_hasBit 5 = .ok (.lconst 1, 1) := by decide +kernel
theorem dX12_hasBit_6 : decode cX12_hasBit 6 = .ok (.lcmp, 1) := by decide +kernel
theorem dX12_hasBit_7 : decode cX12_hasBit 7 = .ok (.ifCond .ne 7, 3) := by decide +kernel
theorem dX12_hasBit_10 : decode cX12_hasBit 10 = .ok (.iconst 1, 1) := by decide +kernel
theorem dX12_hasBit_11 : decode cX12_hasBit 11 = .ok (.goto 4, 3) := by decide +kernel
theorem dX12_hasBit_14 : decode cX12_hasBit 14 = .ok (.iconst 0, 1) := by decide +kernel
theorem dX12_hasBit_15 : decode cX12_hasBit 15 = .ok (.ireturn, 1) := by decide +kernel
theorem dX12_allMinutes_0 : decode cX12_allMinutes 0 = .ok (.lconst 1, 1) := by decide +kernel
theorem dX12_allMinutes_1 : decode cX12_allMinutes 1 = .ok (.aload_n 0, 1) := by decide +kernel
theorem dX12_allMinutes_2 : decode cX12_allMinutes 2 = .ok (.getfield 283, 3) := by decide +kernel
theorem dX12_allMinutes_5 : decode cX12_allMinutes 5 = .ok (.lshl, 1) := by decide +kernel
theorem dX12_allMinutes_6 : decode cX12_allMinutes 6 = .ok (.lconst 1, 1) := by decide +kernel
theorem dX12_allMinutes_7 : decode cX12_allMinutes 7 = .ok (.lsub, 1) := by decide +kernel
theorem dX12_allMinutes_8 : decode cX12_allMinutes 8 = .ok (.lreturn, 1) := by decide +kernel
theorem dX12_power_0 : decode cX12_power 0 = .ok (.lconst 1, 1) := by decide +kernel
theorem dX12_power_1 : decode cX12_power 1 = .ok (.lstore_n 3, 1) := by decide +kernel
theorem dX12_power_2 : decode cX12_power 2 = .ok (.iconst 0, 1) := by decide +kernel
theorem dX12_power_3 : decode cX12_power 3 = .ok (.istore 5, 2) := by decide +kernel
theorem dX12_power_5 : decode cX12_power 5 = .ok (.iload 5, 2) := by decide +kernel
theorem dX12_power_7 : decode cX12_power 7 = .ok (.iload_n 2, 1) := by decide +kernel
theorem dX12_power_8 : decode cX12_power 8 = .ok (.if_icmp .ge 13, 3) := by decide +kernel
theorem dX12_power_11 : decode cX12_power 11 = .ok (.lload_n 3, 1) := by decide +kernel
theorem dX12_power_12 : decode cX12_power 12 = .ok (.lload_n 0, 1) := by decide +kernel
theorem dX12_power_13 : decode cX12_power 13 = .ok (.lmul, 1) := by decide +kernel
theorem dX12_power_14 : decode cX12_power 14 = .ok (.lstore_n 3, 1) := by decide +kernel
theorem dX12_power_15 : decode cX12_power 15 = .ok (.iinc 5 1, 3) := by decide +kernel
theorem dX12_power_18 : decode cX12_power 18 = .ok (.goto (-13), 3) := by decide +kernel
theorem dX12_power_21 : decode cX12_power 21 = .ok (.lload_n 3, 1) := by decide +kernel
theorem dX12_power_22 : decode cX12_power 22 = .ok (.lreturn, 1) := by decide +kernel
theorem dX12_common_0 : decode cX12_common 0 = .ok (.lload_n 0, 1) := by decide +kernel
theorem dX12_common_1 : decode cX12_common 1 = .ok (.lstore 4, 2) := by decide +kernel
theorem dX12_common_3 : decode cX12_common 3 = .ok (.lload_n 2, 1) := by decide +kernel
theorem dX12_common_4 : decode cX12_common 4 = .ok (.lstore 6, 2) := by decide +kernel
theorem dX12_common_6 : decode cX12_common 6 = .ok (.lload 6, 2) := by decide +kernel
theorem dX12_common_8 : decode cX12_common 8 = .ok (.lconst 0, 1) := by decide +kernel
theorem dX12_common_9 : decode cX12_common 9 = .ok (.lcmp, 1) := by decide +kernel
theorem dX12_common_10 : decode cX12_common 10 = .ok (.ifCond .eq 21, 3) := by decide +kernel
theorem dX12_common_13 : decode cX12_common 13 = .ok (.lload 4, 2) := by decide +kernel
theorem dX12_common_15 : decode cX12_common 15 = .ok (.lload 6, 2) := by decide +kernel
theorem dX12_common_17 : decode cX12_common 17 = .ok (.lrem, 1) := by decide +kernel
theorem dX12_common_18 : decode cX12_common 18 = .ok (.lstore 8, 2) := by decide +kernel
theorem dX12_common_20 : decode cX12_common 20 = .ok (.lload 6, 2) := by decide +kernel
theorem dX12_common_22 : decode cX12_common 22 = .ok (.lstore 4, 2) := by decide +kernel
theorem dX12_common_24 : decode cX12_common 24 = .ok (.lload 8, 2) := by decide +kernel
theorem dX12_common_26 : decode cX12_common 26 = .ok (.lstore 6, 2) := by decide +kernel
theorem dX12_common_28 : decode cX12_common 28 = .ok (.goto (-22), 3) := by decide +kernel
theorem dX12_common_31 : decode cX12_common 31 = .ok (.lload 4, 2) := by decide +kernel
theorem dX12_common_33 : decode cX12_common 33 = .ok (.lreturn, 1) := by decide +kernel
theorem dX12_factOf_0 : decode cX12_factOf 0 = .ok (.aload_n 0, 1) := by decide +kernel
theorem dX12_factOf_1 : decode cX12_factOf 1 = .ok (.getfield 32, 3) := by decide +kernel
theorem dX12_factOf_4 : decode cX12_factOf 4 = .ok (.bipush 17, 2) := by decide +kernel
theorem dX12_factOf_6 : decode cX12_factOf 6 = .ok (.aload_n 0, 1) := by decide +kernel
theorem dX12_factOf_7 : decode cX12_factOf 7 = .ok (.getfield 464, 3) := by decide +kernel
theorem dX12_factOf_10 : decode cX12_factOf 10 = .ok (.imul, 1) := by decide +kernel
theorem dX12_factOf_11 : decode cX12_factOf 11 = .ok (.iconst 1, 1) := by decide +kernel
theorem dX12_factOf_12 : decode cX12_factOf 12 = .ok (.iadd, 1) := by decide +kernel
theorem dX12_factOf_13 : decode cX12_factOf 13 = .ok (.iconst 2, 1) := by decide +kernel
theorem dX12_factOf_14 : decode cX12_factOf 14 = .ok (.iload_n 1, 1) := by decide +kernel
theorem dX12_factOf_15 : decode cX12_factOf 15 = .ok (.imul, 1) := by decide +kernel
theorem dX12_factOf_16 : decode cX12_factOf 16 = .ok (.iadd, 1) := by decide +kernel
theorem dX12_factOf_17 : decode cX12_factOf 17 = .ok (.iload_n 2, 1) := by decide +kernel
theorem dX12_factOf_18 : decode cX12_factOf 18 = .ok (.iadd, 1) := by decide +kernel
theorem dX12_factOf_19 : decode cX12_factOf 19 = .ok (.iaload, 1) := by decide +kernel
theorem dX12_factOf_20 : decode cX12_factOf 20 = .ok (.ireturn, 1) := by decide +kernel
theorem dX12_facts_0 : decode cX12_facts 0 = .ok (.aload_n 0, 1) := by decide +kernel
theorem dX12_facts_1 : decode cX12_facts 1 = .ok (.getfield 32, 3) := by decide +kernel
theorem dX12_facts_4 : decode cX12_facts 4 = .ok (.bipush 17, 2) := by decide +kernel
theorem dX12_facts_6 : decode cX12_facts 6 = .ok (.aload_n 0, 1) := by decide +kernel
theorem dX12_facts_7 : decode cX12_facts 7 = .ok (.getfield 464, 3) := by decide +kernel
theorem dX12_facts_10 : decode cX12_facts 10 = .ok (.imul, 1) := by decide +kernel
theorem dX12_facts_11 : decode cX12_facts 11 = .ok (.iaload, 1) := by decide +kernel
theorem dX12_facts_12 : decode cX12_facts 12 = .ok (.ireturn, 1) := by decide +kernel
theorem dX12_sureOf_0 : decode cX12_sureOf 0 = .ok (.aload_n 0, 1) := by decide +kernel
theorem dX12_sureOf_1 : decode cX12_sureOf 1 = .ok (.getfield 467, 3) := by decide +kernel
theorem dX12_sureOf_4 : decode cX12_sureOf 4 = .ok (.ifCond .ne 7, 3) := by decide +kernel
theorem dX12_sureOf_7 : decode cX12_sureOf 7 = .ok (.iconst (-1), 1) := by decide +kernel
theorem dX12_sureOf_8 : decode cX12_sureOf 8 = .ok (.goto 28, 3) := by decide +kernel
theorem dX12_sureOf_11 : decode cX12_sureOf 11 = .ok (.iload_n 1, 1) := by decide +kernel
theorem dX12_sureOf_12 : decode cX12_sureOf 12 = .ok (.ifCond .eq 15, 3) := by decide +kernel
theorem dX12_sureOf_15 : decode cX12_sureOf 15 = .ok (.aload_n 0, 1) := by decide +kernel
theorem dX12_sureOf_16 : decode cX12_sureOf 16 = .ok (.getfield 85, 3) := by decide +kernel
theorem dX12_sureOf_19 : decode cX12_sureOf 19 = .ok (.iconst 0, 1) := by decide +kernel
theorem dX12_sureOf_20 : decode cX12_sureOf 20 = .ok (.iaload, 1) := by decide +kernel
theorem dX12_sureOf_21 : decode cX12_sureOf 21 = .ok (.bipush 40, 2) := by decide +kernel
theorem dX12_sureOf_23 : decode cX12_sureOf 23 = .ok (.idiv, 1) := by decide +kernel
theorem dX12_sureOf_24 : decode cX12_sureOf 24 = .ok (.goto 12, 3) := by decide +kernel
theorem dX12_sureOf_27 : decode cX12_sureOf 27 = .ok (.aload_n 0, 1) := by decide +kernel
theorem dX12_sureOf_28 : decode cX12_sureOf 28 = .ok (.getfield 85, 3) := by decide +kernel
theorem dX12_sureOf_31 : decode cX12_sureOf 31 = .ok (.iconst 0, 1) := by decide +kernel
theorem dX12_sureOf_32 : decode cX12_sureOf 32 = .ok (.iaload, 1) := by decide +kernel
theorem dX12_sureOf_33 : decode cX12_sureOf 33 = .ok (.bipush 40, 2) := by decide +kernel
theorem dX12_sureOf_35 : decode cX12_sureOf 35 = .ok (.irem, 1) := by decide +kernel
theorem dX12_sureOf_36 : decode cX12_sureOf 36 = .ok (.istore_n 2, 1) := by decide +kernel
theorem dX12_sureOf_37 : decode cX12_sureOf 37 = .ok (.iconst 1, 1) := by decide +kernel
theorem dX12_sureOf_38 : decode cX12_sureOf 38 = .ok (.istore_n 3, 1) := by decide +kernel
theorem dX12_sureOf_39 : decode cX12_sureOf 39 = .ok (.iload_n 3, 1) := by decide +kernel
theorem dX12_sureOf_40 : decode cX12_sureOf 40 = .ok (.aload_n 0, 1) := by decide +kernel
theorem dX12_sureOf_41 : decode cX12_sureOf 41 = .ok (.getfield 467, 3) := by decide +kernel
theorem dX12_sureOf_44 : decode cX12_sureOf 44 = .ok (.if_icmp .ge 44, 3) := by decide +kernel
theorem dX12_sureOf_47 : decode cX12_sureOf 47 = .ok (.iload_n 1, 1) := by decide +kernel
theorem dX12_sureOf_48 : decode cX12_sureOf 48 = .ok (.ifCond .eq 15, 3) := by decide +kernel
theorem dX12_sureOf_51 : decode cX12_sureOf 51 = .ok (.aload_n 0, 1) := by decide +kernel
theorem dX12_sureOf_52 : decode cX12_sureOf 52 = .ok (.getfield 85, 3) := by decide +kernel
theorem dX12_sureOf_55 : decode cX12_sureOf 55 = .ok (.iload_n 3, 1) := by decide +kernel
theorem dX12_sureOf_56 : decode cX12_sureOf 56 = .ok (.iaload, 1) := by decide +kernel
theorem dX12_sureOf_57 : decode cX12_sureOf 57 = .ok (.bipush 40, 2) := by decide +kernel
theorem dX12_sureOf_59 : decode cX12_sureOf 59 = .ok (.idiv, 1) := by decide +kernel
theorem dX12_sureOf_60 : decode cX12_sureOf 60 = .ok (.goto 12, 3) := by decide +kernel
theorem dX12_sureOf_63 : decode cX12_sureOf 63 = .ok (.aload_n 0, 1) := by decide +kernel
theorem dX12_sureOf_64 : decode cX12_sureOf 64 = .ok (.getfield 85, 3) := by decide +kernel
theorem dX12_sureOf_67 : decode cX12_sureOf 67 = .ok (.iload_n 3, 1) := by decide +kernel
theorem dX12_sureOf_68 : decode cX12_sureOf 68 = .ok (.iaload, 1) := by decide +kernel
theorem dX12_sureOf_69 : decode cX12_sureOf 69 = .ok (.bipush 40, 2) := by decide +kernel
theorem dX12_sureOf_71 : decode cX12_sureOf 71 = .ok (.irem, 1) := by decide +kernel
theorem dX12_sureOf_72 : decode cX12_sureOf 72 = .ok (.iload_n 2, 1) := by decide +kernel
theorem dX12_sureOf_73 : decode cX12_sureOf 73 = .ok (.if_icmp .ne 7, 3) := by decide +kernel
theorem dX12_sureOf_76 : decode cX12_sureOf 76 = .ok (.iload_n 2, 1) := by decide +kernel
theorem dX12_sureOf_77 : decode cX12_sureOf 77 = .ok (.goto 4, 3) := by decide +kernel
theorem dX12_sureOf_80 : decode cX12_sureOf 80 = .ok (.iconst (-1), 1) := by decide +kernel
theorem dX12_sureOf_81 : decode cX12_sureOf 81 = .ok (.istore_n 2, 1) := by decide +kernel
theorem dX12_sureOf_82 : decode cX12_sureOf 82 = .ok (.iinc 3 1, 3) := by decide +kernel
theorem dX12_sureOf_85 : decode cX12_sureOf 85 = .ok (.goto (-46), 3) := by decide +kernel
theorem dX12_sureOf_88 : decode cX12_sureOf 88 = .ok (.iload_n 2, 1) := by decide +kernel
theorem dX12_sureOf_89 : decode cX12_sureOf 89 = .ok (.ireturn, 1) := by decide +kernel
theorem dX12_worthTo_0 : decode cX12_worthTo 0 = .ok (.aload_n 0, 1) := by decide +kernel
theorem dX12_worthTo_1 : decode cX12_worthTo 1 = .ok (.getfield 35, 3) := by decide +kernel
theorem dX12_worthTo_4 : decode cX12_worthTo 4 = .ok (.bipush 37, 2) := by decide +kernel
theorem dX12_worthTo_6 : decode cX12_worthTo 6 = .ok (.aload_n 0, 1) := by decide +kernel
theorem dX12_worthTo_7 : decode cX12_worthTo 7 = .ok (.getfield 489, 3) := by decide +kernel
theorem dX12_worthTo_10 : decode cX12_worthTo 10 = .ok (.imul, 1) := by decide +kernel
theorem dX12_worthTo_11 : decode cX12_worthTo 11 = .ok (.iconst 1, 1) := by decide +kernel
theorem dX12_worthTo_12 : decode cX12_worthTo 12 = .ok (.iadd, 1) := by decide +kernel
theorem dX12_worthTo_13 : decode cX12_worthTo 13 = .ok (.bipush 6, 2) := by decide +kernel
theorem dX12_worthTo_15 : decode cX12_worthTo 15 = .ok (.iload_n 1, 1) := by decide +kernel
theorem dX12_worthTo_16 : decode cX12_worthTo 16 = .ok (.imul, 1) := by decide +kernel
theorem dX12_worthTo_17 : decode cX12_worthTo 17 = .ok (.iadd, 1) := by decide +kernel
theorem dX12_worthTo_18 : decode cX12_worthTo 18 = .ok (.iload_n 2, 1) := by decide +kernel
theorem dX12_worthTo_19 : decode cX12_worthTo 19 = .ok (.iadd, 1) := by decide +kernel
theorem dX12_worthTo_20 : decode cX12_worthTo 20 = .ok (.iaload, 1) := by decide +kernel
theorem dX12_worthTo_21 : decode cX12_worthTo 21 = .ok (.ireturn, 1) := by decide +kernel
theorem dX12_isInRing_0 : decode cX12_isInRing 0 = .ok (.aload_n 0, 1) := by decide +kernel
theorem dX12_isInRing_1 : decode cX12_isInRing 1 = .ok (.getfield 94, 3) := by decide +kernel
theorem dX12_isInRing_4 : decode cX12_isInRing 4 = .ok (.iload_n 1, 1) := by decide +kernel
theorem dX12_isInRing_5 : decode cX12_isInRing 5 = .ok (.iaload, 1) := by decide +kernel
theorem dX12_isInRing_6 : decode cX12_isInRing 6 = .ok (.istore_n 2, 1) := by decide +kernel
theorem dX12_isInRing_7 : decode cX12_isInRing 7 = .ok (.iconst 0, 1) := by decide +kernel
theorem dX12_isInRing_8 : decode cX12_isInRing 8 = .ok (.istore_n 3, 1) := by decide +kernel
theorem dX12_isInRing_9 : decode cX12_isInRing 9 = .ok (.iload_n 3, 1) := by decide +kernel
theorem dX12_isInRing_10 : decode cX12_isInRing 10 = .ok (.bipush 6, 2) := by decide +kernel
theorem dX12_isInRing_12 : decode cX12_isInRing 12 = .ok (.if_icmp .ge 21, 3) := by decide +kernel
theorem dX12_isInRing_15 : decode cX12_isInRing 15 = .ok (.iload_n 2, 1) := by decide +kernel
theorem dX12_isInRing_16 : decode cX12_isInRing 16 = .ok (.iload_n 1, 1) := by decide +kernel
theorem dX12_isInRing_17 : decode cX12_isInRing 17 = .ok (.if_icmp .eq 16, 3) := by decide +kernel
theorem dX12_isInRing_20 : decode cX12_isInRing 20 = .ok (.aload_n 0, 1) := by decide +kernel
theorem dX12_isInRing_21 : decode cX12_isInRing 21 = .ok (.getfield 94, 3) := by decide +kernel
theorem dX12_isInRing_24 : decode cX12_isInRing 24 = .ok (.iload_n 2, 1) := by decide +kernel
theorem dX12_isInRing_25 : decode cX12_isInRing 25 = .ok (.iaload, 1) := by decide +kernel
theorem dX12_isInRing_26 : decode cX12_isInRing 26 = .ok (.istore_n 2, 1) := by decide +kernel
theorem dX12_isInRing_27 : decode cX12_isInRing 27 = .ok (.iinc 3 1, 3) := by decide +kernel
theorem dX12_isInRing_30 : decode cX12_isInRing 30 = .ok (.goto (-21), 3) := by decide +kernel
theorem dX12_isInRing_33 : decode cX12_isInRing 33 = .ok (.iload_n 2, 1) := by decide +kernel
theorem dX12_isInRing_34 : decode cX12_isInRing 34 = .ok (.iload_n 1, 1) := by decide +kernel
theorem dX12_isInRing_35 : decode cX12_isInRing 35 = .ok (.if_icmp .ne 7, 3) := by decide +kernel
theorem dX12_isInRing_38 : decode cX12_isInRing 38 = .ok (.iconst 1, 1) := by decide +kernel
theorem dX12_isInRing_39 : decode cX12_isInRing 39 = .ok (.goto 4, 3) := by decide +kernel
theorem dX12_isInRing_42 : decode cX12_isInRing 42 = .ok (.iconst 0, 1) := by decide +kernel
theorem dX12_isInRing_43 : decode cX12_isInRing 43 = .ok (.ireturn, 1) := by decide +kernel
theorem dX12_draw_0 : decode cX12_draw 0 = .ok (.aload_n 0, 1) := by decide +kernel
theorem dX12_draw_1 : decode cX12_draw 1 = .ok (.aload_n 0, 1) := by decide +kernel
theorem dX12_draw_2 : decode cX12_draw 2 = .ok (.getfield 516, 3) := by decide +kernel
theorem dX12_draw_5 : decode cX12_draw 5 = .ok (.ldc_w 519, 3) := by decide +kernel
theorem dX12_draw_8 : decode cX12_draw 8 = .ok (.imul, 1) := by decide +kernel
theorem dX12_draw_9 : decode cX12_draw 9 = .ok (.sipush 12345, 3) := by decide +kernel
theorem dX12_draw_12 : decode cX12_draw 12 = .ok (.iadd, 1) := by decide +kernel
theorem dX12_draw_13 : decode cX12_draw 13 = .ok (.putfield 516, 3) := by decide +kernel
theorem dX12_draw_16 : decode cX12_draw 16 = .ok (.aload_n 0, 1) := by decide +kernel
theorem dX12_draw_17 : decode cX12_draw 17 = .ok (.getfield 516, 3) := by decide +kernel
theorem dX12_draw_20 : decode cX12_draw 20 = .ok (.bipush 16, 2) := by decide +kernel
theorem dX12_draw_22 : decode cX12_draw 22 = .ok (.iushr, 1) := by decide +kernel
theorem dX12_draw_23 : decode cX12_draw 23 = .ok (.iload_n 1, 1) := by decide +kernel
theorem dX12_draw_24 : decode cX12_draw 24 = .ok (.irem, 1) := by decide +kernel
theorem dX12_draw_25 : decode cX12_draw 25 = .ok (.ireturn, 1) := by decide +kernel
theorem dX12_richest_0 : decode cX12_richest 0 = .ok (.iconst 0, 1) := by decide +kernel
theorem dX12_richest_1 : decode cX12_richest 1 = .ok (.istore_n 1, 1) := by decide +kernel
theorem dX12_richest_2 : decode cX12_richest 2 = .ok (.iconst 1, 1) := by decide +kernel
theorem dX12_richest_3 : decode cX12_richest 3 = .ok (.istore_n 2, 1) := by decide +kernel
theorem dX12_richest_4 : decode cX12_richest 4 = .ok (.iload_n 2, 1) := by decide +kernel
theorem dX12_richest_5 : decode cX12_richest 5 = .ok (.aload_n 0, 1) := by decide +kernel
theorem dX12_richest_6 : decode cX12_richest 6 = .ok (.getfield 286, 3) := by decide +kernel
theorem dX12_richest_9 : decode cX12_richest 9 = .ok (.if_icmp .ge 30, 3) := by decide +kernel
theorem dX12_richest_12 : decode cX12_richest 12 = .ok (.aload_n 0, 1) := by decide +kernel
theorem dX12_richest_13 : decode cX12_richest 13 = .ok (.getfield 44, 3) := by decide +kernel
theorem dX12_richest_16 : decode cX12_richest 16 = .ok (.iload_n 2, 1) := by decide +kernel
theorem dX12_richest_17 : decode cX12_richest 17 = .ok (.iaload, 1) := by decide +kernel
theorem dX12_richest_18 : decode cX12_richest 18 = .ok (.aload_n 0, 1) := by decide +kernel
theorem dX12_richest_19 : decode cX12_richest 19 = .ok (.getfield 44, 3) := by decide +kernel
theorem dX12_richest_22 : decode cX12_richest 22 = .ok (.iload_n 1, 1) := by decide +kernel
theorem dX12_richest_23 : decode cX12_richest 23 = .ok (.iaload, 1) := by decide +kernel
theorem dX12_richest_24 : decode cX12_richest 24 = .ok (.if_icmp .le 7, 3) := by decide +kernel
theorem dX12_richest_27 : decode cX12_richest 27 = .ok (.iload_n 2, 1) := by decide +kernel
theorem dX12_richest_28 : decode cX12_richest 28 = .ok (.goto 4, 3) := by decide +kernel
theorem dX12_richest_31 : decode cX12_richest 31 = .ok (.iload_n 1, 1) := by decide +kernel
theorem dX12_richest_32 : decode cX12_richest 32 = .ok (.istore_n 1, 1) := by decide +kernel
theorem dX12_richest_33 : decode cX12_richest 33 = .ok (.iinc 2 1, 3) := by decide +kernel
theorem dX12_richest_36 : decode cX12_richest 36 = .ok (.goto (-32), 3) := by decide +kernel
theorem dX12_richest_39 : decode cX12_richest 39 = .ok (.iload_n 1, 1) := by decide +kernel
theorem dX12_richest_40 : decode cX12_richest 40 = .ok (.ireturn, 1) := by decide +kernel
theorem dX12_victim_0 : decode cX12_victim 0 = .ok (.iconst (-1), 1) := by decide +kernel
theorem dX12_victim_1 : decode cX12_victim 1 = .ok (.istore_n 1, 1) := by decide +kernel
theorem dX12_victim_2 : decode cX12_victim 2 = .ok (.iconst 0, 1) := by decide +kernel
theorem dX12_victim_3 : decode cX12_victim 3 = .ok (.istore_n 2, 1) := by decide +kernel
theorem dX12_victim_4 : decode cX12_victim 4 = .ok (.iload_n 2, 1) := by decide +kernel
theorem dX12_victim_5 : decode cX12_victim 5 = .ok (.aload_n 0, 1) := by decide +kernel
theorem dX12_victim_6 : decode cX12_victim 6 = .ok (.getfield 286, 3) := by decide +kernel
theorem dX12_victim_9 : decode cX12_victim 9 = .ok (.if_icmp .ge 39, 3) := by decide +kernel
theorem dX12_victim_12 : decode cX12_victim 12 = .ok (.aload_n 0, 1) := by decide +kernel
theorem dX12_victim_13 : decode cX12_victim 13 = .ok (.getfield 60, 3) := by decide +kernel
theorem dX12_victim_16 : decode cX12_victim 16 = .ok (.iload_n 2, 1) := by decide +kernel
theorem dX12_victim_17 : decode cX12_victim 17 = .ok (.iaload, 1) := by decide +kernel
theorem dX12_victim_18 : decode cX12_victim 18 = .ok (.iload_n 1, 1) := by decide +kernel
theorem dX12_victim_19 : decode cX12_victim 19 = .ok (.iconst (-1), 1) := by decide +kernel
theorem dX12_victim_20 : decode cX12_victim 20 = .ok (.if_icmp .ne 7, 3) := by decide +kernel
theorem dX12_victim_23 : decode cX12_victim 23 = .ok (.iconst 0, 1) := by decide +kernel
theorem dX12_victim_24 : decode cX12_victim 24 = .ok (.goto 9, 3) := by decide +kernel
theorem dX12_victim_27 : decode cX12_victim 27 = .ok (.aload_n 0, 1) := by decide +kernel
theorem dX12_victim_28 : decode cX12_victim 28 = .ok (.getfield 60, 3) := by decide +kernel
theorem dX12_victim_31 : decode cX12_victim 31 = .ok (.iload_n 1, 1) := by decide +kernel
theorem dX12_victim_32 : decode cX12_victim 32 = .ok (.iaload, 1) := by decide +kernel
theorem dX12_victim_33 : decode cX12_victim 33 = .ok (.if_icmp .le 7, 3) := by decide +kernel
theorem dX12_victim_36 : decode cX12_victim 36 = .ok (.iload_n 2, 1) := by decide +kernel
theorem dX12_victim_37 : decode cX12_victim 37 = .ok (.goto 4, 3) := by decide +kernel
theorem dX12_victim_40 : decode cX12_victim 40 = .ok (.iload_n 1, 1) := by decide +kernel
theorem dX12_victim_41 : decode cX12_victim 41 = .ok (.istore_n 1, 1) := by decide +kernel
theorem dX12_victim_42 : decode cX12_victim 42 = .ok (.iinc 2 1, 3) := by decide +kernel
theorem dX12_victim_45 : decode cX12_victim 45 = .ok (.goto (-41), 3) := by decide +kernel
theorem dX12_victim_48 : decode cX12_victim 48 = .ok (.iload_n 1, 1) := by decide +kernel
theorem dX12_victim_49 : decode cX12_victim 49 = .ok (.ireturn, 1) := by decide +kernel
theorem dX12_restless_0 : decode cX12_restless 0 = .ok (.iconst (-1), 1) := by decide +kernel
theorem dX12_restless_1 : decode cX12_restless 1 = .ok (.istore_n 1, 1) := by decide +kernel
theorem dX12_restless_2 : decode cX12_restless 2 = .ok (.iconst 0, 1) := by decide +kernel
theorem dX12_restless_3 : decode cX12_restless 3 = .ok (.istore_n 2, 1) := by decide +kernel
theorem dX12_restless_4 : decode cX12_restless 4 = .ok (.iload_n 2, 1) := by decide +kernel
theorem dX12_restless_5 : decode cX12_restless 5 = .ok (.aload_n 0, 1) := by decide +kernel
theorem dX12_restless_6 : decode cX12_restless 6 = .ok (.getfield 283, 3) := by decide +kernel
theorem dX12_restless_9 : decode cX12_restless 9 = .ok (.if_icmp .ge 39, 3) := by decide +kernel
theorem dX12_restless_12 : decode cX12_restless 12 = .ok (.aload_n 0, 1) := by decide +kernel
theorem dX12_restless_13 : decode cX12_restless 13 = .ok (.getfield 63, 3) := by decide +kernel
theorem dX12_restless_16 : decode cX12_restless 16 = .ok (.iload_n 2, 1) := by decide +kernel
theorem dX12_restless_17 : decode cX12_restless 17 = .ok (.iaload, 1) := by decide +kernel
theorem dX12_restless_18 : decode cX12_restless 18 = .ok (.iload_n 1, 1) := by decide +kernel
theorem dX12_restless_19 : decode cX12_restless 19 = .ok (.iconst (-1), 1) := by decide +kernel
theorem dX12_restless_20 : decode cX12_restless 20 = .ok (.if_icmp .ne 7, 3) := by decide +kernel
theorem dX12_restless_23 : decode cX12_restless 23 = .ok (.iconst 0, 1) := by decide +kernel
theorem dX12_restless_24 : decode cX12_restless 24 = .ok (.goto 9, 3) := by decide +kernel
theorem dX12_restless_27 : decode cX12_restless 27 = .ok (.aload_n 0, 1) := by decide +kernel
theorem dX12_restless_28 : decode cX12_restless 28 = .ok (.getfield 63, 3) := by decide +kernel
theorem dX12_restless_31 : decode cX12_restless 31 = .ok (.iload_n 1, 1) := by decide +kernel
theorem dX12_restless_32 : decode cX12_restless 32 = .ok (.iaload, 1) := by decide +kernel
theorem dX12_restless_33 : decode cX12_restless 33 = .ok (.if_icmp .le 7, 3) := by decide +kernel
theorem dX12_restless_36 : decode cX12_restless 36 = .ok (.iload_n 2, 1) := by decide +kernel
theorem dX12_restless_37 : decode cX12_restless 37 = .ok (.goto 4, 3) := by decide +kernel
theorem dX12_restless_40 : decode cX12_restless 40 = .ok (.iload_n 1, 1) := by decide +kernel
theorem dX12_restless_41 : decode cX12_restless 41 = .ok (.istore_n 1, 1) := by decide +kernel
theorem dX12_restless_42 : decode cX12_restless 42 = .ok (.iinc 2 1, 3) := by decide +kernel
theorem dX12_restless_45 : decode cX12_restless 45 = .ok (.goto (-41), 3) := by decide +kernel
theorem dX12_restless_48 : decode cX12_restless 48 = .ok (.iload_n 1, 1) := by decide +kernel
theorem dX12_restless_49 : decode cX12_restless 49 = .ok (.ireturn, 1) := by decide +kernel
theorem dX12_ones_0 : decode cX12_ones 0 = .ok (.iconst 0, 1) := by decide +kernel
theorem dX12_ones_1 : decode cX12_ones 1 = .ok (.istore_n 1, 1) := by decide +kernel
theorem dX12_ones_2 : decode cX12_ones 2 = .ok (.iconst 0, 1) := by decide +kernel
theorem dX12_ones_3 : decode cX12_ones 3 = .ok (.istore_n 2, 1) := by decide +kernel
theorem dX12_ones_4 : decode cX12_ones 4 = .ok (.iload_n 2, 1) := by decide +kernel
theorem dX12_ones_5 : decode cX12_ones 5 = .ok (.bipush 6, 2) := by decide +kernel
theorem dX12_ones_7 : decode cX12_ones 7 = .ok (.if_icmp .ge 25, 3) := by decide +kernel
theorem dX12_ones_10 : decode cX12_ones 10 = .ok (.iload_n 1, 1) := by decide +kernel
theorem dX12_ones_11 : decode cX12_ones 11 = .ok (.iload_n 0, 1) := by decide +kernel
theorem dX12_ones_12 : decode cX12_ones 12 = .ok (.iload_n 2, 1) := by decide +kernel
theorem dX12_ones_13 : decode cX12_ones 13 = .ok (.invokestatic 104, 3) := by decide +kernel
theorem dX12_ones_16 : decode cX12_ones 16 = .ok (.ifCond .eq 7, 3) := by decide +kernel
theorem dX12_ones_19 : decode cX12_ones 19 = .ok (.iconst 1, 1) := by decide +kernel
theorem dX12_ones_20 : decode cX12_ones 20 = .ok (.goto 4, 3) := by decide +kernel
theorem dX12_ones_23 : decode cX12_ones 23 = .ok (.iconst 0, 1) := by decide +kernel
theorem dX12_ones_24 : decode cX12_ones 24 = .ok (.iadd, 1) := by decide +kernel
theorem dX12_ones_25 : decode cX12_ones 25 = .ok (.istore_n 1, 1) := by decide +kernel
theorem dX12_ones_26 : decode cX12_ones 26 = .ok (.iinc 2 1, 3) := by decide +kernel
theorem dX12_ones_29 : decode cX12_ones 29 = .ok (.goto (-25), 3) := by decide +kernel
theorem dX12_ones_32 : decode cX12_ones 32 = .ok (.iload_n 1, 1) := by decide +kernel
theorem dX12_ones_33 : decode cX12_ones 33 = .ok (.ireturn, 1) := by decide +kernel
theorem dX12_copyAll_0 : decode cX12_copyAll 0 = .ok (.iconst 0, 1) := by decide +kernel
theorem dX12_copyAll_1 : decode cX12_copyAll 1 = .ok (.istore_n 3, 1) := by decide +kernel
theorem dX12_copyAll_2 : decode cX12_copyAll 2 = .ok (.iload_n 3, 1) := by decide +kernel
theorem dX12_copyAll_3 : decode cX12_copyAll 3 = .ok (.sipush 600, 3) := by decide +kernel
theorem dX12_copyAll_6 : decode cX12_copyAll 6 = .ok (.if_icmp .ge 33, 3) := by decide +kernel
theorem dX12_copyAll_9 : decode cX12_copyAll 9 = .ok (.aload_n 0, 1) := by decide +kernel
theorem dX12_copyAll_10 : decode cX12_copyAll 10 = .ok (.getfield 7, 3) := by decide +kernel
theorem dX12_copyAll_13 : decode cX12_copyAll 13 = .ok (.sipush 600, 3) := by decide +kernel
theorem dX12_copyAll_16 : decode cX12_copyAll 16 = .ok (.iload_n 2, 1) := by decide +kernel
theorem dX12_copyAll_17 : decode cX12_copyAll 17 = .ok (.imul, 1) := by decide +kernel
theorem dX12_copyAll_18 : decode cX12_copyAll 18 = .ok (.iload_n 3, 1) := by decide +kernel
theorem dX12_copyAll_19 : decode cX12_copyAll 19 = .ok (.iadd, 1) := by decide +kernel
theorem dX12_copyAll_20 : decode cX12_copyAll 20 = .ok (.aload_n 0, 1) := by decide +kernel
theorem dX12_copyAll_21 : decode cX12_copyAll 21 = .ok (.getfield 7, 3) := by decide +kernel
theorem dX12_copyAll_24 : decode cX12_copyAll 24 = .ok (.sipush 600, 3) := by decide +kernel
theorem dX12_copyAll_27 : decode cX12_copyAll 27 = .ok (.iload_n 1, 1) := by decide +kernel
theorem dX12_copyAll_28 : decode cX12_copyAll 28 = .ok (.imul, 1) := by decide +kernel
theorem dX12_copyAll_29 : decode cX12_copyAll 29 = .ok (.iload_n 3, 1) := by decide +kernel
theorem dX12_copyAll_30 : decode cX12_copyAll 30 = .ok (.iadd, 1) := by decide +kernel
theorem dX12_copyAll_31 : decode cX12_copyAll 31 = .ok (.baload, 1) := by decide +kernel
theorem dX12_copyAll_32 : decode cX12_copyAll 32 = .ok (.bastore, 1) := by decide +kernel
theorem dX12_copyAll_33 : decode cX12_copyAll 33 = .ok (.iinc 3 1, 3) := by decide +kernel
theorem dX12_copyAll_36 : decode cX12_copyAll 36 = .ok (.goto (-34), 3) := by decide +kernel
theorem dX12_copyAll_39 : decode cX12_copyAll 39 = .ok (.aload_n 0, 1) := by decide +kernel
theorem dX12_copyAll_40 : decode cX12_copyAll 40 = .ok (.getfield 13, 3) := by decide +kernel
theorem dX12_copyAll_43 : decode cX12_copyAll 43 = .ok (.iconst 1, 1) := by decide +kernel
theorem dX12_copyAll_44 : decode cX12_copyAll 44 = .ok (.iload_n 1, 1) := by decide +kernel
theorem dX12_copyAll_45 : decode cX12_copyAll 45 = .ok (.iload_n 2, 1) := by decide +kernel
theorem dX12_copyAll_46 : decode cX12_copyAll 46 = .ok (.invokestatic 108, 3) := by decide +kernel
theorem dX12_copyAll_49 : decode cX12_copyAll 49 = .ok (.aload_n 0, 1) := by decide +kernel
theorem dX12_copyAll_50 : decode cX12_copyAll 50 = .ok (.getfield 17, 3) := by decide +kernel
theorem dX12_copyAll_53 : decode cX12_copyAll 53 = .ok (.iconst 1, 1) := by decide +kernel
theorem dX12_copyAll_54 : decode cX12_copyAll 54 = .ok (.iload_n 1, 1) := by decide +kernel
theorem dX12_copyAll_55 : decode cX12_copyAll 55 = .ok (.iload_n 2, 1) := by decide +kernel
theorem dX12_copyAll_56 : decode cX12_copyAll 56 = .ok (.invokestatic 108, 3) := by decide +kernel
theorem dX12_copyAll_59 : decode cX12_copyAll 59 = .ok (.aload_n 0, 1) := by decide +kernel
theorem dX12_copyAll_60 : decode cX12_copyAll 60 = .ok (.getfield 20, 3) := by decide +kernel
theorem dX12_copyAll_63 : decode cX12_copyAll 63 = .ok (.iconst 1, 1) := by decide +kernel
theorem dX12_copyAll_64 : decode cX12_copyAll 64 = .ok (.iload_n 1, 1) := by decide +kernel
theorem dX12_copyAll_65 : decode cX12_copyAll 65 = .ok (.iload_n 2, 1) := by decide +kernel
theorem dX12_copyAll_66 : decode cX12_copyAll 66 = .ok (.invokestatic 108, 3) := by decide +kernel
theorem dX12_copyAll_69 : decode cX12_copyAll 69 = .ok (.aload_n 0, 1) := by decide +kernel
theorem dX12_copyAll_70 : decode cX12_copyAll 70 = .ok (.getfield 23, 3) := by decide +kernel
theorem dX12_copyAll_73 : decode cX12_copyAll 73 = .ok (.iconst 4, 1) := by decide +kernel
theorem dX12_copyAll_74 : decode cX12_copyAll 74 = .ok (.iload_n 1, 1) := by decide +kernel
theorem dX12_copyAll_75 : decode cX12_copyAll 75 = .ok (.iload_n 2, 1) := by decide +kernel
theorem dX12_copyAll_76 : decode cX12_copyAll 76 = .ok (.invokestatic 108, 3) := by decide +kernel
theorem dX12_copyAll_79 : decode cX12_copyAll 79 = .ok (.aload_n 0, 1) := by decide +kernel
theorem dX12_copyAll_80 : decode cX12_copyAll 80 = .ok (.getfield 26, 3) := by decide +kernel
theorem dX12_copyAll_83 : decode cX12_copyAll 83 = .ok (.sipush 222, 3) := by decide +kernel
theorem dX12_copyAll_86 : decode cX12_copyAll 86 = .ok (.iload_n 1, 1) := by decide +kernel
theorem dX12_copyAll_87 : decode cX12_copyAll 87 = .ok (.iload_n 2, 1) := by decide +kernel
theorem dX12_copyAll_88 : decode cX12_copyAll 88 = .ok (.invokestatic 108, 3) := by decide +kernel
theorem dX12_copyAll_91 : decode cX12_copyAll 91 = .ok (.aload_n 0, 1) := by decide +kernel
theorem dX12_copyAll_92 : decode cX12_copyAll 92 = .ok (.getfield 29, 3) := by decide +kernel
theorem dX12_copyAll_95 : decode cX12_copyAll 95 = .ok (.sipush 322, 3) := by decide +kernel
theorem dX12_copyAll_98 : decode cX12_copyAll 98 = .ok (.iload_n 1, 1) := by decide +kernel
theorem dX12_copyAll_99 : decode cX12_copyAll 99 = .ok (.iload_n 2, 1) := by decide +kernel
theorem dX12_copyAll_100 : decode cX12_copyAll 100 = .ok (.invokestatic 108, 3) := by decide +kernel
theorem dX12_copyAll_103 : decode cX12_copyAll 103 = .ok (.aload_n 0, 1) := by decide +kernel
theorem dX12_copyAll_104 : decode cX12_copyAll 104 = .ok (.getfield 32, 3) := by decide +kernel
theorem dX12_copyAll_107 : decode cX12_copyAll 107 = .ok (.bipush 34, 2) := by decide +kernel
theorem dX12_copyAll_109 : decode cX12_copyAll 109 = .ok (.iload_n 1, 1) := by decide +kernel
theorem dX12_copyAll_110 : decode cX12_copyAll 110 = .ok (.iload_n 2, 1) := by decide +kernel
theorem dX12_copyAll_111 : decode cX12_copyAll 111 = .ok (.invokestatic 108, 3) := by decide +kernel
theorem dX12_copyAll_114 : decode cX12_copyAll 114 = .ok (.aload_n 0, 1) := by decide +kernel
theorem dX12_copyAll_115 : decode cX12_copyAll 115 = .ok (.getfield 35, 3) := by decide +kernel
theorem dX12_copyAll_118 : decode cX12_copyAll 118 = .ok (.bipush 74, 2) := by decide +kernel
theorem dX12_copyAll_120 : decode cX12_copyAll 120 = .ok (.iload_n 1, 1) := by decide +kernel
theorem dX12_copyAll_121 : decode cX12_copyAll 121 = .ok (.iload_n 2, 1) := by decide +kernel
theorem dX12_copyAll_122 : decode cX12_copyAll 122 = .ok (.invokestatic 108, 3) := by decide +kernel
theorem dX12_copyAll_125 : decode cX12_copyAll 125 = .ok (.return_, 1) := by decide +kernel
theorem dX12_is_0 : decode cX12_is 0 = .ok (.iload_n 2, 1) := by decide +kernel
theorem dX12_is_1 : decode cX12_is 1 = .ok (.iconst 0, 1) := by decide +kernel
theorem dX12_is_2 : decode cX12_is 2 = .ok (.aload_n 0, 1) := by decide +kernel
theorem dX12_is_3 : decode cX12_is 3 = .ok (.getfield 23, 3) := by decide +kernel
theorem dX12_is_6 : decode cX12_is 6 = .ok (.iload_n 1, 1) := by decide +kernel
theorem dX12_is_7 : decode cX12_is 7 = .ok (.iaload, 1) := by decide +kernel
theorem dX12_is_8 : decode cX12_is 8 = .ok (.iconst 1, 1) := by decide +kernel
theorem dX12_is_9 : decode cX12_is 9 = .ok (.isub, 1) := by decide +kernel
theorem dX12_is_10 : decode cX12_is 10 = .ok (.invokestatic 112, 3) := by decide +kernel
theorem dX12_is_13 : decode cX12_is 13 = .ok (.ireturn, 1) := by decide +kernel
theorem dX12_feed_0 : decode cX12_feed 0 = .ok (.aload_n 0, 1) := by decide +kernel
theorem dX12_feed_1 : decode cX12_feed 1 = .ok (.iconst 0, 1) := by decide +kernel
theorem dX12_feed_2 : decode cX12_feed 2 = .ok (.putfield 100, 3) := by decide +kernel
theorem dX12_feed_5 : decode cX12_feed 5 = .ok (.aload_n 0, 1) := by decide +kernel
theorem dX12_feed_6 : decode cX12_feed 6 = .ok (.getfield 13, 3) := by decide +kernel
theorem dX12_feed_9 : decode cX12_feed 9 = .ok (.iconst 0, 1) := by decide +kernel
theorem dX12_feed_10 : decode cX12_feed 10 = .ok (.iaload, 1) := by decide +kernel
theorem dX12_feed_11 : decode cX12_feed 11 = .ok (.bipush 20, 2) := by decide +kernel
theorem dX12_feed_13 : decode cX12_feed 13 = .ok (.iadd, 1) := by decide +kernel
theorem dX12_feed_14 : decode cX12_feed 14 = .ok (.sipush 600, 3) := by decide +kernel
theorem dX12_feed_17 : decode cX12_feed 17 = .ok (.if_icmp .le 5, 3) := by decide +kernel
theorem dX12_feed_20 : decode cX12_feed 20 = .ok (.iconst (-1), 1) := by decide +kernel
theorem dX12_feed_21 : decode cX12_feed 21 = .ok (.ireturn, 1) := by decide +kernel
theorem dX12_feed_22 : decode cX12_feed 22 = .ok (.aload_n 0, 1) := by decide +kernel
theorem dX12_feed_23 : decode cX12_feed 23 = .ok (.iload_n 1, 1) := by decide +kernel
theorem dX12_feed_24 : decode cX12_feed 24 = .ok (.invokevirtual 116, 3) := by decide +kernel
theorem dX12_feed_27 : decode cX12_feed 27 = .ok (.aload_n 0, 1) := by decide +kernel
theorem dX12_feed_28 : decode cX12_feed 28 = .ok (.iload_n 2, 1) := by decide +kernel
theorem dX12_feed_29 : decode cX12_feed 29 = .ok (.invokevirtual 116, 3) := by decide +kernel
theorem dX12_feed_32 : decode cX12_feed 32 = .ok (.aload_n 0, 1) := by decide +kernel
theorem dX12_feed_33 : decode cX12_feed 33 = .ok (.iload_n 3, 1) := by decide +kernel
theorem dX12_feed_34 : decode cX12_feed 34 = .ok (.invokevirtual 116, 3) := by decide +kernel
theorem dX12_feed_37 : decode cX12_feed 37 = .ok (.aload_n 0, 1) := by decide +kernel
theorem dX12_feed_38 : decode cX12_feed 38 = .ok (.iload 4, 2) := by decide +kernel
theorem dX12_feed_40 : decode cX12_feed 40 = .ok (.invokevirtual 116, 3) := by decide +kernel
theorem dX12_feed_43 : decode cX12_feed 43 = .ok (.aload_n 0, 1) := by decide +kernel
theorem dX12_feed_44 : decode cX12_feed 44 = .ok (.iload 5, 2) := by decide +kernel
theorem dX12_feed_46 : decode cX12_feed 46 = .ok (.invokevirtual 116, 3) := by decide +kernel
theorem dX12_feed_49 : decode cX12_feed 49 = .ok (.aload_n 0, 1) := by decide +kernel
theorem dX12_feed_50 : decode cX12_feed 50 = .ok (.getfield 13, 3) := by decide +kernel
theorem dX12_feed_53 : decode cX12_feed 53 = .ok (.iconst 0, 1) := by decide +kernel
theorem dX12_feed_54 : decode cX12_feed 54 = .ok (.iaload, 1) := by decide +kernel
theorem dX12_feed_55 : decode cX12_feed 55 = .ok (.ireturn, 1) := by decide +kernel
theorem dX12_end_0 : decode cX12_end 0 = .ok (.aload_n 0, 1) := by decide +kernel
theorem dX12_end_1 : decode cX12_end 1 = .ok (.iconst 0, 1) := by decide +kernel
theorem dX12_end_2 : decode cX12_end 2 = .ok (.putfield 100, 3) := by decide +kernel
theorem dX12_end_5 : decode cX12_end 5 = .ok (.iload_n 1, 1) := by decide +kernel
theorem dX12_end_6 : decode cX12_end 6 = .ok (.iconst 0, 1) := by decide +kernel
theorem dX12_end_7 : decode cX12_end 7 = .ok (.aload_n 0, 1) := by decide +kernel
theorem dX12_end_8 : decode cX12_end 8 = .ok (.getfield 13, 3) := by decide +kernel
theorem dX12_end_11 : decode cX12_end 11 = .ok (.iconst 0, 1) := by decide +kernel
theorem dX12_end_12 : decode cX12_end 12 = .ok (.iaload, 1) := by decide +kernel
theorem dX12_end_13 : decode cX12_end 13 = .ok (.invokestatic 112, 3) := by decide +kernel
theorem dX12_end_16 : decode cX12_end 16 = .ok (.ifCond .ne 5, 3) := by decide +kernel
theorem dX12_end_19 : decode cX12_end 19 = .ok (.iconst (-1), 1) := by decide +kernel
theorem dX12_end_20 : decode cX12_end 20 = .ok (.ireturn, 1) := by decide +kernel
theorem dX12_end_21 : decode cX12_end 21 = .ok (.aload_n 0, 1) := by decide +kernel
theorem dX12_end_22 : decode cX12_end 22 = .ok (.getfield 13, 3) := by decide +kernel
theorem dX12_end_25 : decode cX12_end 25 = .ok (.iconst 0, 1) := by decide +kernel
theorem dX12_end_26 : decode cX12_end 26 = .ok (.iload_n 1, 1) := by decide +kernel
theorem dX12_end_27 : decode cX12_end 27 = .ok (.iastore, 1) := by decide +kernel
theorem dX12_end_28 : decode cX12_end 28 = .ok (.iload_n 1, 1) := by decide +kernel
theorem dX12_end_29 : decode cX12_end 29 = .ok (.ireturn, 1) := by decide +kernel
theorem dX12_token_0 : decode cX12_token 0 = .ok (.aload_n 0, 1) := by decide +kernel
theorem dX12_token_1 : decode cX12_token 1 = .ok (.invokevirtual 126, 3) := by decide +kernel
theorem dX12_token_4 : decode cX12_token 4 = .ok (.bipush 10, 2) := by decide +kernel
theorem dX12_token_6 : decode cX12_token 6 = .ok (.if_icmp .eq 12, 3) := by decide +kernel
theorem dX12_token_9 : decode cX12_token 9 = .ok (.aload_n 0, 1) := by decide +kernel
theorem dX12_token_10 : decode cX12_token 10 = .ok (.invokevirtual 126, 3) := by decide +kernel
theorem dX12_token_13 : decode cX12_token 13 = .ok (.bipush 32, 2) := by decide +kernel
theorem dX12_token_15 : decode cX12_token 15 = .ok (.if_icmp .ne 16, 3) := by decide +kernel
theorem dX12_token_18 : decode cX12_token 18 = .ok (.aload_n 0, 1) := by decide +kernel
theorem dX12_token_19 : decode cX12_token 19 = .ok (.dup, 1) := by decide +kernel
theorem dX12_token_20 : decode cX12_token 20 = .ok (.getfield 120, 3) := by decide +kernel
theorem dX12_token_23 : decode cX12_token 23 = .ok (.iconst 1, 1) := by decide +kernel
theorem dX12_token_24 : decode cX12_token 24 = .ok (.iadd, 1) := by decide +kernel
theorem dX12_token_25 : decode cX12_token 25 = .ok (.putfield 120, 3) := by decide +kernel
theorem dX12_token_28 : decode cX12_token 28 = .ok (.goto (-28), 3) := by decide +kernel
theorem dX12_token_31 : decode cX12_token 31 = .ok (.aload_n 0, 1) := by decide +kernel
theorem dX12_token_32 : decode cX12_token 32 = .ok (.aload_n 0, 1) := by decide +kernel
theorem dX12_token_33 : decode cX12_token 33 = .ok (.getfield 120, 3) := by decide +kernel
theorem dX12_token_36 : decode cX12_token 36 = .ok (.putfield 130, 3) := by decide +kernel
theorem dX12_token_39 : decode cX12_token 39 = .ok (.aload_n 0, 1) := by decide +kernel
theorem dX12_token_40 : decode cX12_token 40 = .ok (.invokevirtual 126, 3) := by decide +kernel
theorem dX12_token_43 : decode cX12_token 43 = .ok (.istore_n 1, 1) := by decide +kernel
theorem dX12_token_44 : decode cX12_token 44 = .ok (.aload_n 0, 1) := by decide +kernel
theorem dX12_token_45 : decode cX12_token 45 = .ok (.lconst 0, 1) := by decide +kernel
theorem dX12_token_46 : decode cX12_token 46 = .ok (.putfield 133, 3) := by decide +kernel
theorem dX12_token_49 : decode cX12_token 49 = .ok (.iconst 0, 1) := by decide +kernel
theorem dX12_token_50 : decode cX12_token 50 = .ok (.istore_n 2, 1) := by decide +kernel
theorem dX12_token_51 : decode cX12_token 51 = .ok (.iload_n 1, 1) := by decide +kernel
theorem dX12_token_52 : decode cX12_token 52 = .ok (.ifCond .ge 11, 3) := by decide +kernel
theorem dX12_token_55 : decode cX12_token 55 = .ok (.aload_n 0, 1) := by decide +kernel
theorem dX12_token_56 : decode cX12_token 56 = .ok (.iconst 0, 1) := by decide +kernel
theorem dX12_token_57 : decode cX12_token 57 = .ok (.putfield 137, 3) := by decide +kernel
theorem dX12_token_60 : decode cX12_token 60 = .ok (.goto 206, 3) := by decide +kernel
theorem dX12_token_63 : decode cX12_token 63 = .ok (.iload_n 1, 1) := by decide +kernel
theorem dX12_token_64 : decode cX12_token 64 = .ok (.bipush 97, 2) := by decide +kernel
theorem dX12_token_66 : decode cX12_token 66 = .ok (.bipush 122, 2) := by decide +kernel
theorem dX12_token_68 : decode cX12_token 68 = .ok (.invokestatic 112, 3) := by decide +kernel
theorem dX12_token_71 : decode cX12_token 71 = .ok (.ifCond .eq 76, 3) := by decide +kernel
theorem dX12_token_74 : decode cX12_token 74 = .ok (.aload_n 0, 1) := by decide +kernel
theorem dX12_token_75 : decode cX12_token 75 = .ok (.invokevirtual 126, 3) := by decide +kernel
theorem dX12_token_78 : decode cX12_token 78 = .ok (.bipush 97, 2) := by decide +kernel
theorem dX12_token_80 : decode cX12_token 80 = .ok (.bipush 122, 2) := by decide +kernel
theorem dX12_token_82 : decode cX12_token 82 = .ok (.invokestatic 112, 3) := by decide +kernel
theorem dX12_token_85 : decode cX12_token 85 = .ok (.ifCond .eq 36, 3) := by decide +kernel
theorem dX12_token_88 : decode cX12_token 88 = .ok (.aload_n 0, 1) := by decide +kernel
theorem dX12_token_89 : decode cX12_token 89 = .ok (.aload_n 0, 1) := by decide +kernel
theorem dX12_token_90 : decode cX12_token 90 = .ok (.getfield 133, 3) := by decide +kernel
theorem dX12_token_93 : decode cX12_token 93 = .ok (.bipush 8, 2) := by decide +kernel
theorem dX12_token_95 : decode cX12_token 95 = .ok (.lshl, 1) := by decide +kernel
theorem dX12_token_96 : decode cX12_token 96 = .ok (.aload_n 0, 1) := by decide +kernel
theorem dX12_token_97 : decode cX12_token 97 = .ok (.invokevirtual 126, 3) := by decide +kernel
theorem dX12_token_100 : decode cX12_token 100 = .ok (.i2l, 1) := by decide +kernel
theorem dX12_token_101 : decode cX12_token 101 = .ok (.lor, 1) := by decide +kernel
theorem dX12_token_102 : decode cX12_token 102 = .ok (.putfield 133, 3) := by decide +kernel
theorem dX12_token_105 : decode cX12_token 105 = .ok (.aload_n 0, 1) := by decide +kernel
theorem dX12_token_106 : decode cX12_token 106 = .ok (.dup, 1) := by decide +kernel
theorem dX12_token_107 : decode cX12_token 107 = .ok (.getfield 120, 3) := by decide +kernel
theorem dX12_token_110 : decode cX12_token 110 = .ok (.iconst 1, 1) := by decide +kernel
theorem dX12_token_111 : decode cX12_token 111 = .ok (.iadd, 1) := by decide +kernel
theorem dX12_token_112 : decode cX12_token 112 = .ok (.putfield 120, 3) := by decide +kernel
theorem dX12_token_115 : decode cX12_token 115 = .ok (.iinc 2 1, 3) := by decide +kernel
theorem dX12_token_118 : decode cX12_token 118 = .ok (.goto (-44), 3) := by decide +kernel
theorem dX12_token_121 : decode cX12_token 121 = .ok (.aload_n 0, 1) := by decide +kernel
theorem dX12_token_122 : decode cX12_token 122 = .ok (.iload_n 2, 1) := by decide +kernel
theorem dX12_token_123 : decode cX12_token 123 = .ok (.bipush 8, 2) := by decide +kernel
theorem dX12_token_125 : decode cX12_token 125 = .ok (.if_icmp .le 7, 3) := by decide +kernel
theorem dX12_token_128 : decode cX12_token 128 = .ok (.lconst 0, 1) := by decide +kernel
theorem dX12_token_129 : decode cX12_token 129 = .ok (.goto 7, 3) := by decide +kernel
theorem dX12_token_132 : decode cX12_token 132 = .ok (.aload_n 0, 1) := by decide +kernel
theorem dX12_token_133 : decode cX12_token 133 = .ok (.getfield 133, 3) := by decide +kernel
theorem dX12_token_136 : decode cX12_token 136 = .ok (.putfield 133, 3) := by decide +kernel
theorem dX12_token_139 : decode cX12_token 139 = .ok (.aload_n 0, 1) := by decide +kernel
theorem dX12_token_140 : decode cX12_token 140 = .ok (.iconst 2, 1) := by decide +kernel
theorem dX12_token_141 : decode cX12_token 141 = .ok (.putfield 137, 3) := by decide +kernel
theorem dX12_token_144 : decode cX12_token 144 = .ok (.goto 122, 3) := by decide +kernel
theorem dX12_token_147 : decode cX12_token 147 = .ok (.iload_n 1, 1) := by decide +kernel
theorem dX12_token_148 : decode cX12_token 148 = .ok (.bipush 48, 2) := by decide +kernel
theorem dX12_token_150 : decode cX12_token 150 = .ok (.bipush 57, 2) := by decide +kernel
theorem dX12_token_152 : decode cX12_token 152 = .ok (.invokestatic 112, 3) := by decide +kernel
theorem dX12_token_155 : decode cX12_token 155 = .ok (.ifCond .eq 86, 3) := by decide +kernel
theorem dX12_token_158 : decode cX12_token 158 = .ok (.aload_n 0, 1) := by decide +kernel
theorem dX12_token_159 : decode cX12_token 159 = .ok (.iconst 0, 1) := by decide +kernel
theorem dX12_token_160 : decode cX12_token 160 = .ok (.putfield 140, 3) := by decide +kernel
theorem dX12_token_163 : decode cX12_token 163 = .ok (.aload_n 0, 1) := by decide +kernel
theorem dX12_token_164 : decode cX12_token 164 = .ok (.invokevirtual 126, 3) := by decide +kernel
theorem dX12_token_167 : decode cX12_token 167 = .ok (.bipush 48, 2) := by decide +kernel
theorem dX12_token_169 : decode cX12_token 169 = .ok (.bipush 57, 2) := by decide +kernel
theorem dX12_token_171 : decode cX12_token 171 = .ok (.invokestatic 112, 3) := by decide +kernel
theorem dX12_token_174 : decode cX12_token 174 = .ok (.ifCond .eq 50, 3) := by decide +kernel
theorem dX12_token_177 : decode cX12_token 177 = .ok (.aload_n 0, 1) := by decide +kernel
theorem dX12_token_178 : decode cX12_token 178 = .ok (.iload_n 2, 1) := by decide +kernel
theorem dX12_token_179 : decode cX12_token 179 = .ok (.iconst 2, 1) := by decide +kernel
theorem dX12_token_180 : decode cX12_token 180 = .ok (.if_icmp .ge 21, 3) := by decide +kernel
theorem dX12_token_183 : decode cX12_token 183 = .ok (.bipush 10, 2) := by decide +kernel
theorem dX12_token_185 : decode cX12_token 185 = .ok (.aload_n 0, 1) := by decide +kernel
theorem dX12_token_186 : decode cX12_token 186 = .ok (.getfield 140, 3) := by decide +kernel
theorem dX12_token_189 : decode cX12_token 189 = .ok (.imul, 1) := by decide +kernel
theorem dX12_token_190 : decode cX12_token 190 = .ok (.aload_n 0, 1) := by decide +kernel
theorem dX12_token_191 : decode cX12_token 191 = .ok (.invokevirtual 126, 3) := by decide +kernel
theorem dX12_token_194 : decode cX12_token 194 = .ok (.iadd, 1) := by decide +kernel
theorem dX12_token_195 : decode cX12_token 195 = .ok (.bipush 48, 2) := by decide +kernel
theorem dX12_token_197 : decode cX12_token 197 = .ok (.isub, 1) := by decide +kernel
theorem dX12_token_198 : decode cX12_token 198 = .ok (.goto 7, 3) := by decide +kernel
theorem dX12_token_201 : decode cX12_token 201 = .ok (.aload_n 0, 1) := by decide +kernel
theorem dX12_token_202 : decode cX12_token 202 = .ok (.getfield 140, 3) := by decide +kernel
theorem dX12_token_205 : decode cX12_token 205 = .ok (.putfield 140, 3) := by decide +kernel
theorem dX12_token_208 : decode cX12_token 208 = .ok (.aload_n 0, 1) := by decide +kernel
theorem dX12_token_209 : decode cX12_token 209 = .ok (.dup, 1) := by decide +kernel
theorem dX12_token_210 : decode cX12_token 210 = .ok (.getfield 120, 3) := by decide +kernel
theorem dX12_token_213 : decode cX12_token 213 = .ok (.iconst 1, 1) := by decide +kernel
theorem dX12_token_214 : decode cX12_token 214 = .ok (.iadd, 1) := by decide +kernel
theorem dX12_token_215 : decode cX12_token 215 = .ok (.putfield 120, 3) := by decide +kernel
theorem dX12_token_218 : decode cX12_token 218 = .ok (.iinc 2 1, 3) := by decide +kernel
theorem dX12_token_221 : decode cX12_token 221 = .ok (.goto (-58), 3) := by decide +kernel
theorem dX12_token_224 : decode cX12_token 224 = .ok (.aload_n 0, 1) := by decide +kernel
theorem dX12_token_225 : decode cX12_token 225 = .ok (.iload_n 2, 1) := by decide +kernel
theorem dX12_token_226 : decode cX12_token 226 = .ok (.iconst 2, 1) := by decide +kernel
theorem dX12_token_227 : decode cX12_token 227 = .ok (.if_icmp .le 7, 3) := by decide +kernel
theorem dX12_token_230 : decode cX12_token 230 = .ok (.iconst 1, 1) := by decide +kernel
theorem dX12_token_231 : decode cX12_token 231 = .ok (.goto 4, 3) := by decide +kernel
theorem dX12_token_234 : decode cX12_token 234 = .ok (.iconst 3, 1) := by decide +kernel
theorem dX12_token_235 : decode cX12_token 235 = .ok (.putfield 137, 3) := by decide +kernel
theorem dX12_token_238 : decode cX12_token 238 = .ok (.goto 28, 3) := by decide +kernel
theorem dX12_token_241 : decode cX12_token 241 = .ok (.aload_n 0, 1) := by decide +kernel
theorem dX12_token_242 : decode cX12_token 242 = .ok (.dup, 1) := by decide +kernel
theorem dX12_token_243 : decode cX12_token 243 = .ok (.getfield 120, 3) := by decide +kernel
theorem dX12_token_246 : decode cX12_token 246 = .ok (.iconst 1, 1) := by decide +kernel
theorem dX12_token_247 : decode cX12_token 247 = .ok (.iadd, 1) := by decide +kernel
theorem dX12_token_248 : decode cX12_token 248 = .ok (.putfield 120, 3) := by decide +kernel
theorem dX12_token_251 : decode cX12_token 251 = .ok (.aload_n 0, 1) := by decide +kernel
theorem dX12_token_252 : decode cX12_token 252 = .ok (.iload_n 1, 1) := by decide +kernel
theorem dX12_token_253 : decode cX12_token 253 = .ok (.bipush 59, 2) := by decide +kernel
theorem dX12_token_255 : decode cX12_token 255 = .ok (.if_icmp .ne 7, 3) := by decide +kernel
theorem dX12_token_258 : decode cX12_token 258 = .ok (.iconst 4, 1) := by decide +kernel
theorem dX12_token_259 : decode cX12_token 259 = .ok (.goto 4, 3) := by decide +kernel
theorem dX12_token_262 : decode cX12_token 262 = .ok (.iconst 1, 1) := by decide +kernel
theorem dX12_token_263 : decode cX12_token 263 = .ok (.putfield 137, 3) := by decide +kernel
theorem dX12_token_266 : decode cX12_token 266 = .ok (.return_, 1) := by decide +kernel
theorem dX12_full_0 : decode cX12_full 0 = .ok (.aload_n 0, 1) := by decide +kernel
theorem dX12_full_1 : decode cX12_full 1 = .ok (.getfield 38, 3) := by decide +kernel
theorem dX12_full_4 : decode cX12_full 4 = .ok (.iload_n 1, 1) := by decide +kernel
theorem dX12_full_5 : decode cX12_full 5 = .ok (.iaload, 1) := by decide +kernel
theorem dX12_full_6 : decode cX12_full 6 = .ok (.iload_n 2, 1) := by decide +kernel
theorem dX12_full_7 : decode cX12_full 7 = .ok (.if_icmp .ne 9, 3) := by decide +kernel
theorem dX12_full_10 : decode cX12_full 10 = .ok (.aload_n 0, 1) := by decide +kernel
theorem dX12_full_11 : decode cX12_full 11 = .ok (.iconst 3, 1) := by decide +kernel
theorem dX12_full_12 : decode cX12_full 12 = .ok (.iload_n 3, 1) := by decide +kernel
theorem dX12_full_13 : decode cX12_full 13 = .ok (.invokevirtual 156, 3) := by decide +kernel
theorem dX12_full_16 : decode cX12_full 16 = .ok (.return_, 1) := by decide +kernel
theorem dX12_storeAll_0 : decode cX12_storeAll 0 = .ok (.iload_n 1, 1) := by decide +kernel
theorem dX12_storeAll_1 : decode cX12_storeAll 1 = .ok (.tableswitch 64 0 2 #[27, 39, 52], 27) := by decide +kernel
theorem dX12_storeAll_28 : decode cX12_storeAll 28 = .ok (.aload_n 0, 1) := by decide +kernel
theorem dX12_storeAll_29 : decode cX12_storeAll 29 = .ok (.aload_n 0, 1) := by decide +kernel
theorem dX12_storeAll_30 : decode cX12_storeAll 30 = .ok (.getfield 26, 3) := by decide +kernel
theorem dX12_storeAll_33 : decode cX12_storeAll 33 = .ok (.bipush 111, 2) := by decide +kernel
theorem dX12_storeAll_35 : decode cX12_storeAll 35 = .ok (.iload_n 2, 1) := by decide +kernel
theorem dX12_storeAll_36 : decode cX12_storeAll 36 = .ok (.invokevirtual 263, 3) := by decide +kernel
theorem dX12_storeAll_39 : decode cX12_storeAll 39 = .ok (.return_, 1) := by decide +kernel
theorem dX12_storeAll_40 : decode cX12_storeAll 40 = .ok (.aload_n 0, 1) := by decide +kernel
theorem dX12_storeAll_41 : decode cX12_storeAll 41 = .ok (.aload_n 0, 1) := by decide +kernel
theorem dX12_storeAll_42 : decode cX12_storeAll 42 = .ok (.getfield 29, 3) := by decide +kernel
theorem dX12_storeAll_45 : decode cX12_storeAll 45 = .ok (.sipush 161, 3) := by decide +kernel
theorem dX12_storeAll_48 : decode cX12_storeAll 48 = .ok (.iload_n 2, 1) := by decide +kernel
theorem dX12_storeAll_49 : decode cX12_storeAll 49 = .ok (.invokevirtual 263, 3) := by decide +kernel
theorem dX12_storeAll_52 : decode cX12_storeAll 52 = .ok (.return_, 1) := by decide +kernel
theorem dX12_storeAll_53 : decode cX12_storeAll 53 = .ok (.aload_n 0, 1) := by decide +kernel
theorem dX12_storeAll_54 : decode cX12_storeAll 54 = .ok (.aload_n 0, 1) := by decide +kernel
theorem dX12_storeAll_55 : decode cX12_storeAll 55 = .ok (.getfield 32, 3) := by decide +kernel
theorem dX12_storeAll_58 : decode cX12_storeAll 58 = .ok (.bipush 17, 2) := by decide +kernel
theorem dX12_storeAll_60 : decode cX12_storeAll 60 = .ok (.iload_n 2, 1) := by decide +kernel
theorem dX12_storeAll_61 : decode cX12_storeAll 61 = .ok (.invokevirtual 263, 3) := by decide +kernel
theorem dX12_storeAll_64 : decode cX12_storeAll 64 = .ok (.return_, 1) := by decide +kernel
theorem dX12_storeAll_65 : decode cX12_storeAll 65 = .ok (.aload_n 0, 1) := by decide +kernel
theorem dX12_storeAll_66 : decode cX12_storeAll 66 = .ok (.aload_n 0, 1) := by decide +kernel
theorem dX12_storeAll_67 : decode cX12_storeAll 67 = .ok (.getfield 35, 3) := by decide +kernel
theorem dX12_storeAll_70 : decode cX12_storeAll 70 = .ok (.bipush 37, 2) := by decide +kernel
theorem dX12_storeAll_72 : decode cX12_storeAll 72 = .ok (.iload_n 2, 1) := by decide +kernel
theorem dX12_storeAll_73 : decode cX12_storeAll 73 = .ok (.invokevirtual 263, 3) := by decide +kernel
theorem dX12_storeAll_76 : decode cX12_storeAll 76 = .ok (.return_, 1) := by decide +kernel
theorem dX12_isMinute_0 : decode cX12_isMinute 0 = .ok (.iload_n 1, 1) := by decide +kernel
theorem dX12_isMinute_1 : decode cX12_isMinute 1 = .ok (.iconst 0, 1) := by decide +kernel
theorem dX12_isMinute_2 : decode cX12_isMinute 2 = .ok (.aload_n 0, 1) := by decide +kernel
theorem dX12_isMinute_3 : decode cX12_isMinute 3 = .ok (.getfield 283, 3) := by decide +kernel
theorem dX12_isMinute_6 : decode cX12_isMinute 6 = .ok (.iconst 1, 1) := by decide +kernel
theorem dX12_isMinute_7 : decode cX12_isMinute 7 = .ok (.isub, 1) := by decide +kernel
theorem dX12_isMinute_8 : decode cX12_isMinute 8 = .ok (.invokestatic 112, 3) := by decide +kernel
theorem dX12_isMinute_11 : decode cX12_isMinute 11 = .ok (.ireturn, 1) := by decide +kernel
theorem dX12_isPerson_0 : decode cX12_isPerson 0 = .ok (.iload_n 1, 1) := by decide +kernel
theorem dX12_isPerson_1 : decode cX12_isPerson 1 = .ok (.iconst 0, 1) := by decide +kernel
theorem dX12_isPerson_2 : decode cX12_isPerson 2 = .ok (.aload_n 0, 1) := by decide +kernel
theorem dX12_isPerson_3 : decode cX12_isPerson 3 = .ok (.getfield 286, 3) := by decide +kernel
theorem dX12_isPerson_6 : decode cX12_isPerson 6 = .ok (.iconst 1, 1) := by decide +kernel
theorem dX12_isPerson_7 : decode cX12_isPerson 7 = .ok (.isub, 1) := by decide +kernel
theorem dX12_isPerson_8 : decode cX12_isPerson 8 = .ok (.invokestatic 112, 3) := by decide +kernel
theorem dX12_isPerson_11 : decode cX12_isPerson 11 = .ok (.ireturn, 1) := by decide +kernel
theorem dX12_isTask_0 : decode cX12_isTask 0 = .ok (.iload_n 1, 1) := by decide +kernel
theorem dX12_isTask_1 : decode cX12_isTask 1 = .ok (.iconst 0, 1) := by decide +kernel
theorem dX12_isTask_2 : decode cX12_isTask 2 = .ok (.aload_n 0, 1) := by decide +kernel
theorem dX12_isTask_3 : decode cX12_isTask 3 = .ok (.getfield 289, 3) := by decide +kernel
theorem dX12_isTask_6 : decode cX12_isTask 6 = .ok (.iconst 1, 1) := by decide +kernel
theorem dX12_isTask_7 : decode cX12_isTask 7 = .ok (.isub, 1) := by decide +kernel
theorem dX12_isTask_8 : decode cX12_isTask 8 = .ok (.invokestatic 112, 3) := by decide +kernel
theorem dX12_isTask_11 : decode cX12_isTask 11 = .ok (.ireturn, 1) := by decide +kernel
theorem dX12_isSet_0 : decode cX12_isSet 0 = .ok (.iload_n 1, 1) := by decide +kernel
theorem dX12_isSet_1 : decode cX12_isSet 1 = .ok (.iconst 0, 1) := by decide +kernel
theorem dX12_isSet_2 : decode cX12_isSet 2 = .ok (.iconst 1, 1) := by decide +kernel
theorem dX12_isSet_3 : decode cX12_isSet 3 = .ok (.aload_n 0, 1) := by decide +kernel
theorem dX12_isSet_4 : decode cX12_isSet 4 = .ok (.getfield 289, 3) := by decide +kernel
theorem dX12_isSet_7 : decode cX12_isSet 7 = .ok (.ishl, 1) := by decide +kernel
theorem dX12_isSet_8 : decode cX12_isSet 8 = .ok (.iconst 1, 1) := by decide +kernel
theorem dX12_isSet_9 : decode cX12_isSet 9 = .ok (.isub, 1) := by decide +kernel
theorem dX12_isSet_10 : decode cX12_isSet 10 = .ok (.invokestatic 112, 3) := by decide +kernel
theorem dX12_isSet_13 : decode cX12_isSet 13 = .ok (.ireturn, 1) := by decide +kernel
theorem dX12_lengthOf_0 : decode cX12_lengthOf 0 = .ok (.aload_n 0, 1) := by decide +kernel
theorem dX12_lengthOf_1 : decode cX12_lengthOf 1 = .ok (.bipush 7, 2) := by decide +kernel
theorem dX12_lengthOf_3 : decode cX12_lengthOf 3 = .ok (.iload_n 1, 1) := by decide +kernel
theorem dX12_lengthOf_4 : decode cX12_lengthOf 4 = .ok (.iadd, 1) := by decide +kernel
theorem dX12_lengthOf_5 : decode cX12_lengthOf 5 = .ok (.invokevirtual 279, 3) := by decide +kernel
theorem dX12_lengthOf_8 : decode cX12_lengthOf 8 = .ok (.ireturn, 1) := by decide +kernel
theorem dX12_ofState_0 : decode cX12_ofState 0 = .ok (.iload_n 1, 1) := by decide +kernel
theorem dX12_ofState_1 : decode cX12_ofState 1 = .ok (.bipush 10, 2) := by decide +kernel
theorem dX12_ofState_3 : decode cX12_ofState 3 = .ok (.irem, 1) := by decide +kernel
theorem dX12_ofState_4 : decode cX12_ofState 4 = .ok (.istore_n 2, 1) := by decide +kernel
theorem dX12_ofState_5 : decode cX12_ofState 5 = .ok (.iload_n 1, 1) := by decide +kernel
theorem dX12_ofState_6 : decode cX12_ofState 6 = .ok (.bipush 100, 2) := by decide +kernel
theorem dX12_ofState_8 : decode cX12_ofState 8 = .ok (.if_icmp .lt 75, 3) := by decide +kernel
theorem dX12_ofState_11 : decode cX12_ofState 11 = .ok (.iload_n 1, 1) := by decide +kernel
theorem dX12_ofState_12 : decode cX12_ofState 12 = .ok (.bipush 100, 2) := by decide +kernel
theorem dX12_ofState_14 : decode cX12_ofState 14 = .ok (.irem, 1) := by decide +kernel
theorem dX12_ofState_15 : decode cX12_ofState 15 = .ok (.istore_n 3, 1) := by decide +kernel
theorem dX12_ofState_16 : decode cX12_ofState 16 = .ok (.iload_n 3, 1) := by decide +kernel
theorem dX12_ofState_17 : decode cX12_ofState 17 = .ok (.aload_n 0, 1) := by decide +kernel
theorem dX12_ofState_18 : decode cX12_ofState 18 = .ok (.getfield 283, 3) := by decide +kernel
theorem dX12_ofState_21 : decode cX12_ofState 21 = .ok (.if_icmp .ge 10, 3) := by decide +kernel
theorem dX12_ofState_24 : decode cX12_ofState 24 = .ok (.iload_n 1, 1) := by decide +kernel
theorem dX12_ofState_25 : decode cX12_ofState 25 = .ok (.sipush 400, 3) := by decide +kernel
theorem dX12_ofState_28 : decode cX12_ofState 28 = .ok (.if_icmp .lt 8, 3) := by decide +kernel
theorem dX12_ofState_31 : decode cX12_ofState 31 = .ok (.bipush (-2), 2) := by decide +kernel
theorem dX12_ofState_33 : decode cX12_ofState 33 = .ok (.goto 49, 3) := by decide +kernel
theorem dX12_ofState_36 : decode cX12_ofState 36 = .ok (.iload_n 1, 1) := by decide +kernel
theorem dX12_ofState_37 : decode cX12_ofState 37 = .ok (.sipush 200, 3) := by decide +kernel
theorem dX12_ofState_40 : decode cX12_ofState 40 = .ok (.if_icmp .ge 12, 3) := by decide +kernel
theorem dX12_ofState_43 : decode cX12_ofState 43 = .ok (.aload_n 0, 1) := by decide +kernel
theorem dX12_ofState_44 : decode cX12_ofState 44 = .ok (.getfield 47, 3) := by decide +kernel
theorem dX12_ofState_47 : decode cX12_ofState 47 = .ok (.iload_n 3, 1) := by decide +kernel
theorem dX12_ofState_48 : decode cX12_ofState 48 = .ok (.iaload, 1) := by decide +kernel
theorem dX12_ofState_49 : decode cX12_ofState 49 = .ok (.goto 33, 3) := by decide +kernel
theorem dX12_ofState_52 : decode cX12_ofState 52 = .ok (.iload_n 1, 1) := by decide +kernel
theorem dX12_ofState_53 : decode cX12_ofState 53 = .ok (.sipush 300, 3) := by decide +kernel
theorem dX12_ofState_56 : decode cX12_ofState 56 = .ok (.if_icmp .ge 12, 3) := by decide +kernel
theorem dX12_ofState_59 : decode cX12_ofState 59 = .ok (.aload_n 0, 1) := by decide +kernel
theorem dX12_ofState_60 : decode cX12_ofState 60 = .ok (.getfield 50, 3) := by decide +kernel
theorem dX12_ofState_63 : decode cX12_ofState 63 = .ok (.iload_n 3, 1) := by decide +kernel
theorem dX12_ofState_64 : decode cX12_ofState 64 = .ok (.iaload, 1) := by decide +kernel
theorem dX12_ofState_65 : decode cX12_ofState 65 = .ok (.goto 17, 3) := by decide +kernel
theorem dX12_ofState_68 : decode cX12_ofState 68 = .ok (.aload_n 0, 1) := by decide +kernel
theorem dX12_ofState_69 : decode cX12_ofState 69 = .ok (.getfield 53, 3) := by decide +kernel
theorem dX12_ofState_72 : decode cX12_ofState 72 = .ok (.iload_n 3, 1) := by decide +kernel
theorem dX12_ofState_73 : decode cX12_ofState 73 = .ok (.baload, 1) := by decide +kernel
theorem dX12_ofState_74 : decode cX12_ofState 74 = .ok (.ifCond .eq 7, 3) := by decide +kernel
theorem dX12_ofState_77 : decode cX12_ofState 77 = .ok (.iconst 1, 1) := by decide +kernel
theorem dX12_ofState_78 : decode cX12_ofState 78 = .ok (.goto 4, 3) := by decide +kernel
theorem dX12_ofState_81 : decode cX12_ofState 81 = .ok (.iconst 0, 1) := by decide +kernel
theorem dX12_ofState_82 : decode cX12_ofState 82 = .ok (.ireturn, 1) := by decide +kernel
theorem dX12_ofState_83 : decode cX12_ofState 83 = .ok (.iload_n 1, 1) := by decide +kernel
theorem dX12_ofState_84 : decode cX12_ofState 84 = .ok (.bipush 10, 2) := by decide +kernel
theorem dX12_ofState_86 : decode cX12_ofState 86 = .ok (.idiv, 1) := by decide +kernel
theorem dX12_ofState_87 : decode cX12_ofState 87 = .ok (.tableswitch 108 0 3 #[29, 49, 69, 88], 29) := by decide +kernel
theorem dX12_ofState_116 : decode cX12_ofState 116 = .ok (.iload_n 1, 1) := by decide +kernel
theorem dX12_ofState_117 : decode cX12_ofState 117 = .ok (.iconst 0, 1) := by decide +kernel
theorem dX12_ofState_118 : decode cX12_ofState 118 = .ok (.iconst 2, 1) := by decide +kernel
theorem dX12_ofState_119 : decode cX12_ofState 119 = .ok (.invokestatic 112, 3) := by decide +kernel
theorem dX12_ofState_122 : decode cX12_ofState 122 = .ok (.ifCond .eq 11, 3) := by decide +kernel
theorem dX12_ofState_125 : decode cX12_ofState 125 = .ok (.aload_n 0, 1) := by decide +kernel
theorem dX12_ofState_126 : decode cX12_ofState 126 = .ok (.iload_n 1, 1) := by decide +kernel
theorem dX12_ofState_127 : decode cX12_ofState 127 = .ok (.invokevirtual 362, 3) := by decide +kernel
theorem dX12_ofState_130 : decode cX12_ofState 130 = .ok (.goto 5, 3) := by decide +kernel
theorem dX12_ofState_133 : decode cX12_ofState 133 = .ok (.bipush (-2), 2) := by decide +kernel
theorem dX12_ofState_135 : decode cX12_ofState 135 = .ok (.ireturn, 1) := by decide +kernel
theorem dX12_ofState_136 : decode cX12_ofState 136 = .ok (.iload_n 2, 1) := by decide +kernel
theorem dX12_ofState_137 : decode cX12_ofState 137 = .ok (.aload_n 0, 1) := by decide +kernel
theorem dX12_ofState_138 : decode cX12_ofState 138 = .ok (.getfield 286, 3) := by decide +kernel
theorem dX12_ofState_141 : decode cX12_ofState 141 = .ok (.if_icmp .ge 12, 3) := by decide +kernel
theorem dX12_ofState_144 : decode cX12_ofState 144 = .ok (.aload_n 0, 1) := by decide +kernel
theorem dX12_ofState_145 : decode cX12_ofState 145 = .ok (.getfield 44, 3) := by decide +kernel
theorem dX12_ofState_148 : decode cX12_ofState 148 = .ok (.iload_n 2, 1) := by decide +kernel
theorem dX12_ofState_149 : decode cX12_ofState 149 = .ok (.iaload, 1) := by decide +kernel
theorem dX12_ofState_150 : decode cX12_ofState 150 = .ok (.goto 5, 3) := by decide +kernel
theorem dX12_ofState_153 : decode cX12_ofState 153 = .ok (.bipush (-2), 2) := by decide +kernel
theorem dX12_ofState_155 : decode cX12_ofState 155 = .ok (.ireturn, 1) := by decide +kernel
theorem dX12_ofState_156 : decode cX12_ofState 156 = .ok (.iload_n 2, 1) := by decide +kernel
theorem dX12_ofState_157 : decode cX12_ofState 157 = .ok (.aload_n 0, 1) := by decide +kernel
theorem dX12_ofState_158 : decode cX12_ofState 158 = .ok (.getfield 286, 3) := by decide +kernel
theorem dX12_ofState_161 : decode cX12_ofState 161 = .ok (.if_icmp .ge 11, 3) := by decide +kernel
theorem dX12_ofState_164 : decode cX12_ofState 164 = .ok (.aload_n 0, 1) := by decide +kernel
theorem dX12_ofState_165 : decode cX12_ofState 165 = .ok (.iload_n 2, 1) := by decide +kernel
theorem dX12_ofState_166 : decode cX12_ofState 166 = .ok (.invokevirtual 365, 3) := by decide +kernel
theorem dX12_ofState_169 : decode cX12_ofState 169 = .ok (.goto 5, 3) := by decide +kernel
theorem dX12_ofState_172 : decode cX12_ofState 172 = .ok (.bipush (-2), 2) := by decide +kernel
theorem dX12_ofState_174 : decode cX12_ofState 174 = .ok (.ireturn, 1) := by decide +kernel
theorem dX12_ofState_175 : decode cX12_ofState 175 = .ok (.iload_n 2, 1) := by decide +kernel
theorem dX12_ofState_176 : decode cX12_ofState 176 = .ok (.aload_n 0, 1) := by decide +kernel
theorem dX12_ofState_177 : decode cX12_ofState 177 = .ok (.getfield 289, 3) := by decide +kernel
theorem dX12_ofState_180 : decode cX12_ofState 180 = .ok (.if_icmp .ge 12, 3) := by decide +kernel
theorem dX12_ofState_183 : decode cX12_ofState 183 = .ok (.aload_n 0, 1) := by decide +kernel
theorem dX12_ofState_184 : decode cX12_ofState 184 = .ok (.getfield 57, 3) := by decide +kernel
theorem dX12_ofState_187 : decode cX12_ofState 187 = .ok (.iload_n 2, 1) := by decide +kernel
theorem dX12_ofState_188 : decode cX12_ofState 188 = .ok (.iaload, 1) := by decide +kernel
theorem dX12_ofState_189 : decode cX12_ofState 189 = .ok (.goto 5, 3) := by decide +kernel
theorem dX12_ofState_192 : decode cX12_ofState 192 = .ok (.bipush (-2), 2) := by decide +kernel
theorem dX12_ofState_194 : decode cX12_ofState 194 = .ok (.ireturn, 1) := by decide +kernel
theorem dX12_ofState_195 : decode cX12_ofState 195 = .ok (.bipush (-2), 2) := by decide +kernel
theorem dX12_ofState_197 : decode cX12_ofState 197 = .ok (.ireturn, 1) := by decide +kernel
theorem dX12_worthOf_0 : decode cX12_worthOf 0 = .ok (.iconst 0, 1) := by decide +kernel
theorem dX12_worthOf_1 : decode cX12_worthOf 1 = .ok (.istore_n 2, 1) := by decide +kernel
theorem dX12_worthOf_2 : decode cX12_worthOf 2 = .ok (.iconst 0, 1) := by decide +kernel
theorem dX12_worthOf_3 : decode cX12_worthOf 3 = .ok (.istore_n 3, 1) := by decide +kernel
theorem dX12_worthOf_4 : decode cX12_worthOf 4 = .ok (.iload_n 3, 1) := by decide +kernel
theorem dX12_worthOf_5 : decode cX12_worthOf 5 = .ok (.aload_n 0, 1) := by decide +kernel
theorem dX12_worthOf_6 : decode cX12_worthOf 6 = .ok (.getfield 289, 3) := by decide +kernel
theorem dX12_worthOf_9 : decode cX12_worthOf 9 = .ok (.if_icmp .ge 32, 3) := by decide +kernel
theorem dX12_worthOf_12 : decode cX12_worthOf 12 = .ok (.iload_n 2, 1) := by decide +kernel
theorem dX12_worthOf_13 : decode cX12_worthOf 13 = .ok (.iload_n 1, 1) := by decide +kernel
theorem dX12_worthOf_14 : decode cX12_worthOf 14 = .ok (.iload_n 3, 1) := by decide +kernel
theorem dX12_worthOf_15 : decode cX12_worthOf 15 = .ok (.invokestatic 104, 3) := by decide +kernel
theorem dX12_worthOf_18 : decode cX12_worthOf 18 = .ok (.ifCond .eq 14, 3) := by decide +kernel
theorem dX12_worthOf_21 : decode cX12_worthOf 21 = .ok (.aload_n 0, 1) := by decide +kernel
theorem dX12_worthOf_22 : decode cX12_worthOf 22 = .ok (.bipush 25, 2) := by decide +kernel
theorem dX12_worthOf_24 : decode cX12_worthOf 24 = .ok (.iload_n 3, 1) := by decide +kernel
theorem dX12_worthOf_25 : decode cX12_worthOf 25 = .ok (.iadd, 1) := by decide +kernel
theorem dX12_worthOf_26 : decode cX12_worthOf 26 = .ok (.invokevirtual 279, 3) := by decide +kernel
theorem dX12_worthOf_29 : decode cX12_worthOf 29 = .ok (.goto 4, 3) := by decide +kernel
theorem dX12_worthOf_32 : decode cX12_worthOf 32 = .ok (.iconst 0, 1) := by decide +kernel
theorem dX12_worthOf_33 : decode cX12_worthOf 33 = .ok (.iadd, 1) := by decide +kernel
theorem dX12_worthOf_34 : decode cX12_worthOf 34 = .ok (.istore_n 2, 1) := by decide +kernel
theorem dX12_worthOf_35 : decode cX12_worthOf 35 = .ok (.iinc 3 1, 3) := by decide +kernel
theorem dX12_worthOf_38 : decode cX12_worthOf 38 = .ok (.goto (-34), 3) := by decide +kernel
theorem dX12_worthOf_41 : decode cX12_worthOf 41 = .ok (.iload_n 2, 1) := by decide +kernel
theorem dX12_worthOf_42 : decode cX12_worthOf 42 = .ok (.ireturn, 1) := by decide +kernel
theorem dX12_fewestHits_0 : decode cX12_fewestHits 0 = .ok (.aload_n 0, 1) := by decide +kernel
theorem dX12_fewestHits_1 : decode cX12_fewestHits 1 = .ok (.lconst 0, 1) := by decide +kernel
theorem dX12_fewestHits_2 : decode cX12_fewestHits 2 = .ok (.invokevirtual 421, 3) := by decide +kernel
theorem dX12_fewestHits_5 : decode cX12_fewestHits 5 = .ok (.ifCond .eq 5, 3) := by decide +kernel
theorem dX12_fewestHits_8 : decode cX12_fewestHits 8 = .ok (.iconst 0, 1) := by decide +kernel
theorem dX12_fewestHits_9 : decode cX12_fewestHits 9 = .ok (.ireturn, 1) := by decide +kernel
theorem dX12_fewestHits_10 : decode cX12_fewestHits 10 = .ok (.iconst 1, 1) := by decide +kernel
theorem dX12_fewestHits_11 : decode cX12_fewestHits 11 = .ok (.istore_n 3, 1) := by decide +kernel
theorem dX12_fewestHits_12 : decode cX12_fewestHits 12 = .ok (.iload_n 3, 1) := by decide +kernel
theorem dX12_fewestHits_13 : decode cX12_fewestHits 13 = .ok (.iconst 3, 1) := by decide +kernel
theorem dX12_fewestHits_14 : decode cX12_fewestHits 14 = .ok (.if_icmp .gt 179, 3) := by decide +kernel
theorem dX12_fewestHits_17 : decode cX12_fewestHits 17 = .ok (.iconst 0, 1) := by decide +kernel
theorem dX12_fewestHits_18 : decode cX12_fewestHits 18 = .ok (.istore 4, 2) := by decide +kernel
theorem dX12_fewestHits_20 : decode cX12_fewestHits 20 = .ok (.iload 4, 2) := by decide +kernel
theorem dX12_fewestHits_22 : decode cX12_fewestHits 22 = .ok (.aload_n 0, 1) := by decide +kernel
theorem dX12_fewestHits_23 : decode cX12_fewestHits 23 = .ok (.getfield 283, 3) := by decide +kernel
theorem dX12_fewestHits_26 : decode cX12_fewestHits 26 = .ok (.if_icmp .ge 161, 3) := by decide +kernel
theorem dX12_fewestHits_29 : decode cX12_fewestHits 29 = .ok (.iload_n 3, 1) := by decide +kernel
theorem dX12_fewestHits_30 : decode cX12_fewestHits 30 = .ok (.iconst 1, 1) := by decide +kernel
theorem dX12_fewestHits_31 : decode cX12_fewestHits 31 = .ok (.if_icmp .le 10, 3) := by decide +kernel
theorem dX12_fewestHits_34 : decode cX12_fewestHits 34 = .ok (.iload 4, 2) := by decide +kernel
theorem dX12_fewestHits_36 : decode cX12_fewestHits 36 = .ok (.iconst 1, 1) := by decide +kernel
theorem dX12_fewestHits_37 : decode cX12_fewestHits 37 = .ok (.iadd, 1) := by decide +kernel
theorem dX12_fewestHits_38 : decode cX12_fewestHits 38 = .ok (.goto 5, 3) := by decide +kernel
theorem dX12_fewestHits_41 : decode cX12_fewestHits 41 = .ok (.iload 4, 2) := by decide +kernel
theorem dX12_fewestHits_43 : decode cX12_fewestHits 43 = .ok (.istore 5, 2) := by decide +kernel
theorem dX12_fewestHits_45 : decode cX12_fewestHits 45 = .ok (.iload 5, 2) := by decide +kernel
theorem dX12_fewestHits_47 : decode cX12_fewestHits 47 = .ok (.aload_n 0, 1) := by decide +kernel
theorem dX12_fewestHits_48 : decode cX12_fewestHits 48 = .ok (.getfield 283, 3) := by decide +kernel
theorem dX12_fewestHits_51 : decode cX12_fewestHits 51 = .ok (.if_icmp .ge 130, 3) := by decide +kernel
theorem dX12_fewestHits_54 : decode cX12_fewestHits 54 = .ok (.iload_n 3, 1) := by decide +kernel
theorem dX12_fewestHits_55 : decode cX12_fewestHits 55 = .ok (.iconst 2, 1) := by decide +kernel
theorem dX12_fewestHits_56 : decode cX12_fewestHits 56 = .ok (.if_icmp .le 10, 3) := by decide +kernel
theorem dX12_fewestHits_59 : decode cX12_fewestHits 59 = .ok (.iload 5, 2) := by decide +kernel
theorem dX12_fewestHits_61 : decode cX12_fewestHits 61 = .ok (.iconst 1, 1) := by decide +kernel
theorem dX12_fewestHits_62 : decode cX12_fewestHits 62 = .ok (.iadd, 1) := by decide +kernel
theorem dX12_fewestHits_63 : decode cX12_fewestHits 63 = .ok (.goto 5, 3) := by decide +kernel
theorem dX12_fewestHits_66 : decode cX12_fewestHits 66 = .ok (.iload 5, 2) := by decide +kernel
theorem dX12_fewestHits_68 : decode cX12_fewestHits 68 = .ok (.istore 6, 2) := by decide +kernel
theorem dX12_fewestHits_70 : decode cX12_fewestHits 70 = .ok (.iload 6, 2) := by decide +kernel
theorem dX12_fewestHits_72 : decode cX12_fewestHits 72 = .ok (.aload_n 0, 1) := by decide +kernel
theorem dX12_fewestHits_73 : decode cX12_fewestHits 73 = .ok (.getfield 283, 3) := by decide +kernel
theorem dX12_fewestHits_76 : decode cX12_fewestHits 76 = .ok (.if_icmp .ge 91, 3) := by decide +kernel
theorem dX12_fewestHits_79 : decode cX12_fewestHits 79 = .ok (.lload_n 1, 1) := by decide +kernel
theorem dX12_fewestHits_80 : decode cX12_fewestHits 80 = .ok (.iload 4, 2) := by decide +kernel
theorem dX12_fewestHits_82 : decode cX12_fewestHits 82 = .ok (.invokestatic 424, 3) := by decide +kernel
theorem dX12_fewestHits_85 : decode cX12_fewestHits 85 = .ok (.ifCond .eq 68, 3) := by decide +kernel
theorem dX12_fewestHits_88 : decode cX12_fewestHits 88 = .ok (.lload_n 1, 1) := by decide +kernel
theorem dX12_fewestHits_89 : decode cX12_fewestHits 89 = .ok (.iload 5, 2) := by decide +kernel
theorem dX12_fewestHits_91 : decode cX12_fewestHits 91 = .ok (.invokestatic 424, 3) := by decide +kernel
theorem dX12_fewestHits_94 : decode cX12_fewestHits 94 = .ok (.ifCond .eq 59, 3) := by decide +kernel
theorem dX12_fewestHits_97 : decode cX12_fewestHits 97 = .ok (.lload_n 1, 1) := by decide +kernel
theorem dX12_fewestHits_98 : decode cX12_fewestHits 98 = .ok (.iload 6, 2) := by decide +kernel
theorem dX12_fewestHits_100 : decode cX12_fewestHits 100 = .ok (.invokestatic 424, 3) := by decide +kernel
theorem dX12_fewestHits_103 : decode cX12_fewestHits 103 = .ok (.ifCond .eq 50, 3) := by decide +kernel
theorem dX12_fewestHits_106 : decode cX12_fewestHits 106 = .ok (.aload_n 0, 1) := by decide +kernel
theorem dX12_fewestHits_107 : decode cX12_fewestHits 107 = .ok (.lconst 1, 1) := by decide +kernel
theorem dX12_fewestHits_108 : decode cX12_fewestHits 108 = .ok (.iload 4, 2) := by decide +kernel
theorem dX12_fewestHits_110 : decode cX12_fewestHits 110 = .ok (.lshl, 1) := by decide +kernel
theorem dX12_fewestHits_111 : decode cX12_fewestHits 111 = .ok (.lconst 1, 1) := by decide +kernel
theorem dX12_fewestHits_112 : decode cX12_fewestHits 112 = .ok (.iload 5, 2) := by decide +kernel
theorem dX12_fewestHits_114 : decode cX12_fewestHits 114 = .ok (.lshl, 1) := by decide +kernel
theorem dX12_fewestHits_115 : decode cX12_fewestHits 115 = .ok (.lor, 1) := by decide +kernel
theorem dX12_fewestHits_116 : decode cX12_fewestHits 116 = .ok (.lconst 1, 1) := by decide +kernel
theorem dX12_fewestHits_117 : decode cX12_fewestHits 117 = .ok (.iload 6, 2) := by decide +kernel
theorem dX12_fewestHits_119 : decode cX12_fewestHits 119 = .ok (.lshl, 1) := by decide +kernel
theorem dX12_fewestHits_120 : decode cX12_fewestHits 120 = .ok (.lor, 1) := by decide +kernel
theorem dX12_fewestHits_121 : decode cX12_fewestHits 121 = .ok (.invokevirtual 421, 3) := by decide +kernel
theorem dX12_fewestHits_124 : decode cX12_fewestHits 124 = .ok (.ifCond .eq 29, 3) := by decide +kernel
theorem dX12_fewestHits_127 : decode cX12_fewestHits 127 = .ok (.aload_n 0, 1) := by decide +kernel
theorem dX12_fewestHits_128 : decode cX12_fewestHits 128 = .ok (.getfield 82, 3) := by decide +kernel
theorem dX12_fewestHits_131 : decode cX12_fewestHits 131 = .ok (.iconst 0, 1) := by decide +kernel
theorem dX12_fewestHits_132 : decode cX12_fewestHits 132 = .ok (.iload 4, 2) := by decide +kernel
theorem dX12_fewestHits_134 : decode cX12_fewestHits 134 = .ok (.iastore, 1) := by decide +kernel
theorem dX12_fewestHits_135 : decode cX12_fewestHits 135 = .ok (.aload_n 0, 1) := by decide +kernel
theorem dX12_fewestHits_136 : decode cX12_fewestHits 136 = .ok (.getfield 82, 3) := by decide +kernel
theorem dX12_fewestHits_139 : decode cX12_fewestHits 139 = .ok (.iconst 1, 1) := by decide +kernel
theorem dX12_fewestHits_140 : decode cX12_fewestHits 140 = .ok (.iload 5, 2) := by decide +kernel
theorem dX12_fewestHits_142 : decode cX12_fewestHits 142 = .ok (.iastore, 1) := by decide +kernel
theorem dX12_fewestHits_143 : decode cX12_fewestHits 143 = .ok (.aload_n 0, 1) := by decide +kernel
theorem dX12_fewestHits_144 : decode cX12_fewestHits 144 = .ok (.getfield 82, 3) := by decide +kernel
theorem dX12_fewestHits_147 : decode cX12_fewestHits 147 = .ok (.iconst 2, 1) := by decide +kernel
theorem dX12_fewestHits_148 : decode cX12_fewestHits 148 = .ok (.iload 6, 2) := by decide +kernel
theorem dX12_fewestHits_150 : decode cX12_fewestHits 150 = .ok (.iastore, 1) := by decide +kernel
theorem dX12_fewestHits_151 : decode cX12_fewestHits 151 = .ok (.iload_n 3, 1) := by decide +kernel
theorem dX12_fewestHits_152 : decode cX12_fewestHits 152 = .ok (.ireturn, 1) := by decide +kernel
theorem dX12_fewestHits_153 : decode cX12_fewestHits 153 = .ok (.iload_n 3, 1) := by decide +kernel
theorem dX12_fewestHits_154 : decode cX12_fewestHits 154 = .ok (.iconst 3, 1) := by decide +kernel
theorem dX12_fewestHits_155 : decode cX12_fewestHits 155 = .ok (.if_icmp .ge 6, 3) := by decide +kernel
theorem dX12_fewestHits_158 : decode cX12_fewestHits 158 = .ok (.goto 9, 3) := by decide +kernel
theorem dX12_fewestHits_161 : decode cX12_fewestHits 161 = .ok (.iinc 6 1, 3) := by decide +kernel
theorem dX12_fewestHits_164 : decode cX12_fewestHits 164 = .ok (.goto (-94), 3) := by decide +kernel
theorem dX12_fewestHits_167 : decode cX12_fewestHits 167 = .ok (.iload_n 3, 1) := by decide +kernel
theorem dX12_fewestHits_168 : decode cX12_fewestHits 168 = .ok (.iconst 2, 1) := by decide +kernel
theorem dX12_fewestHits_169 : decode cX12_fewestHits 169 = .ok (.if_icmp .ge 6, 3) := by decide +kernel
theorem dX12_fewestHits_172 : decode cX12_fewestHits 172 = .ok (.goto 9, 3) := by decide +kernel
theorem dX12_fewestHits_175 : decode cX12_fewestHits 175 = .ok (.iinc 5 1, 3) := by decide +kernel
theorem dX12_fewestHits_178 : decode cX12_fewestHits 178 = .ok (.goto (-133), 3) := by decide +kernel
theorem dX12_fewestHits_181 : decode cX12_fewestHits 181 = .ok (.iinc 4 1, 3) := by decide +kernel
theorem dX12_fewestHits_184 : decode cX12_fewestHits 184 = .ok (.goto (-164), 3) := by decide +kernel
theorem dX12_fewestHits_187 : decode cX12_fewestHits 187 = .ok (.iinc 3 1, 3) := by decide +kernel
theorem dX12_fewestHits_190 : decode cX12_fewestHits 190 = .ok (.goto (-178), 3) := by decide +kernel
theorem dX12_fewestHits_193 : decode cX12_fewestHits 193 = .ok (.iconst (-1), 1) := by decide +kernel
theorem dX12_fewestHits_194 : decode cX12_fewestHits 194 = .ok (.ireturn, 1) := by decide +kernel
theorem dX12_part_0 : decode cX12_part 0 = .ok (.iload 4, 2) := by decide +kernel
theorem dX12_part_2 : decode cX12_part 2 = .ok (.ifCond .eq 7, 3) := by decide +kernel
theorem dX12_part_5 : decode cX12_part 5 = .ok (.lload_n 2, 1) := by decide +kernel
theorem dX12_part_6 : decode cX12_part 6 = .ok (.goto 4, 3) := by decide +kernel
theorem dX12_part_9 : decode cX12_part 9 = .ok (.lload_n 0, 1) := by decide +kernel
theorem dX12_part_10 : decode cX12_part 10 = .ok (.lload_n 2, 1) := by decide +kernel
theorem dX12_part_11 : decode cX12_part 11 = .ok (.lload_n 0, 1) := by decide +kernel
theorem dX12_part_12 : decode cX12_part 12 = .ok (.invokestatic 446, 3) := by decide +kernel
theorem dX12_part_15 : decode cX12_part 15 = .ok (.ldiv, 1) := by decide +kernel
theorem dX12_part_16 : decode cX12_part 16 = .ok (.lreturn, 1) := by decide +kernel
theorem dX12_leftBy_0 : decode cX12_leftBy 0 = .ok (.lconst 0, 1) := by decide +kernel
theorem dX12_leftBy_1 : decode cX12_leftBy 1 = .ok (.lstore_n 3, 1) := by decide +kernel
theorem dX12_leftBy_2 : decode cX12_leftBy 2 = .ok (.lconst 1, 1) := by decide +kernel
theorem dX12_leftBy_3 : decode cX12_leftBy 3 = .ok (.lstore 5, 2) := by decide +kernel
theorem dX12_leftBy_5 : decode cX12_leftBy 5 = .ok (.iconst 0, 1) := by decide +kernel
theorem dX12_leftBy_6 : decode cX12_leftBy 6 = .ok (.istore 7, 2) := by decide +kernel
theorem dX12_leftBy_8 : decode cX12_leftBy 8 = .ok (.iload 7, 2) := by decide +kernel
theorem dX12_leftBy_10 : decode cX12_leftBy 10 = .ok (.iload_n 0, 1) := by decide +kernel
theorem dX12_leftBy_11 : decode cX12_leftBy 11 = .ok (.if_icmp .gt 62, 3) := by decide +kernel
theorem dX12_leftBy_14 : decode cX12_leftBy 14 = .ok (.lload_n 3, 1) := by decide +kernel
theorem dX12_leftBy_15 : decode cX12_leftBy 15 = .ok (.iload 7, 2) := by decide +kernel
theorem dX12_leftBy_17 : decode cX12_leftBy 17 = .ok (.iload_n 1, 1) := by decide +kernel
theorem dX12_leftBy_18 : decode cX12_leftBy 18 = .ok (.if_icmp .lt 30, 3) := by decide +kernel
theorem dX12_leftBy_21 : decode cX12_leftBy 21 = .ok (.lload 5, 2) := by decide +kernel
theorem dX12_leftBy_23 : decode cX12_leftBy 23 = .ok (.ldc2_w 450, 3) := by decide +kernel
theorem dX12_leftBy_26 : decode cX12_leftBy 26 = .ok (.iload_n 2, 1) := by decide +kernel
theorem dX12_leftBy_27 : decode cX12_leftBy 27 = .ok (.i2l, 1) := by decide +kernel
theorem dX12_leftBy_28 : decode cX12_leftBy 28 = .ok (.lsub, 1) := by decide +kernel
theorem dX12_leftBy_29 : decode cX12_leftBy 29 = .ok (.iload 7, 2) := by decide +kernel
theorem dX12_leftBy_31 : decode cX12_leftBy 31 = .ok (.invokestatic 452, 3) := by decide +kernel
theorem dX12_leftBy_34 : decode cX12_leftBy 34 = .ok (.lmul, 1) := by decide +kernel
theorem dX12_leftBy_35 : decode cX12_leftBy 35 = .ok (.iload_n 2, 1) := by decide +kernel
theorem dX12_leftBy_36 : decode cX12_leftBy 36 = .ok (.i2l, 1) := by decide +kernel
theorem dX12_leftBy_37 : decode cX12_leftBy 37 = .ok (.iload_n 0, 1) := by decide +kernel
theorem dX12_leftBy_38 : decode cX12_leftBy 38 = .ok (.iload 7, 2) := by decide +kernel
theorem dX12_leftBy_40 : decode cX12_leftBy 40 = .ok (.isub, 1) := by decide +kernel
theorem dX12_leftBy_41 : decode cX12_leftBy 41 = .ok (.invokestatic 452, 3) := by decide +kernel
theorem dX12_leftBy_44 : decode cX12_leftBy 44 = .ok (.lmul, 1) := by decide +kernel
theorem dX12_leftBy_45 : decode cX12_leftBy 45 = .ok (.goto 4, 3) := by decide +kernel
theorem dX12_leftBy_48 : decode cX12_leftBy 48 = .ok (.lconst 0, 1) := by decide +kernel
theorem dX12_leftBy_49 : decode cX12_leftBy 49 = .ok (.ladd, 1) := by decide +kernel
theorem dX12_leftBy_50 : decode cX12_leftBy 50 = .ok (.lstore_n 3, 1) := by decide +kernel
theorem dX12_leftBy_51 : decode cX12_leftBy 51 = .ok (.lload 5, 2) := by decide +kernel
theorem dX12_leftBy_53 : decode cX12_leftBy 53 = .ok (.iload_n 0, 1) := by decide +kernel
theorem dX12_leftBy_54 : decode cX12_leftBy 54 = .ok (.iload 7, 2) := by decide +kernel
theorem dX12_leftBy_56 : decode cX12_leftBy 56 = .ok (.isub, 1) := by decide +kernel
theorem dX12_leftBy_57 : decode cX12_leftBy 57 = .ok (.i2l, 1) := by decide +kernel
theorem dX12_leftBy_58 : decode cX12_leftBy 58 = .ok (.lmul, 1) := by decide +kernel
theorem dX12_leftBy_59 : decode cX12_leftBy 59 = .ok (.iload 7, 2) := by decide +kernel
theorem dX12_leftBy_61 : decode cX12_leftBy 61 = .ok (.iconst 1, 1) := by decide +kernel
theorem dX12_leftBy_62 : decode cX12_leftBy 62 = .ok (.iadd, 1) := by decide +kernel
theorem dX12_leftBy_63 : decode cX12_leftBy 63 = .ok (.i2l, 1) := by decide +kernel
theorem dX12_leftBy_64 : decode cX12_leftBy 64 = .ok (.ldiv, 1) := by decide +kernel
theorem dX12_leftBy_65 : decode cX12_leftBy 65 = .ok (.lstore 5, 2) := by decide +kernel
theorem dX12_leftBy_67 : decode cX12_leftBy 67 = .ok (.iinc 7 1, 3) := by decide +kernel
theorem dX12_leftBy_70 : decode cX12_leftBy 70 = .ok (.goto (-62), 3) := by decide +kernel
theorem dX12_leftBy_73 : decode cX12_leftBy 73 = .ok (.lload_n 3, 1) := by decide +kernel
theorem dX12_leftBy_74 : decode cX12_leftBy 74 = .ok (.lreturn, 1) := by decide +kernel
theorem dX12_among_0 : decode cX12_among 0 = .ok (.iconst 0, 1) := by decide +kernel
theorem dX12_among_1 : decode cX12_among 1 = .ok (.istore_n 2, 1) := by decide +kernel
theorem dX12_among_2 : decode cX12_among 2 = .ok (.iconst 0, 1) := by decide +kernel
theorem dX12_among_3 : decode cX12_among 3 = .ok (.istore_n 3, 1) := by decide +kernel
theorem dX12_among_4 : decode cX12_among 4 = .ok (.iload_n 3, 1) := by decide +kernel
theorem dX12_among_5 : decode cX12_among 5 = .ok (.aload_n 0, 1) := by decide +kernel
theorem dX12_among_6 : decode cX12_among 6 = .ok (.getfield 467, 3) := by decide +kernel
theorem dX12_among_9 : decode cX12_among 9 = .ok (.if_icmp .ge 42, 3) := by decide +kernel
theorem dX12_among_12 : decode cX12_among 12 = .ok (.iload_n 2, 1) := by decide +kernel
theorem dX12_among_13 : decode cX12_among 13 = .ok (.iload_n 1, 1) := by decide +kernel
theorem dX12_among_14 : decode cX12_among 14 = .ok (.aload_n 0, 1) := by decide +kernel
theorem dX12_among_15 : decode cX12_among 15 = .ok (.getfield 85, 3) := by decide +kernel
theorem dX12_among_18 : decode cX12_among 18 = .ok (.iload_n 3, 1) := by decide +kernel
theorem dX12_among_19 : decode cX12_among 19 = .ok (.iaload, 1) := by decide +kernel
theorem dX12_among_20 : decode cX12_among 20 = .ok (.bipush 40, 2) := by decide +kernel
theorem dX12_among_22 : decode cX12_among 22 = .ok (.idiv, 1) := by decide +kernel
theorem dX12_among_23 : decode cX12_among 23 = .ok (.aload_n 0, 1) := by decide +kernel
theorem dX12_among_24 : decode cX12_among 24 = .ok (.getfield 85, 3) := by decide +kernel
theorem dX12_among_27 : decode cX12_among 27 = .ok (.iload_n 3, 1) := by decide +kernel
theorem dX12_among_28 : decode cX12_among 28 = .ok (.iaload, 1) := by decide +kernel
theorem dX12_among_29 : decode cX12_among 29 = .ok (.bipush 40, 2) := by decide +kernel
theorem dX12_among_31 : decode cX12_among 31 = .ok (.irem, 1) := by decide +kernel
theorem dX12_among_32 : decode cX12_among 32 = .ok (.invokestatic 112, 3) := by decide +kernel
theorem dX12_among_35 : decode cX12_among 35 = .ok (.ifCond .eq 7, 3) := by decide +kernel
theorem dX12_among_38 : decode cX12_among 38 = .ok (.iconst 1, 1) := by decide +kernel
theorem dX12_among_39 : decode cX12_among 39 = .ok (.goto 4, 3) := by decide +kernel
theorem dX12_among_42 : decode cX12_among 42 = .ok (.iconst 0, 1) := by decide +kernel
theorem dX12_among_43 : decode cX12_among 43 = .ok (.iadd, 1) := by decide +kernel
theorem dX12_among_44 : decode cX12_among 44 = .ok (.istore_n 2, 1) := by decide +kernel
theorem dX12_among_45 : decode cX12_among 45 = .ok (.iinc 3 1, 3) := by decide +kernel
theorem dX12_among_48 : decode cX12_among 48 = .ok (.goto (-44), 3) := by decide +kernel
theorem dX12_among_51 : decode cX12_among 51 = .ok (.iload_n 2, 1) := by decide +kernel
theorem dX12_among_52 : decode cX12_among 52 = .ok (.ireturn, 1) := by decide +kernel
theorem dX12_pointOf_0 : decode cX12_pointOf 0 = .ok (.iconst (-1), 1) := by decide +kernel
theorem dX12_pointOf_1 : decode cX12_pointOf 1 = .ok (.istore_n 2, 1) := by decide +kernel
theorem dX12_pointOf_2 : decode cX12_pointOf 2 = .ok (.iconst 0, 1) := by decide +kernel
theorem dX12_pointOf_3 : decode cX12_pointOf 3 = .ok (.istore_n 3, 1) := by decide +kernel
theorem dX12_pointOf_4 : decode cX12_pointOf 4 = .ok (.iload_n 3, 1) := by decide +kernel
theorem dX12_pointOf_5 : decode cX12_pointOf 5 = .ok (.aload_n 0, 1) := by decide +kernel
theorem dX12_pointOf_6 : decode cX12_pointOf 6 = .ok (.getfield 492, 3) := by decide +kernel
theorem dX12_pointOf_9 : decode cX12_pointOf 9 = .ok (.if_icmp .ge 41, 3) := by decide +kernel
theorem dX12_pointOf_12 : decode cX12_pointOf 12 = .ok (.aload_n 0, 1) := by decide +kernel
theorem dX12_pointOf_13 : decode cX12_pointOf 13 = .ok (.getfield 91, 3) := by decide +kernel
theorem dX12_pointOf_16 : decode cX12_pointOf 16 = .ok (.iload_n 3, 1) := by decide +kernel
theorem dX12_pointOf_17 : decode cX12_pointOf 17 = .ok (.iaload, 1) := by decide +kernel
theorem dX12_pointOf_18 : decode cX12_pointOf 18 = .ok (.iconst (-1), 1) := by decide +kernel
theorem dX12_pointOf_19 : decode cX12_pointOf 19 = .ok (.if_icmp .ne 25, 3) := by decide +kernel
theorem dX12_pointOf_22 : decode cX12_pointOf 22 = .ok (.iload_n 2, 1) := by decide +kernel
theorem dX12_pointOf_23 : decode cX12_pointOf 23 = .ok (.iconst (-1), 1) := by decide +kernel
theorem dX12_pointOf_24 : decode cX12_pointOf 24 = .ok (.if_icmp .eq 18, 3) := by decide +kernel
theorem dX12_pointOf_27 : decode cX12_pointOf 27 = .ok (.aload_n 0, 1) := by decide +kernel
theorem dX12_pointOf_28 : decode cX12_pointOf 28 = .ok (.iload_n 1, 1) := by decide +kernel
theorem dX12_pointOf_29 : decode cX12_pointOf 29 = .ok (.iload_n 3, 1) := by decide +kernel
theorem dX12_pointOf_30 : decode cX12_pointOf 30 = .ok (.invokevirtual 501, 3) := by decide +kernel
theorem dX12_pointOf_33 : decode cX12_pointOf 33 = .ok (.aload_n 0, 1) := by decide +kernel
theorem dX12_pointOf_34 : decode cX12_pointOf 34 = .ok (.iload_n 1, 1) := by decide +kernel
theorem dX12_pointOf_35 : decode cX12_pointOf 35 = .ok (.iload_n 2, 1) := by decide +kernel
theorem dX12_pointOf_36 : decode cX12_pointOf 36 = .ok (.invokevirtual 501, 3) := by decide +kernel
theorem dX12_pointOf_39 : decode cX12_pointOf 39 = .ok (.if_icmp .le 5, 3) := by decide +kernel
theorem dX12_pointOf_42 : decode cX12_pointOf 42 = .ok (.iload_n 3, 1) := by decide +kernel
theorem dX12_pointOf_43 : decode cX12_pointOf 43 = .ok (.istore_n 2, 1) := by decide +kernel
theorem dX12_pointOf_44 : decode cX12_pointOf 44 = .ok (.iinc 3 1, 3) := by decide +kernel
theorem dX12_pointOf_47 : decode cX12_pointOf 47 = .ok (.goto (-43), 3) := by decide +kernel
theorem dX12_pointOf_50 : decode cX12_pointOf 50 = .ok (.iload_n 2, 1) := by decide +kernel
theorem dX12_pointOf_51 : decode cX12_pointOf 51 = .ok (.ireturn, 1) := by decide +kernel
theorem dX12_gain_0 : decode cX12_gain 0 = .ok (.iconst 0, 1) := by decide +kernel
theorem dX12_gain_1 : decode cX12_gain 1 = .ok (.istore_n 1, 1) := by decide +kernel
theorem dX12_gain_2 : decode cX12_gain 2 = .ok (.iconst 0, 1) := by decide +kernel
theorem dX12_gain_3 : decode cX12_gain 3 = .ok (.istore_n 2, 1) := by decide +kernel
theorem dX12_gain_4 : decode cX12_gain 4 = .ok (.iload_n 2, 1) := by decide +kernel
theorem dX12_gain_5 : decode cX12_gain 5 = .ok (.aload_n 0, 1) := by decide +kernel
theorem dX12_gain_6 : decode cX12_gain 6 = .ok (.getfield 492, 3) := by decide +kernel
theorem dX12_gain_9 : decode cX12_gain 9 = .ok (.if_icmp .ge 30, 3) := by decide +kernel
theorem dX12_gain_12 : decode cX12_gain 12 = .ok (.iload_n 1, 1) := by decide +kernel
theorem dX12_gain_13 : decode cX12_gain 13 = .ok (.aload_n 0, 1) := by decide +kernel
theorem dX12_gain_14 : decode cX12_gain 14 = .ok (.iload_n 2, 1) := by decide +kernel
theorem dX12_gain_15 : decode cX12_gain 15 = .ok (.aload_n 0, 1) := by decide +kernel
theorem dX12_gain_16 : decode cX12_gain 16 = .ok (.getfield 88, 3) := by decide +kernel
theorem dX12_gain_19 : decode cX12_gain 19 = .ok (.iload_n 2, 1) := by decide +kernel
theorem dX12_gain_20 : decode cX12_gain 20 = .ok (.iaload, 1) := by decide +kernel
theorem dX12_gain_21 : decode cX12_gain 21 = .ok (.invokevirtual 501, 3) := by decide +kernel
theorem dX12_gain_24 : decode cX12_gain 24 = .ok (.aload_n 0, 1) := by decide +kernel
theorem dX12_gain_25 : decode cX12_gain 25 = .ok (.iload_n 2, 1) := by decide +kernel
theorem dX12_gain_26 : decode cX12_gain 26 = .ok (.iload_n 2, 1) := by decide +kernel
theorem dX12_gain_27 : decode cX12_gain 27 = .ok (.invokevirtual 501, 3) := by decide +kernel
theorem dX12_gain_30 : decode cX12_gain 30 = .ok (.isub, 1) := by decide +kernel
theorem dX12_gain_31 : decode cX12_gain 31 = .ok (.iadd, 1) := by decide +kernel
theorem dX12_gain_32 : decode cX12_gain 32 = .ok (.istore_n 1, 1) := by decide +kernel
theorem dX12_gain_33 : decode cX12_gain 33 = .ok (.iinc 2 1, 3) := by decide +kernel
theorem dX12_gain_36 : decode cX12_gain 36 = .ok (.goto (-32), 3) := by decide +kernel
theorem dX12_gain_39 : decode cX12_gain 39 = .ok (.iload_n 1, 1) := by decide +kernel
theorem dX12_gain_40 : decode cX12_gain 40 = .ok (.ireturn, 1) := by decide +kernel
theorem dX12_happyOnes_0 : decode cX12_happyOnes 0 = .ok (.iconst 0, 1) := by decide +kernel
theorem dX12_happyOnes_1 : decode cX12_happyOnes 1 = .ok (.istore_n 1, 1) := by decide +kernel
theorem dX12_happyOnes_2 : decode cX12_happyOnes 2 = .ok (.iconst 0, 1) := by decide +kernel
theorem dX12_happyOnes_3 : decode cX12_happyOnes 3 = .ok (.istore_n 2, 1) := by decide +kernel
theorem dX12_happyOnes_4 : decode cX12_happyOnes 4 = .ok (.iload_n 2, 1) := by decide +kernel
theorem dX12_happyOnes_5 : decode cX12_happyOnes 5 = .ok (.aload_n 0, 1) := by decide +kernel
theorem dX12_happyOnes_6 : decode cX12_happyOnes 6 = .ok (.getfield 492, 3) := by decide +kernel
theorem dX12_happyOnes_9 : decode cX12_happyOnes 9 = .ok (.if_icmp .ge 74, 3) := by decide +kernel
theorem dX12_happyOnes_12 : decode cX12_happyOnes 12 = .ok (.iconst 1, 1) := by decide +kernel
theorem dX12_happyOnes_13 : decode cX12_happyOnes 13 = .ok (.istore_n 3, 1) := by decide +kernel
theorem dX12_happyOnes_14 : decode cX12_happyOnes 14 = .ok (.iconst 0, 1) := by decide +kernel
theorem dX12_happyOnes_15 : decode cX12_happyOnes 15 = .ok (.istore 4, 2) := by decide +kernel
theorem dX12_happyOnes_17 : decode cX12_happyOnes 17 = .ok (.iload 4, 2) := by decide +kernel
theorem dX12_happyOnes_19 : decode cX12_happyOnes 19 = .ok (.aload_n 0, 1) := by decide +kernel
theorem dX12_happyOnes_20 : decode cX12_happyOnes 20 = .ok (.getfield 492, 3) := by decide +kernel
theorem dX12_happyOnes_23 : decode cX12_happyOnes 23 = .ok (.if_icmp .ge 40, 3) := by decide +kernel
theorem dX12_happyOnes_26 : decode cX12_happyOnes 26 = .ok (.iload_n 3, 1) := by decide +kernel
theorem dX12_happyOnes_27 : decode cX12_happyOnes 27 = .ok (.ifCond .eq 28, 3) := by decide +kernel
theorem dX12_happyOnes_30 : decode cX12_happyOnes 30 = .ok (.aload_n 0, 1) := by decide +kernel
theorem dX12_happyOnes_31 : decode cX12_happyOnes 31 = .ok (.iload_n 2, 1) := by decide +kernel
theorem dX12_happyOnes_32 : decode cX12_happyOnes 32 = .ok (.iload 4, 2) := by decide +kernel
theorem dX12_happyOnes_34 : decode cX12_happyOnes 34 = .ok (.invokevirtual 501, 3) := by decide +kernel
theorem dX12_happyOnes_37 : decode cX12_happyOnes 37 = .ok (.aload_n 0, 1) := by decide +kernel
theorem dX12_happyOnes_38 : decode cX12_happyOnes 38 = .ok (.iload_n 2, 1) := by decide +kernel
theorem dX12_happyOnes_39 : decode cX12_happyOnes 39 = .ok (.aload_n 0, 1) := by decide +kernel
theorem dX12_happyOnes_40 : decode cX12_happyOnes 40 = .ok (.getfield 88, 3) := by decide +kernel
theorem dX12_happyOnes_43 : decode cX12_happyOnes 43 = .ok (.iload_n 2, 1) := by decide +kernel
theorem dX12_happyOnes_44 : decode cX12_happyOnes 44 = .ok (.iaload, 1) := by decide +kernel
theorem dX12_happyOnes_45 : decode cX12_happyOnes 45 = .ok (.invokevirtual 501, 3) := by decide +kernel
theorem dX12_happyOnes_48 : decode cX12_happyOnes 48 = .ok (.if_icmp .gt 7, 3) := by decide +kernel
theorem dX12_happyOnes_51 : decode cX12_happyOnes 51 = .ok (.iconst 1, 1) := by decide +kernel
theorem dX12_happyOnes_52 : decode cX12_happyOnes 52 = .ok (.goto 4, 3) := by decide +kernel
theorem dX12_happyOnes_55 : decode cX12_happyOnes 55 = .ok (.iconst 0, 1) := by decide +kernel
theorem dX12_happyOnes_56 : decode cX12_happyOnes 56 = .ok (.istore_n 3, 1) := by decide +kernel
theorem dX12_happyOnes_57 : decode cX12_happyOnes 57 = .ok (.iinc 4 1, 3) := by decide +kernel
theorem dX12_happyOnes_60 : decode cX12_happyOnes 60 = .ok (.goto (-43), 3) := by decide +kernel
theorem dX12_happyOnes_63 : decode cX12_happyOnes 63 = .ok (.iload_n 1, 1) := by decide +kernel
theorem dX12_happyOnes_64 : decode cX12_happyOnes 64 = .ok (.iload_n 3, 1) := by decide +kernel
theorem dX12_happyOnes_65 : decode cX12_happyOnes 65 = .ok (.ifCond .eq 9, 3) := by decide +kernel
theorem dX12_happyOnes_68 : decode cX12_happyOnes 68 = .ok (.iconst 1, 1) := by decide +kernel
theorem dX12_happyOnes_69 : decode cX12_happyOnes 69 = .ok (.iload_n 2, 1) := by decide +kernel
theorem dX12_happyOnes_70 : decode cX12_happyOnes 70 = .ok (.ishl, 1) := by decide +kernel
theorem dX12_happyOnes_71 : decode cX12_happyOnes 71 = .ok (.goto 4, 3) := by decide +kernel
theorem dX12_happyOnes_74 : decode cX12_happyOnes 74 = .ok (.iconst 0, 1) := by decide +kernel
theorem dX12_happyOnes_75 : decode cX12_happyOnes 75 = .ok (.ior, 1) := by decide +kernel
theorem dX12_happyOnes_76 : decode cX12_happyOnes 76 = .ok (.istore_n 1, 1) := by decide +kernel
theorem dX12_happyOnes_77 : decode cX12_happyOnes 77 = .ok (.iinc 2 1, 3) := by decide +kernel
theorem dX12_happyOnes_80 : decode cX12_happyOnes 80 = .ok (.goto (-76), 3) := by decide +kernel
theorem dX12_happyOnes_83 : decode cX12_happyOnes 83 = .ok (.iload_n 1, 1) := by decide +kernel
theorem dX12_happyOnes_84 : decode cX12_happyOnes 84 = .ok (.ireturn, 1) := by decide +kernel
theorem dX12_count_0 : decode cX12_count 0 = .ok (.aload_n 0, 1) := by decide +kernel
theorem dX12_count_1 : decode cX12_count 1 = .ok (.iconst 0, 1) := by decide +kernel
theorem dX12_count_2 : decode cX12_count 2 = .ok (.putfield 100, 3) := by decide +kernel
theorem dX12_count_5 : decode cX12_count 5 = .ok (.iload_n 1, 1) := by decide +kernel
theorem dX12_count_6 : decode cX12_count 6 = .ok (.iconst 0, 1) := by decide +kernel
theorem dX12_count_7 : decode cX12_count 7 = .ok (.iconst 3, 1) := by decide +kernel
theorem dX12_count_8 : decode cX12_count 8 = .ok (.invokestatic 112, 3) := by decide +kernel
theorem dX12_count_11 : decode cX12_count 11 = .ok (.ifCond .eq 12, 3) := by decide +kernel
theorem dX12_count_14 : decode cX12_count 14 = .ok (.aload_n 0, 1) := by decide +kernel
theorem dX12_count_15 : decode cX12_count 15 = .ok (.getfield 23, 3) := by decide +kernel
theorem dX12_count_18 : decode cX12_count 18 = .ok (.iload_n 1, 1) := by decide +kernel
theorem dX12_count_19 : decode cX12_count 19 = .ok (.iaload, 1) := by decide +kernel
theorem dX12_count_20 : decode cX12_count 20 = .ok (.goto 5, 3) := by decide +kernel
theorem dX12_count_23 : decode cX12_count 23 = .ok (.bipush (-2), 2) := by decide +kernel
theorem dX12_count_25 : decode cX12_count 25 = .ok (.ireturn, 1) := by decide +kernel
theorem dX12_take_0 : decode cX12_take 0 = .ok (.aload_n 0, 1) := by decide +kernel
theorem dX12_take_1 : decode cX12_take 1 = .ok (.getfield 137, 3) := by decide +kernel
theorem dX12_take_4 : decode cX12_take 4 = .ok (.iconst 3, 1) := by decide +kernel
theorem dX12_take_5 : decode cX12_take 5 = .ok (.if_icmp .eq 8, 3) := by decide +kernel
theorem dX12_take_8 : decode cX12_take 8 = .ok (.aload_n 0, 1) := by decide +kernel
theorem dX12_take_9 : decode cX12_take 9 = .ok (.invokevirtual 152, 3) := by decide +kernel
theorem dX12_take_12 : decode cX12_take 12 = .ok (.ireturn, 1) := by decide +kernel
theorem dX12_take_13 : decode cX12_take 13 = .ok (.aload_n 0, 1) := by decide +kernel
theorem dX12_take_14 : decode cX12_take 14 = .ok (.getfield 41, 3) := by decide +kernel
theorem dX12_take_17 : decode cX12_take 17 = .ok (.iload_n 1, 1) := by decide +kernel
theorem dX12_take_18 : decode cX12_take 18 = .ok (.aload_n 0, 1) := by decide +kernel
theorem dX12_take_19 : decode cX12_take 19 = .ok (.getfield 140, 3) := by decide +kernel
theorem dX12_take_22 : decode cX12_take 22 = .ok (.iastore, 1) := by decide +kernel
theorem dX12_take_23 : decode cX12_take 23 = .ok (.aload_n 0, 1) := by decide +kernel
theorem dX12_take_24 : decode cX12_take 24 = .ok (.getfield 140, 3) := by decide +kernel
theorem dX12_take_27 : decode cX12_take 27 = .ok (.iload_n 2, 1) := by decide +kernel
theorem dX12_take_28 : decode cX12_take 28 = .ok (.iload_n 3, 1) := by decide +kernel
theorem dX12_take_29 : decode cX12_take 29 = .ok (.invokestatic 112, 3) := by decide +kernel
theorem dX12_take_32 : decode cX12_take 32 = .ok (.ifCond .ne 17, 3) := by decide +kernel
theorem dX12_take_35 : decode cX12_take 35 = .ok (.aload_n 0, 1) := by decide +kernel
theorem dX12_take_36 : decode cX12_take 36 = .ok (.iconst 2, 1) := by decide +kernel
theorem dX12_take_37 : decode cX12_take 37 = .ok (.aload_n 0, 1) := by decide +kernel
theorem dX12_take_38 : decode cX12_take 38 = .ok (.getfield 130, 3) := by decide +kernel
theorem dX12_take_41 : decode cX12_take 41 = .ok (.invokevirtual 156, 3) := by decide +kernel
theorem dX12_take_44 : decode cX12_take 44 = .ok (.aload_n 0, 1) := by decide +kernel
theorem dX12_take_45 : decode cX12_take 45 = .ok (.iconst 0, 1) := by decide +kernel
theorem dX12_take_46 : decode cX12_take 46 = .ok (.putfield 160, 3) := by decide +kernel
theorem dX12_take_49 : decode cX12_take 49 = .ok (.aload_n 0, 1) := by decide +kernel
theorem dX12_take_50 : decode cX12_take 50 = .ok (.invokevirtual 164, 3) := by decide +kernel
theorem dX12_take_53 : decode cX12_take 53 = .ok (.iconst 1, 1) := by decide +kernel
theorem dX12_take_54 : decode cX12_take 54 = .ok (.ireturn, 1) := by decide +kernel
theorem dX12_hand_0 : decode cX12_hand 0 = .ok (.aload_n 0, 1) := by decide +kernel
theorem dX12_hand_1 : decode cX12_hand 1 = .ok (.iconst 0, 1) := by decide +kernel
theorem dX12_hand_2 : decode cX12_hand 2 = .ok (.iload_n 1, 1) := by decide +kernel
theorem dX12_hand_3 : decode cX12_hand 3 = .ok (.invokevirtual 267, 3) := by decide +kernel
theorem dX12_hand_6 : decode cX12_hand 6 = .ok (.ifCond .ne 5, 3) := by decide +kernel
theorem dX12_hand_9 : decode cX12_hand 9 = .ok (.iconst 0, 1) := by decide +kernel
theorem dX12_hand_10 : decode cX12_hand 10 = .ok (.ireturn, 1) := by decide +kernel
theorem dX12_hand_11 : decode cX12_hand 11 = .ok (.aload_n 0, 1) := by decide +kernel
theorem dX12_hand_12 : decode cX12_hand 12 = .ok (.iload_n 1, 1) := by decide +kernel
theorem dX12_hand_13 : decode cX12_hand 13 = .ok (.putfield 276, 3) := by decide +kernel
theorem dX12_hand_16 : decode cX12_hand 16 = .ok (.aload_n 0, 1) := by decide +kernel
theorem dX12_hand_17 : decode cX12_hand 17 = .ok (.aload_n 0, 1) := by decide +kernel
theorem dX12_hand_18 : decode cX12_hand 18 = .ok (.iconst 0, 1) := by decide +kernel
theorem dX12_hand_19 : decode cX12_hand 19 = .ok (.invokevirtual 279, 3) := by decide +kernel
theorem dX12_hand_22 : decode cX12_hand 22 = .ok (.putfield 283, 3) := by decide +kernel
theorem dX12_hand_25 : decode cX12_hand 25 = .ok (.aload_n 0, 1) := by decide +kernel
theorem dX12_hand_26 : decode cX12_hand 26 = .ok (.aload_n 0, 1) := by decide +kernel
theorem dX12_hand_27 : decode cX12_hand 27 = .ok (.iconst 1, 1) := by decide +kernel
theorem dX12_hand_28 : decode cX12_hand 28 = .ok (.invokevirtual 279, 3) := by decide +kernel
theorem dX12_hand_31 : decode cX12_hand 31 = .ok (.putfield 286, 3) := by decide +kernel
theorem dX12_hand_34 : decode cX12_hand 34 = .ok (.aload_n 0, 1) := by decide +kernel
theorem dX12_hand_35 : decode cX12_hand 35 = .ok (.aload_n 0, 1) := by decide +kernel
theorem dX12_hand_36 : decode cX12_hand 36 = .ok (.iconst 2, 1) := by decide +kernel
theorem dX12_hand_37 : decode cX12_hand 37 = .ok (.invokevirtual 279, 3) := by decide +kernel
theorem dX12_hand_40 : decode cX12_hand 40 = .ok (.putfield 289, 3) := by decide +kernel
theorem dX12_hand_43 : decode cX12_hand 43 = .ok (.iconst 0, 1) := by decide +kernel
theorem dX12_hand_44 : decode cX12_hand 44 = .ok (.istore_n 2, 1) := by decide +kernel
theorem dX12_hand_45 : decode cX12_hand 45 = .ok (.iload_n 2, 1) := by decide +kernel
theorem dX12_hand_46 : decode cX12_hand 46 = .ok (.iconst 4, 1) := by decide +kernel
theorem dX12_hand_47 : decode cX12_hand 47 = .ok (.if_icmp .ge 22, 3) := by decide +kernel
theorem dX12_hand_50 : decode cX12_hand 50 = .ok (.aload_n 0, 1) := by decide +kernel
theorem dX12_hand_51 : decode cX12_hand 51 = .ok (.getfield 44, 3) := by decide +kernel
theorem dX12_hand_54 : decode cX12_hand 54 = .ok (.iload_n 2, 1) := by decide +kernel
theorem dX12_hand_55 : decode cX12_hand 55 = .ok (.aload_n 0, 1) := by decide +kernel
theorem dX12_hand_56 : decode cX12_hand 56 = .ok (.iconst 3, 1) := by decide +kernel
theorem dX12_hand_57 : decode cX12_hand 57 = .ok (.iload_n 2, 1) := by decide +kernel
theorem dX12_hand_58 : decode cX12_hand 58 = .ok (.iadd, 1) := by decide +kernel
theorem dX12_hand_59 : decode cX12_hand 59 = .ok (.invokevirtual 279, 3) := by decide +kernel
theorem dX12_hand_62 : decode cX12_hand 62 = .ok (.iastore, 1) := by decide +kernel
theorem dX12_hand_63 : decode cX12_hand 63 = .ok (.iinc 2 1, 3) := by decide +kernel
theorem dX12_hand_66 : decode cX12_hand 66 = .ok (.goto (-21), 3) := by decide +kernel
theorem dX12_hand_69 : decode cX12_hand 69 = .ok (.iconst 0, 1) := by decide +kernel
theorem dX12_hand_70 : decode cX12_hand 70 = .ok (.istore_n 2, 1) := by decide +kernel
theorem dX12_hand_71 : decode cX12_hand 71 = .ok (.iload_n 2, 1) := by decide +kernel
theorem dX12_hand_72 : decode cX12_hand 72 = .ok (.bipush 40, 2) := by decide +kernel
theorem dX12_hand_74 : decode cX12_hand 74 = .ok (.if_icmp .ge 44, 3) := by decide +kernel
theorem dX12_hand_77 : decode cX12_hand 77 = .ok (.aload_n 0, 1) := by decide +kernel
theorem dX12_hand_78 : decode cX12_hand 78 = .ok (.getfield 47, 3) := by decide +kernel
theorem dX12_hand_81 : decode cX12_hand 81 = .ok (.iload_n 2, 1) := by decide +kernel
theorem dX12_hand_82 : decode cX12_hand 82 = .ok (.aload_n 0, 1) := by decide +kernel
theorem dX12_hand_83 : decode cX12_hand 83 = .ok (.bipush 31, 2) := by decide +kernel
theorem dX12_hand_85 : decode cX12_hand 85 = .ok (.iload_n 2, 1) := by decide +kernel
theorem dX12_hand_86 : decode cX12_hand 86 = .ok (.iadd, 1) := by decide +kernel
theorem dX12_hand_87 : decode cX12_hand 87 = .ok (.invokevirtual 279, 3) := by decide +kernel
theorem dX12_hand_90 : decode cX12_hand 90 = .ok (.iastore, 1) := by decide +kernel
theorem dX12_hand_91 : decode cX12_hand 91 = .ok (.aload_n 0, 1) := by decide +kernel
theorem dX12_hand_92 : decode cX12_hand 92 = .ok (.getfield 50, 3) := by decide +kernel
theorem dX12_hand_95 : decode cX12_hand 95 = .ok (.iload_n 2, 1) := by decide +kernel
theorem dX12_hand_96 : decode cX12_hand 96 = .ok (.aload_n 0, 1) := by decide +kernel
theorem dX12_hand_97 : decode cX12_hand 97 = .ok (.bipush 71, 2) := by decide +kernel
theorem dX12_hand_99 : decode cX12_hand 99 = .ok (.iload_n 2, 1) := by decide +kernel
theorem dX12_hand_100 : decode cX12_hand 100 = .ok (.iadd, 1) := by decide +kernel
theorem dX12_hand_101 : decode cX12_hand 101 = .ok (.invokevirtual 279, 3) := by decide +kernel
theorem dX12_hand_104 : decode cX12_hand 104 = .ok (.iastore, 1) := by decide +kernel
theorem dX12_hand_105 : decode cX12_hand 105 = .ok (.aload_n 0, 1) := by decide +kernel
theorem dX12_hand_106 : decode cX12_hand 106 = .ok (.getfield 53, 3) := by decide +kernel
theorem dX12_hand_109 : decode cX12_hand 109 = .ok (.iload_n 2, 1) := by decide +kernel
theorem dX12_hand_110 : decode cX12_hand 110 = .ok (.iconst 0, 1) := by decide +kernel
theorem dX12_hand_111 : decode cX12_hand 111 = .ok (.bastore, 1) := by decide +kernel
theorem dX12_hand_112 : decode cX12_hand 112 = .ok (.iinc 2 1, 3) := by decide +kernel
theorem dX12_hand_115 : decode cX12_hand 115 = .ok (.goto (-44), 3) := by decide +kernel
theorem dX12_hand_118 : decode cX12_hand 118 = .ok (.iconst 0, 1) := by decide +kernel
theorem dX12_hand_119 : decode cX12_hand 119 = .ok (.istore_n 2, 1) := by decide +kernel
theorem dX12_hand_120 : decode cX12_hand 120 = .ok (.iload_n 2, 1) := by decide +kernel
theorem dX12_hand_121 : decode cX12_hand 121 = .ok (.bipush 6, 2) := by decide +kernel
theorem dX12_hand_123 : decode cX12_hand 123 = .ok (.if_icmp .ge 23, 3) := by decide +kernel
theorem dX12_hand_126 : decode cX12_hand 126 = .ok (.aload_n 0, 1) := by decide +kernel
theorem dX12_hand_127 : decode cX12_hand 127 = .ok (.getfield 57, 3) := by decide +kernel
theorem dX12_hand_130 : decode cX12_hand 130 = .ok (.iload_n 2, 1) := by decide +kernel
theorem dX12_hand_131 : decode cX12_hand 131 = .ok (.iconst (-1), 1) := by decide +kernel
theorem dX12_hand_132 : decode cX12_hand 132 = .ok (.iastore, 1) := by decide +kernel
theorem dX12_hand_133 : decode cX12_hand 133 = .ok (.aload_n 0, 1) := by decide +kernel
theorem dX12_hand_134 : decode cX12_hand 134 = .ok (.getfield 66, 3) := by decide +kernel
theorem dX12_hand_137 : decode cX12_hand 137 = .ok (.iload_n 2, 1) := by decide +kernel
theorem dX12_hand_138 : decode cX12_hand 138 = .ok (.iconst (-1), 1) := by decide +kernel
theorem dX12_hand_139 : decode cX12_hand 139 = .ok (.iastore, 1) := by decide +kernel
theorem dX12_hand_140 : decode cX12_hand 140 = .ok (.iinc 2 1, 3) := by decide +kernel
theorem dX12_hand_143 : decode cX12_hand 143 = .ok (.goto (-23), 3) := by decide +kernel
theorem dX12_hand_146 : decode cX12_hand 146 = .ok (.aload_n 0, 1) := by decide +kernel
theorem dX12_hand_147 : decode cX12_hand 147 = .ok (.iconst (-1), 1) := by decide +kernel
theorem dX12_hand_148 : decode cX12_hand 148 = .ok (.putfield 292, 3) := by decide +kernel
theorem dX12_hand_151 : decode cX12_hand 151 = .ok (.iconst 1, 1) := by decide +kernel
theorem dX12_hand_152 : decode cX12_hand 152 = .ok (.ireturn, 1) := by decide +kernel
theorem dX12_mayBegin_0 : decode cX12_mayBegin 0 = .ok (.iload_n 2, 1) := by decide +kernel
theorem dX12_mayBegin_1 : decode cX12_mayBegin 1 = .ok (.aload_n 0, 1) := by decide +kernel
theorem dX12_mayBegin_2 : decode cX12_mayBegin 2 = .ok (.bipush 13, 2) := by decide +kernel
theorem dX12_mayBegin_4 : decode cX12_mayBegin 4 = .ok (.iload_n 1, 1) := by decide +kernel
theorem dX12_mayBegin_5 : decode cX12_mayBegin 5 = .ok (.iadd, 1) := by decide +kernel
theorem dX12_mayBegin_6 : decode cX12_mayBegin 6 = .ok (.invokevirtual 279, 3) := by decide +kernel
theorem dX12_mayBegin_9 : decode cX12_mayBegin 9 = .ok (.if_icmp .lt 27, 3) := by decide +kernel
theorem dX12_mayBegin_12 : decode cX12_mayBegin 12 = .ok (.iload_n 2, 1) := by decide +kernel
theorem dX12_mayBegin_13 : decode cX12_mayBegin 13 = .ok (.aload_n 0, 1) := by decide +kernel
theorem dX12_mayBegin_14 : decode cX12_mayBegin 14 = .ok (.iload_n 1, 1) := by decide +kernel
theorem dX12_mayBegin_15 : decode cX12_mayBegin 15 = .ok (.invokevirtual 295, 3) := by decide +kernel
theorem dX12_mayBegin_18 : decode cX12_mayBegin 18 = .ok (.iadd, 1) := by decide +kernel
theorem dX12_mayBegin_19 : decode cX12_mayBegin 19 = .ok (.iconst 1, 1) := by decide +kernel
theorem dX12_mayBegin_20 : decode cX12_mayBegin 20 = .ok (.isub, 1) := by decide +kernel
theorem dX12_mayBegin_21 : decode cX12_mayBegin 21 = .ok (.aload_n 0, 1) := by decide +kernel
theorem dX12_mayBegin_22 : decode cX12_mayBegin 22 = .ok (.bipush 19, 2) := by decide +kernel
theorem dX12_mayBegin_24 : decode cX12_mayBegin 24 = .ok (.iload_n 1, 1) := by decide +kernel
theorem dX12_mayBegin_25 : decode cX12_mayBegin 25 = .ok (.iadd, 1) := by decide +kernel
theorem dX12_mayBegin_26 : decode cX12_mayBegin 26 = .ok (.invokevirtual 279, 3) := by decide +kernel
theorem dX12_mayBegin_29 : decode cX12_mayBegin 29 = .ok (.if_icmp .gt 7, 3) := by decide +kernel
theorem dX12_mayBegin_32 : decode cX12_mayBegin 32 = .ok (.iconst 1, 1) := by decide +kernel
theorem dX12_mayBegin_33 : decode cX12_mayBegin 33 = .ok (.goto 4, 3) := by decide +kernel
theorem dX12_mayBegin_36 : decode cX12_mayBegin 36 = .ok (.iconst 0, 1) := by decide +kernel
theorem dX12_mayBegin_37 : decode cX12_mayBegin 37 = .ok (.ireturn, 1) := by decide +kernel
theorem dX12_hasYear_0 : decode cX12_hasYear 0 = .ok (.aload_n 0, 1) := by decide +kernel
theorem dX12_hasYear_1 : decode cX12_hasYear 1 = .ok (.iload_n 1, 1) := by decide +kernel
theorem dX12_hasYear_2 : decode cX12_hasYear 2 = .ok (.putfield 301, 3) := by decide +kernel
theorem dX12_hasYear_5 : decode cX12_hasYear 5 = .ok (.aload_n 0, 1) := by decide +kernel
theorem dX12_hasYear_6 : decode cX12_hasYear 6 = .ok (.iconst 1, 1) := by decide +kernel
theorem dX12_hasYear_7 : decode cX12_hasYear 7 = .ok (.iload_n 1, 1) := by decide +kernel
theorem dX12_hasYear_8 : decode cX12_hasYear 8 = .ok (.invokevirtual 267, 3) := by decide +kernel
theorem dX12_hasYear_11 : decode cX12_hasYear 11 = .ok (.ireturn, 1) := by decide +kernel
theorem dX12_prices_0 : decode cX12_prices 0 = .ok (.aload_n 0, 1) := by decide +kernel
theorem dX12_prices_1 : decode cX12_prices 1 = .ok (.iload_n 1, 1) := by decide +kernel
theorem dX12_prices_2 : decode cX12_prices 2 = .ok (.invokevirtual 322, 3) := by decide +kernel
theorem dX12_prices_5 : decode cX12_prices 5 = .ok (.ifCond .eq 20, 3) := by decide +kernel
theorem dX12_prices_8 : decode cX12_prices 8 = .ok (.aload_n 0, 1) := by decide +kernel
theorem dX12_prices_9 : decode cX12_prices 9 = .ok (.getfield 47, 3) := by decide +kernel
theorem dX12_prices_12 : decode cX12_prices 12 = .ok (.iload_n 1, 1) := by decide +kernel
theorem dX12_prices_13 : decode cX12_prices 13 = .ok (.iaload, 1) := by decide +kernel
theorem dX12_prices_14 : decode cX12_prices 14 = .ok (.iload_n 2, 1) := by decide +kernel
theorem dX12_prices_15 : decode cX12_prices 15 = .ok (.iadd, 1) := by decide +kernel
theorem dX12_prices_16 : decode cX12_prices 16 = .ok (.iconst 0, 1) := by decide +kernel
theorem dX12_prices_17 : decode cX12_prices 17 = .ok (.bipush 9, 2) := by decide +kernel
theorem dX12_prices_19 : decode cX12_prices 19 = .ok (.invokestatic 112, 3) := by decide +kernel
theorem dX12_prices_22 : decode cX12_prices 22 = .ok (.ifCond .ne 5, 3) := by decide +kernel
theorem dX12_prices_25 : decode cX12_prices 25 = .ok (.iconst 0, 1) := by decide +kernel
theorem dX12_prices_26 : decode cX12_prices 26 = .ok (.ireturn, 1) := by decide +kernel
theorem dX12_prices_27 : decode cX12_prices 27 = .ok (.aload_n 0, 1) := by decide +kernel
theorem dX12_prices_28 : decode cX12_prices 28 = .ok (.getfield 47, 3) := by decide +kernel
theorem dX12_prices_31 : decode cX12_prices 31 = .ok (.iload_n 1, 1) := by decide +kernel
theorem dX12_prices_32 : decode cX12_prices 32 = .ok (.dup2, 1) := by decide +kernel
theorem dX12_prices_33 : decode cX12_prices 33 = .ok (.iaload, 1) := by decide +kernel
theorem dX12_prices_34 : decode cX12_prices 34 = .ok (.iload_n 2, 1) := by decide +kernel
theorem dX12_prices_35 : decode cX12_prices 35 = .ok (.iadd, 1) := by decide +kernel
theorem dX12_prices_36 : decode cX12_prices 36 = .ok (.iastore, 1) := by decide +kernel
theorem dX12_prices_37 : decode cX12_prices 37 = .ok (.iconst 1, 1) := by decide +kernel
theorem dX12_prices_38 : decode cX12_prices 38 = .ok (.ireturn, 1) := by decide +kernel
theorem dX12_runBits_0 : decode cX12_runBits 0 = .ok (.lconst 1, 1) := by decide +kernel
theorem dX12_runBits_1 : decode cX12_runBits 1 = .ok (.aload_n 0, 1) := by decide +kernel
theorem dX12_runBits_2 : decode cX12_runBits 2 = .ok (.iload_n 1, 1) := by decide +kernel
theorem dX12_runBits_3 : decode cX12_runBits 3 = .ok (.invokevirtual 295, 3) := by decide +kernel
theorem dX12_runBits_6 : decode cX12_runBits 6 = .ok (.lshl, 1) := by decide +kernel
theorem dX12_runBits_7 : decode cX12_runBits 7 = .ok (.lconst 1, 1) := by decide +kernel
theorem dX12_runBits_8 : decode cX12_runBits 8 = .ok (.lsub, 1) := by decide +kernel
theorem dX12_runBits_9 : decode cX12_runBits 9 = .ok (.iload_n 2, 1) := by decide +kernel
theorem dX12_runBits_10 : decode cX12_runBits 10 = .ok (.lshl, 1) := by decide +kernel
theorem dX12_runBits_11 : decode cX12_runBits 11 = .ok (.lreturn, 1) := by decide +kernel
theorem dX12_hitOf_0 : decode cX12_hitOf 0 = .ok (.aload_n 0, 1) := by decide +kernel
theorem dX12_hitOf_1 : decode cX12_hitOf 1 = .ok (.lload_n 1, 1) := by decide +kernel
theorem dX12_hitOf_2 : decode cX12_hitOf 2 = .ok (.invokevirtual 427, 3) := by decide +kernel
theorem dX12_hitOf_5 : decode cX12_hitOf 5 = .ok (.istore 4, 2) := by decide +kernel
theorem dX12_hitOf_7 : decode cX12_hitOf 7 = .ok (.iload_n 3, 1) := by decide +kernel
theorem dX12_hitOf_8 : decode cX12_hitOf 8 = .ok (.iconst (-1), 1) := by decide +kernel
theorem dX12_hitOf_9 : decode cX12_hitOf 9 = .ok (.if_icmp .ne 8, 3) := by decide +kernel
theorem dX12_hitOf_12 : decode cX12_hitOf 12 = .ok (.iload 4, 2) := by decide +kernel
theorem dX12_hitOf_14 : decode cX12_hitOf 14 = .ok (.goto 25, 3) := by decide +kernel
theorem dX12_hitOf_17 : decode cX12_hitOf 17 = .ok (.iload_n 3, 1) := by decide +kernel
theorem dX12_hitOf_18 : decode cX12_hitOf 18 = .ok (.iconst 0, 1) := by decide +kernel
theorem dX12_hitOf_19 : decode cX12_hitOf 19 = .ok (.iload 4, 2) := by decide +kernel
theorem dX12_hitOf_21 : decode cX12_hitOf 21 = .ok (.iconst 1, 1) := by decide +kernel
theorem dX12_hitOf_22 : decode cX12_hitOf 22 = .ok (.isub, 1) := by decide +kernel
theorem dX12_hitOf_23 : decode cX12_hitOf 23 = .ok (.invokestatic 112, 3) := by decide +kernel
theorem dX12_hitOf_26 : decode cX12_hitOf 26 = .ok (.ifCond .eq 12, 3) := by decide +kernel
theorem dX12_hitOf_29 : decode cX12_hitOf 29 = .ok (.aload_n 0, 1) := by decide +kernel
theorem dX12_hitOf_30 : decode cX12_hitOf 30 = .ok (.getfield 82, 3) := by decide +kernel
theorem dX12_hitOf_33 : decode cX12_hitOf 33 = .ok (.iload_n 3, 1) := by decide +kernel
theorem dX12_hitOf_34 : decode cX12_hitOf 34 = .ok (.iaload, 1) := by decide +kernel
theorem dX12_hitOf_35 : decode cX12_hitOf 35 = .ok (.goto 4, 3) := by decide +kernel
theorem dX12_hitOf_38 : decode cX12_hitOf 38 = .ok (.iconst (-1), 1) := by decide +kernel
theorem dX12_hitOf_39 : decode cX12_hitOf 39 = .ok (.ireturn, 1) := by decide +kernel
theorem dX12_tin_0 : decode cX12_tin 0 = .ok (.aload_n 0, 1) := by decide +kernel
theorem dX12_tin_1 : decode cX12_tin 1 = .ok (.iconst 0, 1) := by decide +kernel
theorem dX12_tin_2 : decode cX12_tin 2 = .ok (.putfield 100, 3) := by decide +kernel
theorem dX12_tin_5 : decode cX12_tin 5 = .ok (.iload_n 1, 1) := by decide +kernel
theorem dX12_tin_6 : decode cX12_tin 6 = .ok (.iconst 0, 1) := by decide +kernel
theorem dX12_tin_7 : decode cX12_tin 7 = .ok (.bipush 9, 2) := by decide +kernel
theorem dX12_tin_9 : decode cX12_tin 9 = .ok (.invokestatic 112, 3) := by decide +kernel
theorem dX12_tin_12 : decode cX12_tin 12 = .ok (.ifCond .eq 44, 3) := by decide +kernel
theorem dX12_tin_15 : decode cX12_tin 15 = .ok (.iload_n 2, 1) := by decide +kernel
theorem dX12_tin_16 : decode cX12_tin 16 = .ok (.iconst 0, 1) := by decide +kernel
theorem dX12_tin_17 : decode cX12_tin 17 = .ok (.bipush 9, 2) := by decide +kernel
theorem dX12_tin_19 : decode cX12_tin 19 = .ok (.invokestatic 112, 3) := by decide +kernel
theorem dX12_tin_22 : decode cX12_tin 22 = .ok (.ifCond .eq 34, 3) := by decide +kernel
theorem dX12_tin_25 : decode cX12_tin 25 = .ok (.iload_n 3, 1) := by decide +kernel
theorem dX12_tin_26 : decode cX12_tin 26 = .ok (.iconst 0, 1) := by decide +kernel
theorem dX12_tin_27 : decode cX12_tin 27 = .ok (.bipush 10, 2) := by decide +kernel
theorem dX12_tin_29 : decode cX12_tin 29 = .ok (.invokestatic 112, 3) := by decide +kernel
theorem dX12_tin_32 : decode cX12_tin 32 = .ok (.ifCond .eq 24, 3) := by decide +kernel
theorem dX12_tin_35 : decode cX12_tin 35 = .ok (.iload_n 1, 1) := by decide +kernel
theorem dX12_tin_36 : decode cX12_tin 36 = .ok (.iload_n 2, 1) := by decide +kernel
theorem dX12_tin_37 : decode cX12_tin 37 = .ok (.iload_n 3, 1) := by decide +kernel
theorem dX12_tin_38 : decode cX12_tin 38 = .ok (.invokestatic 456, 3) := by decide +kernel
theorem dX12_tin_41 : decode cX12_tin 41 = .ok (.ldc2_w 450, 3) := by decide +kernel
theorem dX12_tin_44 : decode cX12_tin 44 = .ok (.iload_n 1, 1) := by decide +kernel
theorem dX12_tin_45 : decode cX12_tin 45 = .ok (.invokestatic 452, 3) := by decide +kernel
theorem dX12_tin_48 : decode cX12_tin 48 = .ok (.iload 4, 2) := by decide +kernel
theorem dX12_tin_50 : decode cX12_tin 50 = .ok (.invokestatic 460, 3) := by decide +kernel
theorem dX12_tin_53 : decode cX12_tin 53 = .ok (.goto 6, 3) := by decide +kernel
theorem dX12_tin_56 : decode cX12_tin 56 = .ok (.ldc2_w 419, 3) := by decide +kernel
theorem dX12_tin_59 : decode cX12_tin 59 = .ok (.lreturn, 1) := by decide +kernel
theorem dX12_waits_0 : decode cX12_waits 0 = .ok (.aload_n 0, 1) := by decide +kernel
theorem dX12_waits_1 : decode cX12_waits 1 = .ok (.iconst 0, 1) := by decide +kernel
theorem dX12_waits_2 : decode cX12_waits 2 = .ok (.putfield 100, 3) := by decide +kernel
theorem dX12_waits_5 : decode cX12_waits 5 = .ok (.iload_n 1, 1) := by decide +kernel
theorem dX12_waits_6 : decode cX12_waits 6 = .ok (.iconst 1, 1) := by decide +kernel
theorem dX12_waits_7 : decode cX12_waits 7 = .ok (.bipush 9, 2) := by decide +kernel
theorem dX12_waits_9 : decode cX12_waits 9 = .ok (.invokestatic 112, 3) := by decide +kernel
theorem dX12_waits_12 : decode cX12_waits 12 = .ok (.ifCond .eq 12, 3) := by decide +kernel
theorem dX12_waits_15 : decode cX12_waits 15 = .ok (.iload_n 2, 1) := by decide +kernel
theorem dX12_waits_16 : decode cX12_waits 16 = .ok (.iconst 0, 1) := by decide +kernel
theorem dX12_waits_17 : decode cX12_waits 17 = .ok (.iconst 2, 1) := by decide +kernel
theorem dX12_waits_18 : decode cX12_waits 18 = .ok (.invokestatic 112, 3) := by decide +kernel
theorem dX12_waits_21 : decode cX12_waits 21 = .ok (.ifCond .ne 7, 3) := by decide +kernel
theorem dX12_waits_24 : decode cX12_waits 24 = .ok (.ldc2_w 419, 3) := by decide +kernel
theorem dX12_waits_27 : decode cX12_waits 27 = .ok (.lreturn, 1) := by decide +kernel
theorem dX12_waits_28 : decode cX12_waits 28 = .ok (.lconst 0, 1) := by decide +kernel
theorem dX12_waits_29 : decode cX12_waits 29 = .ok (.lstore_n 3, 1) := by decide +kernel
theorem dX12_waits_30 : decode cX12_waits 30 = .ok (.lconst 1, 1) := by decide +kernel
theorem dX12_waits_31 : decode cX12_waits 31 = .ok (.lstore 5, 2) := by decide +kernel
theorem dX12_waits_33 : decode cX12_waits 33 = .ok (.iconst 1, 1) := by decide +kernel
theorem dX12_waits_34 : decode cX12_waits 34 = .ok (.istore 7, 2) := by decide +kernel
theorem dX12_waits_36 : decode cX12_waits 36 = .ok (.iload 7, 2) := by decide +kernel
theorem dX12_waits_38 : decode cX12_waits 38 = .ok (.iload_n 1, 1) := by decide +kernel
theorem dX12_waits_39 : decode cX12_waits 39 = .ok (.if_icmp .ge 65, 3) := by decide +kernel
theorem dX12_waits_42 : decode cX12_waits 42 = .ok (.lconst 0, 1) := by decide +kernel
theorem dX12_waits_43 : decode cX12_waits 43 = .ok (.lstore 8, 2) := by decide +kernel
theorem dX12_waits_45 : decode cX12_waits 45 = .ok (.iconst 0, 1) := by decide +kernel
theorem dX12_waits_46 : decode cX12_waits 46 = .ok (.istore 10, 2) := by decide +kernel
theorem dX12_waits_48 : decode cX12_waits 48 = .ok (.iload 10, 2) := by decide +kernel
theorem dX12_waits_50 : decode cX12_waits 50 = .ok (.bipush 10, 2) := by decide +kernel
theorem dX12_waits_52 : decode cX12_waits 52 = .ok (.if_icmp .ge 35, 3) := by decide +kernel
theorem dX12_waits_55 : decode cX12_waits 55 = .ok (.lload 8, 2) := by decide +kernel
theorem dX12_waits_57 : decode cX12_waits 57 = .ok (.iload 10, 2) := by decide +kernel
theorem dX12_waits_59 : decode cX12_waits 59 = .ok (.i2l, 1) := by decide +kernel
theorem dX12_waits_60 : decode cX12_waits 60 = .ok (.lload 5, 2) := by decide +kernel
theorem dX12_waits_62 : decode cX12_waits 62 = .ok (.lmul, 1) := by decide +kernel
theorem dX12_waits_63 : decode cX12_waits 63 = .ok (.lload_n 3, 1) := by decide +kernel
theorem dX12_waits_64 : decode cX12_waits 64 = .ok (.lcmp, 1) := by decide +kernel
theorem dX12_waits_65 : decode cX12_waits 65 = .ok (.ifCond .le 12, 3) := by decide +kernel
theorem dX12_waits_68 : decode cX12_waits 68 = .ok (.iload 10, 2) := by decide +kernel
theorem dX12_waits_70 : decode cX12_waits 70 = .ok (.i2l, 1) := by decide +kernel
theorem dX12_waits_71 : decode cX12_waits 71 = .ok (.lload 5, 2) := by decide +kernel
theorem dX12_waits_73 : decode cX12_waits 73 = .ok (.lmul, 1) := by decide +kernel
theorem dX12_waits_74 : decode cX12_waits 74 = .ok (.goto 4, 3) := by decide +kernel
theorem dX12_waits_77 : decode cX12_waits 77 = .ok (.lload_n 3, 1) := by decide +kernel
theorem dX12_waits_78 : decode cX12_waits 78 = .ok (.ladd, 1) := by decide +kernel
theorem dX12_waits_79 : decode cX12_waits 79 = .ok (.lstore 8, 2) := by decide +kernel
theorem dX12_waits_81 : decode cX12_waits 81 = .ok (.iinc 10 1, 3) := by decide +kernel
theorem dX12_waits_84 : decode cX12_waits 84 = .ok (.goto (-36), 3) := by decide +kernel
theorem dX12_waits_87 : decode cX12_waits 87 = .ok (.lload 8, 2) := by decide +kernel
theorem dX12_waits_89 : decode cX12_waits 89 = .ok (.lstore_n 3, 1) := by decide +kernel
theorem dX12_waits_90 : decode cX12_waits 90 = .ok (.lload 5, 2) := by decide +kernel
theorem dX12_waits_92 : decode cX12_waits 92 = .ok (.ldc2_w 450, 3) := by decide +kernel
theorem dX12_waits_95 : decode cX12_waits 95 = .ok (.lmul, 1) := by decide +kernel
theorem dX12_waits_96 : decode cX12_waits 96 = .ok (.lstore 5, 2) := by decide +kernel
theorem dX12_waits_98 : decode cX12_waits 98 = .ok (.iinc 7 1, 3) := by decide +kernel
theorem dX12_waits_101 : decode cX12_waits 101 = .ok (.goto (-65), 3) := by decide +kernel
theorem dX12_waits_104 : decode cX12_waits 104 = .ok (.iload_n 2, 1) := by decide +kernel
theorem dX12_waits_105 : decode cX12_waits 105 = .ok (.iconst 2, 1) := by decide +kernel
theorem dX12_waits_106 : decode cX12_waits 106 = .ok (.if_icmp .ne 27, 3) := by decide +kernel
theorem dX12_waits_109 : decode cX12_waits 109 = .ok (.iconst 0, 1) := by decide +kernel
theorem dX12_waits_110 : decode cX12_waits 110 = .ok (.istore 7, 2) := by decide +kernel
theorem dX12_waits_112 : decode cX12_waits 112 = .ok (.iload 7, 2) := by decide +kernel
theorem dX12_waits_114 : decode cX12_waits 114 = .ok (.i2l, 1) := by decide +kernel
theorem dX12_waits_115 : decode cX12_waits 115 = .ok (.lload 5, 2) := by decide +kernel
theorem dX12_waits_117 : decode cX12_waits 117 = .ok (.lmul, 1) := by decide +kernel
theorem dX12_waits_118 : decode cX12_waits 118 = .ok (.lload_n 3, 1) := by decide +kernel
theorem dX12_waits_119 : decode cX12_waits 119 = .ok (.lcmp, 1) := by decide +kernel
theorem dX12_waits_120 : decode cX12_waits 120 = .ok (.ifCond .ge 9, 3) := by decide +kernel
theorem dX12_waits_123 : decode cX12_waits 123 = .ok (.iinc 7 1, 3) := by decide +kernel
theorem dX12_waits_126 : decode cX12_waits 126 = .ok (.goto (-14), 3) := by decide +kernel
theorem dX12_waits_129 : decode cX12_waits 129 = .ok (.iload 7, 2) := by decide +kernel
theorem dX12_waits_131 : decode cX12_waits 131 = .ok (.i2l, 1) := by decide +kernel
theorem dX12_waits_132 : decode cX12_waits 132 = .ok (.lreturn, 1) := by decide +kernel
theorem dX12_waits_133 : decode cX12_waits 133 = .ok (.lconst 0, 1) := by decide +kernel
theorem dX12_waits_134 : decode cX12_waits 134 = .ok (.lstore 7, 2) := by decide +kernel
theorem dX12_waits_136 : decode cX12_waits 136 = .ok (.iconst 0, 1) := by decide +kernel
theorem dX12_waits_137 : decode cX12_waits 137 = .ok (.istore 9, 2) := by decide +kernel
theorem dX12_waits_139 : decode cX12_waits 139 = .ok (.iload 9, 2) := by decide +kernel
theorem dX12_waits_141 : decode cX12_waits 141 = .ok (.bipush 10, 2) := by decide +kernel
theorem dX12_waits_143 : decode cX12_waits 143 = .ok (.if_icmp .ge 35, 3) := by decide +kernel
theorem dX12_waits_146 : decode cX12_waits 146 = .ok (.lload 7, 2) := by decide +kernel
theorem dX12_waits_148 : decode cX12_waits 148 = .ok (.iload 9, 2) := by decide +kernel
theorem dX12_waits_150 : decode cX12_waits 150 = .ok (.i2l, 1) := by decide +kernel
theorem dX12_waits_151 : decode cX12_waits 151 = .ok (.lload 5, 2) := by decide +kernel
theorem dX12_waits_153 : decode cX12_waits 153 = .ok (.lmul, 1) := by decide +kernel
theorem dX12_waits_154 : decode cX12_waits 154 = .ok (.lload_n 3, 1) := by decide +kernel
theorem dX12_waits_155 : decode cX12_waits 155 = .ok (.lcmp, 1) := by decide +kernel
theorem dX12_waits_156 : decode cX12_waits 156 = .ok (.ifCond .le 12, 3) := by decide +kernel
theorem dX12_waits_159 : decode cX12_waits 159 = .ok (.iload 9, 2) := by decide +kernel
theorem dX12_waits_161 : decode cX12_waits 161 = .ok (.i2l, 1) := by decide +kernel
theorem dX12_waits_162 : decode cX12_waits 162 = .ok (.lload 5, 2) := by decide +kernel
theorem dX12_waits_164 : decode cX12_waits 164 = .ok (.lmul, 1) := by decide +kernel
theorem dX12_waits_165 : decode cX12_waits 165 = .ok (.goto 4, 3) := by decide +kernel
theorem dX12_waits_168 : decode cX12_waits 168 = .ok (.lload_n 3, 1) := by decide +kernel
theorem dX12_waits_169 : decode cX12_waits 169 = .ok (.ladd, 1) := by decide +kernel
theorem dX12_waits_170 : decode cX12_waits 170 = .ok (.lstore 7, 2) := by decide +kernel
theorem dX12_waits_172 : decode cX12_waits 172 = .ok (.iinc 9 1, 3) := by decide +kernel
theorem dX12_waits_175 : decode cX12_waits 175 = .ok (.goto (-36), 3) := by decide +kernel
theorem dX12_waits_178 : decode cX12_waits 178 = .ok (.lload 7, 2) := by decide +kernel
theorem dX12_waits_180 : decode cX12_waits 180 = .ok (.ldc2_w 450, 3) := by decide +kernel
theorem dX12_waits_183 : decode cX12_waits 183 = .ok (.lload 5, 2) := by decide +kernel
theorem dX12_waits_185 : decode cX12_waits 185 = .ok (.lmul, 1) := by decide +kernel
theorem dX12_waits_186 : decode cX12_waits 186 = .ok (.iload_n 2, 1) := by decide +kernel
theorem dX12_waits_187 : decode cX12_waits 187 = .ok (.iconst 1, 1) := by decide +kernel
theorem dX12_waits_188 : decode cX12_waits 188 = .ok (.if_icmp .ne 7, 3) := by decide +kernel
theorem dX12_waits_191 : decode cX12_waits 191 = .ok (.iconst 1, 1) := by decide +kernel
theorem dX12_waits_192 : decode cX12_waits 192 = .ok (.goto 4, 3) := by decide +kernel
theorem dX12_waits_195 : decode cX12_waits 195 = .ok (.iconst 0, 1) := by decide +kernel
theorem dX12_waits_196 : decode cX12_waits 196 = .ok (.invokestatic 460, 3) := by decide +kernel
theorem dX12_waits_199 : decode cX12_waits 199 = .ok (.lreturn, 1) := by decide +kernel
theorem dX12_layLog_0 : decode cX12_layLog 0 = .ok (.aload_n 0, 1) := by decide +kernel
theorem dX12_layLog_1 : decode cX12_layLog 1 = .ok (.iload_n 1, 1) := by decide +kernel
theorem dX12_layLog_2 : decode cX12_layLog 2 = .ok (.putfield 464, 3) := by decide +kernel
theorem dX12_layLog_5 : decode cX12_layLog 5 = .ok (.aload_n 0, 1) := by decide +kernel
theorem dX12_layLog_6 : decode cX12_layLog 6 = .ok (.iconst 2, 1) := by decide +kernel
theorem dX12_layLog_7 : decode cX12_layLog 7 = .ok (.iload_n 1, 1) := by decide +kernel
theorem dX12_layLog_8 : decode cX12_layLog 8 = .ok (.invokevirtual 267, 3) := by decide +kernel
theorem dX12_layLog_11 : decode cX12_layLog 11 = .ok (.ifCond .ne 5, 3) := by decide +kernel
theorem dX12_layLog_14 : decode cX12_layLog 14 = .ok (.iconst 0, 1) := by decide +kernel
theorem dX12_layLog_15 : decode cX12_layLog 15 = .ok (.ireturn, 1) := by decide +kernel
theorem dX12_layLog_16 : decode cX12_layLog 16 = .ok (.aload_n 0, 1) := by decide +kernel
theorem dX12_layLog_17 : decode cX12_layLog 17 = .ok (.iconst 0, 1) := by decide +kernel
theorem dX12_layLog_18 : decode cX12_layLog 18 = .ok (.putfield 467, 3) := by decide +kernel
theorem dX12_layLog_21 : decode cX12_layLog 21 = .ok (.iconst 0, 1) := by decide +kernel
theorem dX12_layLog_22 : decode cX12_layLog 22 = .ok (.istore_n 2, 1) := by decide +kernel
theorem dX12_layLog_23 : decode cX12_layLog 23 = .ok (.iload_n 2, 1) := by decide +kernel
theorem dX12_layLog_24 : decode cX12_layLog 24 = .ok (.sipush 1600, 3) := by decide +kernel
theorem dX12_layLog_27 : decode cX12_layLog 27 = .ok (.if_icmp .ge 115, 3) := by decide +kernel
theorem dX12_layLog_30 : decode cX12_layLog 30 = .ok (.iload_n 2, 1) := by decide +kernel
theorem dX12_layLog_31 : decode cX12_layLog 31 = .ok (.bipush 40, 2) := by decide +kernel
theorem dX12_layLog_33 : decode cX12_layLog 33 = .ok (.idiv, 1) := by decide +kernel
theorem dX12_layLog_34 : decode cX12_layLog 34 = .ok (.iload_n 2, 1) := by decide +kernel
theorem dX12_layLog_35 : decode cX12_layLog 35 = .ok (.bipush 40, 2) := by decide +kernel
theorem dX12_layLog_37 : decode cX12_layLog 37 = .ok (.irem, 1) := by decide +kernel
theorem dX12_layLog_38 : decode cX12_layLog 38 = .ok (.if_icmp .gt 7, 3) := by decide +kernel
theorem dX12_layLog_41 : decode cX12_layLog 41 = .ok (.iconst 1, 1) := by decide +kernel
theorem dX12_layLog_42 : decode cX12_layLog 42 = .ok (.goto 4, 3) := by decide +kernel
theorem dX12_layLog_45 : decode cX12_layLog 45 = .ok (.iconst 0, 1) := by decide +kernel
theorem dX12_layLog_46 : decode cX12_layLog 46 = .ok (.istore_n 3, 1) := by decide +kernel
theorem dX12_layLog_47 : decode cX12_layLog 47 = .ok (.iconst 0, 1) := by decide +kernel
theorem dX12_layLog_48 : decode cX12_layLog 48 = .ok (.istore 4, 2) := by decide +kernel
theorem dX12_layLog_50 : decode cX12_layLog 50 = .ok (.iload 4, 2) := by decide +kernel
theorem dX12_layLog_52 : decode cX12_layLog 52 = .ok (.aload_n 0, 1) := by decide +kernel
theorem dX12_layLog_53 : decode cX12_layLog 53 = .ok (.invokevirtual 470, 3) := by decide +kernel
theorem dX12_layLog_56 : decode cX12_layLog 56 = .ok (.if_icmp .ge 56, 3) := by decide +kernel
theorem dX12_layLog_59 : decode cX12_layLog 59 = .ok (.iload_n 3, 1) := by decide +kernel
theorem dX12_layLog_60 : decode cX12_layLog 60 = .ok (.ifCond .eq 52, 3) := by decide +kernel
theorem dX12_layLog_63 : decode cX12_layLog 63 = .ok (.aload_n 0, 1) := by decide +kernel
theorem dX12_layLog_64 : decode cX12_layLog 64 = .ok (.iload 4, 2) := by decide +kernel
theorem dX12_layLog_66 : decode cX12_layLog 66 = .ok (.iconst 1, 1) := by decide +kernel
theorem dX12_layLog_67 : decode cX12_layLog 67 = .ok (.invokevirtual 473, 3) := by decide +kernel
theorem dX12_layLog_70 : decode cX12_layLog 70 = .ok (.iload_n 2, 1) := by decide +kernel
theorem dX12_layLog_71 : decode cX12_layLog 71 = .ok (.bipush 40, 2) := by decide +kernel
theorem dX12_layLog_73 : decode cX12_layLog 73 = .ok (.idiv, 1) := by decide +kernel
theorem dX12_layLog_74 : decode cX12_layLog 74 = .ok (.iload_n 2, 1) := by decide +kernel
theorem dX12_layLog_75 : decode cX12_layLog 75 = .ok (.bipush 40, 2) := by decide +kernel
theorem dX12_layLog_77 : decode cX12_layLog 77 = .ok (.irem, 1) := by decide +kernel
theorem dX12_layLog_78 : decode cX12_layLog 78 = .ok (.invokestatic 112, 3) := by decide +kernel
theorem dX12_layLog_81 : decode cX12_layLog 81 = .ok (.aload_n 0, 1) := by decide +kernel
theorem dX12_layLog_82 : decode cX12_layLog 82 = .ok (.iload 4, 2) := by decide +kernel
theorem dX12_layLog_84 : decode cX12_layLog 84 = .ok (.iconst 0, 1) := by decide +kernel
theorem dX12_layLog_85 : decode cX12_layLog 85 = .ok (.invokevirtual 473, 3) := by decide +kernel
theorem dX12_layLog_88 : decode cX12_layLog 88 = .ok (.iconst 1, 1) := by decide +kernel
theorem dX12_layLog_89 : decode cX12_layLog 89 = .ok (.if_icmp .ne 7, 3) := by decide +kernel
theorem dX12_layLog_92 : decode cX12_layLog 92 = .ok (.iconst 1, 1) := by decide +kernel
theorem dX12_layLog_93 : decode cX12_layLog 93 = .ok (.goto 4, 3) := by decide +kernel
theorem dX12_layLog_96 : decode cX12_layLog 96 = .ok (.iconst 0, 1) := by decide +kernel
theorem dX12_layLog_97 : decode cX12_layLog 97 = .ok (.if_icmp .ne 7, 3) := by decide +kernel
theorem dX12_layLog_100 : decode cX12_layLog 100 = .ok (.iconst 1, 1) := by decide +kernel
theorem dX12_layLog_101 : decode cX12_layLog 101 = .ok (.goto 4, 3) := by decide +kernel
theorem dX12_layLog_104 : decode cX12_layLog 104 = .ok (.iconst 0, 1) := by decide +kernel
theorem dX12_layLog_105 : decode cX12_layLog 105 = .ok (.istore_n 3, 1) := by decide +kernel
theorem dX12_layLog_106 : decode cX12_layLog 106 = .ok (.iinc 4 1, 3) := by decide +kernel
theorem dX12_layLog_109 : decode cX12_layLog 109 = .ok (.goto (-59), 3) := by decide +kernel
theorem dX12_layLog_112 : decode cX12_layLog 112 = .ok (.iload_n 3, 1) := by decide +kernel
theorem dX12_layLog_113 : decode cX12_layLog 113 = .ok (.ifCond .eq 23, 3) := by decide +kernel
theorem dX12_layLog_116 : decode cX12_layLog 116 = .ok (.aload_n 0, 1) := by decide +kernel
theorem dX12_layLog_117 : decode cX12_layLog 117 = .ok (.getfield 85, 3) := by decide +kernel
theorem dX12_layLog_120 : decode cX12_layLog 120 = .ok (.aload_n 0, 1) := by decide +kernel
theorem dX12_layLog_121 : decode cX12_layLog 121 = .ok (.getfield 467, 3) := by decide +kernel
theorem dX12_layLog_124 : decode cX12_layLog 124 = .ok (.iload_n 2, 1) := by decide +kernel
theorem dX12_layLog_125 : decode cX12_layLog 125 = .ok (.iastore, 1) := by decide +kernel
theorem dX12_layLog_126 : decode cX12_layLog 126 = .ok (.aload_n 0, 1) := by decide +kernel
theorem dX12_layLog_127 : decode cX12_layLog 127 = .ok (.dup, 1) := by decide +kernel
theorem dX12_layLog_128 : decode cX12_layLog 128 = .ok (.getfield 467, 3) := by decide +kernel
theorem dX12_layLog_131 : decode cX12_layLog 131 = .ok (.iconst 1, 1) := by decide +kernel
theorem dX12_layLog_132 : decode cX12_layLog 132 = .ok (.iadd, 1) := by decide +kernel
theorem dX12_layLog_133 : decode cX12_layLog 133 = .ok (.putfield 467, 3) := by decide +kernel
theorem dX12_layLog_136 : decode cX12_layLog 136 = .ok (.iinc 2 1, 3) := by decide +kernel
theorem dX12_layLog_139 : decode cX12_layLog 139 = .ok (.goto (-116), 3) := by decide +kernel
theorem dX12_layLog_142 : decode cX12_layLog 142 = .ok (.iconst 1, 1) := by decide +kernel
theorem dX12_layLog_143 : decode cX12_layLog 143 = .ok (.ireturn, 1) := by decide +kernel
theorem dX12_fact_0 : decode cX12_fact 0 = .ok (.aload_n 0, 1) := by decide +kernel
theorem dX12_fact_1 : decode cX12_fact 1 = .ok (.iconst 0, 1) := by decide +kernel
theorem dX12_fact_2 : decode cX12_fact 2 = .ok (.putfield 100, 3) := by decide +kernel
theorem dX12_fact_5 : decode cX12_fact 5 = .ok (.aload_n 0, 1) := by decide +kernel
theorem dX12_fact_6 : decode cX12_fact 6 = .ok (.iload_n 1, 1) := by decide +kernel
theorem dX12_fact_7 : decode cX12_fact 7 = .ok (.putfield 464, 3) := by decide +kernel
theorem dX12_fact_10 : decode cX12_fact 10 = .ok (.aload_n 0, 1) := by decide +kernel
theorem dX12_fact_11 : decode cX12_fact 11 = .ok (.iconst 2, 1) := by decide +kernel
theorem dX12_fact_12 : decode cX12_fact 12 = .ok (.iload_n 1, 1) := by decide +kernel
theorem dX12_fact_13 : decode cX12_fact 13 = .ok (.invokevirtual 267, 3) := by decide +kernel
theorem dX12_fact_16 : decode cX12_fact 16 = .ok (.ifCond .ne 6, 3) := by decide +kernel
theorem dX12_fact_19 : decode cX12_fact 19 = .ok (.bipush (-2), 2) := by decide +kernel
theorem dX12_fact_21 : decode cX12_fact 21 = .ok (.ireturn, 1) := by decide +kernel
theorem dX12_fact_22 : decode cX12_fact 22 = .ok (.iload_n 2, 1) := by decide +kernel
theorem dX12_fact_23 : decode cX12_fact 23 = .ok (.iconst (-1), 1) := by decide +kernel
theorem dX12_fact_24 : decode cX12_fact 24 = .ok (.if_icmp .ne 17, 3) := by decide +kernel
theorem dX12_fact_27 : decode cX12_fact 27 = .ok (.iload_n 3, 1) := by decide +kernel
theorem dX12_fact_28 : decode cX12_fact 28 = .ok (.ifCond .ne 10, 3) := by decide +kernel
theorem dX12_fact_31 : decode cX12_fact 31 = .ok (.aload_n 0, 1) := by decide +kernel
theorem dX12_fact_32 : decode cX12_fact 32 = .ok (.invokevirtual 470, 3) := by decide +kernel
theorem dX12_fact_35 : decode cX12_fact 35 = .ok (.goto 5, 3) := by decide +kernel
theorem dX12_fact_38 : decode cX12_fact 38 = .ok (.bipush (-2), 2) := by decide +kernel
theorem dX12_fact_40 : decode cX12_fact 40 = .ok (.ireturn, 1) := by decide +kernel
theorem dX12_fact_41 : decode cX12_fact 41 = .ok (.iload_n 2, 1) := by decide +kernel
theorem dX12_fact_42 : decode cX12_fact 42 = .ok (.iconst 0, 1) := by decide +kernel
theorem dX12_fact_43 : decode cX12_fact 43 = .ok (.aload_n 0, 1) := by decide +kernel
theorem dX12_fact_44 : decode cX12_fact 44 = .ok (.invokevirtual 470, 3) := by decide +kernel
theorem dX12_fact_47 : decode cX12_fact 47 = .ok (.iconst 1, 1) := by decide +kernel
theorem dX12_fact_48 : decode cX12_fact 48 = .ok (.isub, 1) := by decide +kernel
theorem dX12_fact_49 : decode cX12_fact 49 = .ok (.invokestatic 112, 3) := by decide +kernel
theorem dX12_fact_52 : decode cX12_fact 52 = .ok (.ifCond .eq 21, 3) := by decide +kernel
theorem dX12_fact_55 : decode cX12_fact 55 = .ok (.iload_n 3, 1) := by decide +kernel
theorem dX12_fact_56 : decode cX12_fact 56 = .ok (.iconst 0, 1) := by decide +kernel
theorem dX12_fact_57 : decode cX12_fact 57 = .ok (.iconst 1, 1) := by decide +kernel
theorem dX12_fact_58 : decode cX12_fact 58 = .ok (.invokestatic 112, 3) := by decide +kernel
theorem dX12_fact_61 : decode cX12_fact 61 = .ok (.ifCond .eq 12, 3) := by decide +kernel
theorem dX12_fact_64 : decode cX12_fact 64 = .ok (.aload_n 0, 1) := by decide +kernel
theorem dX12_fact_65 : decode cX12_fact 65 = .ok (.iload_n 2, 1) := by decide +kernel
theorem dX12_fact_66 : decode cX12_fact 66 = .ok (.iload_n 3, 1) := by decide +kernel
theorem dX12_fact_67 : decode cX12_fact 67 = .ok (.invokevirtual 473, 3) := by decide +kernel
theorem dX12_fact_70 : decode cX12_fact 70 = .ok (.goto 5, 3) := by decide +kernel
theorem dX12_fact_73 : decode cX12_fact 73 = .ok (.bipush (-2), 2) := by decide +kernel
theorem dX12_fact_75 : decode cX12_fact 75 = .ok (.ireturn, 1) := by decide +kernel
theorem dX12_seek_0 : decode cX12_seek 0 = .ok (.iconst (-1), 1) := by decide +kernel
theorem dX12_seek_1 : decode cX12_seek 1 = .ok (.istore_n 1, 1) := by decide +kernel
theorem dX12_seek_2 : decode cX12_seek 2 = .ok (.ldc_w 371, 3) := by decide +kernel
theorem dX12_seek_5 : decode cX12_seek 5 = .ok (.istore_n 2, 1) := by decide +kernel
theorem dX12_seek_6 : decode cX12_seek 6 = .ok (.iconst 0, 1) := by decide +kernel
theorem dX12_seek_7 : decode cX12_seek 7 = .ok (.istore_n 3, 1) := by decide +kernel
theorem dX12_seek_8 : decode cX12_seek 8 = .ok (.iload_n 3, 1) := by decide +kernel
theorem dX12_seek_9 : decode cX12_seek 9 = .ok (.bipush 40, 2) := by decide +kernel
theorem dX12_seek_11 : decode cX12_seek 11 = .ok (.if_icmp .ge 56, 3) := by decide +kernel
theorem dX12_seek_14 : decode cX12_seek 14 = .ok (.aload_n 0, 1) := by decide +kernel
theorem dX12_seek_15 : decode cX12_seek 15 = .ok (.getfield 467, 3) := by decide +kernel
theorem dX12_seek_18 : decode cX12_seek 18 = .ok (.ifCond .le 49, 3) := by decide +kernel
theorem dX12_seek_21 : decode cX12_seek 21 = .ok (.aload_n 0, 1) := by decide +kernel
theorem dX12_seek_22 : decode cX12_seek 22 = .ok (.iload_n 3, 1) := by decide +kernel
theorem dX12_seek_23 : decode cX12_seek 23 = .ok (.invokevirtual 476, 3) := by decide +kernel
theorem dX12_seek_26 : decode cX12_seek 26 = .ok (.istore 4, 2) := by decide +kernel
theorem dX12_seek_28 : decode cX12_seek 28 = .ok (.iload 4, 2) := by decide +kernel
theorem dX12_seek_30 : decode cX12_seek 30 = .ok (.aload_n 0, 1) := by decide +kernel
theorem dX12_seek_31 : decode cX12_seek 31 = .ok (.getfield 467, 3) := by decide +kernel
theorem dX12_seek_34 : decode cX12_seek 34 = .ok (.iload 4, 2) := by decide +kernel
theorem dX12_seek_36 : decode cX12_seek 36 = .ok (.isub, 1) := by decide +kernel
theorem dX12_seek_37 : decode cX12_seek 37 = .ok (.invokestatic 173, 3) := by decide +kernel
theorem dX12_seek_40 : decode cX12_seek 40 = .ok (.istore 5, 2) := by decide +kernel
theorem dX12_seek_42 : decode cX12_seek 42 = .ok (.iload 5, 2) := by decide +kernel
theorem dX12_seek_44 : decode cX12_seek 44 = .ok (.iload_n 2, 1) := by decide +kernel
theorem dX12_seek_45 : decode cX12_seek 45 = .ok (.if_icmp .ge 7, 3) := by decide +kernel
theorem dX12_seek_48 : decode cX12_seek 48 = .ok (.iload_n 3, 1) := by decide +kernel
theorem dX12_seek_49 : decode cX12_seek 49 = .ok (.goto 4, 3) := by decide +kernel
theorem dX12_seek_52 : decode cX12_seek 52 = .ok (.iload_n 1, 1) := by decide +kernel
theorem dX12_seek_53 : decode cX12_seek 53 = .ok (.istore_n 1, 1) := by decide +kernel
theorem dX12_seek_54 : decode cX12_seek 54 = .ok (.iload_n 2, 1) := by decide +kernel
theorem dX12_seek_55 : decode cX12_seek 55 = .ok (.iload 5, 2) := by decide +kernel
theorem dX12_seek_57 : decode cX12_seek 57 = .ok (.invokestatic 375, 3) := by decide +kernel
theorem dX12_seek_60 : decode cX12_seek 60 = .ok (.istore_n 2, 1) := by decide +kernel
theorem dX12_seek_61 : decode cX12_seek 61 = .ok (.iinc 3 1, 3) := by decide +kernel
theorem dX12_seek_64 : decode cX12_seek 64 = .ok (.goto (-56), 3) := by decide +kernel
theorem dX12_seek_67 : decode cX12_seek 67 = .ok (.iload_n 1, 1) := by decide +kernel
theorem dX12_seek_68 : decode cX12_seek 68 = .ok (.ireturn, 1) := by decide +kernel
theorem dX12_goRound_0 : decode cX12_goRound 0 = .ok (.iconst 0, 1) := by decide +kernel
theorem dX12_goRound_1 : decode cX12_goRound 1 = .ok (.istore_n 1, 1) := by decide +kernel
theorem dX12_goRound_2 : decode cX12_goRound 2 = .ok (.iload_n 1, 1) := by decide +kernel
theorem dX12_goRound_3 : decode cX12_goRound 3 = .ok (.aload_n 0, 1) := by decide +kernel
theorem dX12_goRound_4 : decode cX12_goRound 4 = .ok (.getfield 492, 3) := by decide +kernel
theorem dX12_goRound_7 : decode cX12_goRound 7 = .ok (.if_icmp .ge 34, 3) := by decide +kernel
theorem dX12_goRound_10 : decode cX12_goRound 10 = .ok (.aload_n 0, 1) := by decide +kernel
theorem dX12_goRound_11 : decode cX12_goRound 11 = .ok (.getfield 94, 3) := by decide +kernel
theorem dX12_goRound_14 : decode cX12_goRound 14 = .ok (.iload_n 1, 1) := by decide +kernel
theorem dX12_goRound_15 : decode cX12_goRound 15 = .ok (.aload_n 0, 1) := by decide +kernel
theorem dX12_goRound_16 : decode cX12_goRound 16 = .ok (.getfield 91, 3) := by decide +kernel
theorem dX12_goRound_19 : decode cX12_goRound 19 = .ok (.iload_n 1, 1) := by decide +kernel
theorem dX12_goRound_20 : decode cX12_goRound 20 = .ok (.iaload, 1) := by decide +kernel
theorem dX12_goRound_21 : decode cX12_goRound 21 = .ok (.iconst (-1), 1) := by decide +kernel
theorem dX12_goRound_22 : decode cX12_goRound 22 = .ok (.if_icmp .ne 11, 3) := by decide +kernel
theorem dX12_goRound_25 : decode cX12_goRound 25 = .ok (.aload_n 0, 1) := by decide +kernel
theorem dX12_goRound_26 : decode cX12_goRound 26 = .ok (.iload_n 1, 1) := by decide +kernel
theorem dX12_goRound_27 : decode cX12_goRound 27 = .ok (.invokevirtual 504, 3) := by decide +kernel
theorem dX12_goRound_30 : decode cX12_goRound 30 = .ok (.goto 4, 3) := by decide +kernel
theorem dX12_goRound_33 : decode cX12_goRound 33 = .ok (.iconst (-1), 1) := by decide +kernel
theorem dX12_goRound_34 : decode cX12_goRound 34 = .ok (.iastore, 1) := by decide +kernel
theorem dX12_goRound_35 : decode cX12_goRound 35 = .ok (.iinc 1 1, 3) := by decide +kernel
theorem dX12_goRound_38 : decode cX12_goRound 38 = .ok (.goto (-36), 3) := by decide +kernel
theorem dX12_goRound_41 : decode cX12_goRound 41 = .ok (.iconst 0, 1) := by decide +kernel
theorem dX12_goRound_42 : decode cX12_goRound 42 = .ok (.istore_n 1, 1) := by decide +kernel
theorem dX12_goRound_43 : decode cX12_goRound 43 = .ok (.iconst 0, 1) := by decide +kernel
theorem dX12_goRound_44 : decode cX12_goRound 44 = .ok (.istore_n 2, 1) := by decide +kernel
theorem dX12_goRound_45 : decode cX12_goRound 45 = .ok (.iload_n 2, 1) := by decide +kernel
theorem dX12_goRound_46 : decode cX12_goRound 46 = .ok (.aload_n 0, 1) := by decide +kernel
theorem dX12_goRound_47 : decode cX12_goRound 47 = .ok (.getfield 492, 3) := by decide +kernel
theorem dX12_goRound_50 : decode cX12_goRound 50 = .ok (.if_icmp .ge 42, 3) := by decide +kernel
theorem dX12_goRound_53 : decode cX12_goRound 53 = .ok (.aload_n 0, 1) := by decide +kernel
theorem dX12_goRound_54 : decode cX12_goRound 54 = .ok (.getfield 94, 3) := by decide +kernel
theorem dX12_goRound_57 : decode cX12_goRound 57 = .ok (.iload_n 2, 1) := by decide +kernel
theorem dX12_goRound_58 : decode cX12_goRound 58 = .ok (.iaload, 1) := by decide +kernel
theorem dX12_goRound_59 : decode cX12_goRound 59 = .ok (.iconst (-1), 1) := by decide +kernel
theorem dX12_goRound_60 : decode cX12_goRound 60 = .ok (.if_icmp .eq 26, 3) := by decide +kernel
theorem dX12_goRound_63 : decode cX12_goRound 63 = .ok (.aload_n 0, 1) := by decide +kernel
theorem dX12_goRound_64 : decode cX12_goRound 64 = .ok (.iload_n 2, 1) := by decide +kernel
theorem dX12_goRound_65 : decode cX12_goRound 65 = .ok (.invokevirtual 507, 3) := by decide +kernel
theorem dX12_goRound_68 : decode cX12_goRound 68 = .ok (.ifCond .eq 18, 3) := by decide +kernel
theorem dX12_goRound_71 : decode cX12_goRound 71 = .ok (.aload_n 0, 1) := by decide +kernel
theorem dX12_goRound_72 : decode cX12_goRound 72 = .ok (.getfield 88, 3) := by decide +kernel
theorem dX12_goRound_75 : decode cX12_goRound 75 = .ok (.iload_n 2, 1) := by decide +kernel
theorem dX12_goRound_76 : decode cX12_goRound 76 = .ok (.aload_n 0, 1) := by decide +kernel
theorem dX12_goRound_77 : decode cX12_goRound 77 = .ok (.getfield 94, 3) := by decide +kernel
theorem dX12_goRound_80 : decode cX12_goRound 80 = .ok (.iload_n 2, 1) := by decide +kernel
theorem dX12_goRound_81 : decode cX12_goRound 81 = .ok (.iaload, 1) := by decide +kernel
theorem dX12_goRound_82 : decode cX12_goRound 82 = .ok (.iastore, 1) := by decide +kernel
theorem dX12_goRound_83 : decode cX12_goRound 83 = .ok (.iinc 1 1, 3) := by decide +kernel
theorem dX12_goRound_86 : decode cX12_goRound 86 = .ok (.iinc 2 1, 3) := by decide +kernel
theorem dX12_goRound_89 : decode cX12_goRound 89 = .ok (.goto (-44), 3) := by decide +kernel
theorem dX12_goRound_92 : decode cX12_goRound 92 = .ok (.iconst 0, 1) := by decide +kernel
theorem dX12_goRound_93 : decode cX12_goRound 93 = .ok (.istore_n 2, 1) := by decide +kernel
theorem dX12_goRound_94 : decode cX12_goRound 94 = .ok (.iload_n 2, 1) := by decide +kernel
theorem dX12_goRound_95 : decode cX12_goRound 95 = .ok (.aload_n 0, 1) := by decide +kernel
theorem dX12_goRound_96 : decode cX12_goRound 96 = .ok (.getfield 492, 3) := by decide +kernel
theorem dX12_goRound_99 : decode cX12_goRound 99 = .ok (.if_icmp .ge 46, 3) := by decide +kernel
theorem dX12_goRound_102 : decode cX12_goRound 102 = .ok (.aload_n 0, 1) := by decide +kernel
theorem dX12_goRound_103 : decode cX12_goRound 103 = .ok (.getfield 91, 3) := by decide +kernel
theorem dX12_goRound_106 : decode cX12_goRound 106 = .ok (.iload_n 2, 1) := by decide +kernel
theorem dX12_goRound_107 : decode cX12_goRound 107 = .ok (.aload_n 0, 1) := by decide +kernel
theorem dX12_goRound_108 : decode cX12_goRound 108 = .ok (.getfield 94, 3) := by decide +kernel
theorem dX12_goRound_111 : decode cX12_goRound 111 = .ok (.iload_n 2, 1) := by decide +kernel
theorem dX12_goRound_112 : decode cX12_goRound 112 = .ok (.iaload, 1) := by decide +kernel
theorem dX12_goRound_113 : decode cX12_goRound 113 = .ok (.iconst (-1), 1) := by decide +kernel
theorem dX12_goRound_114 : decode cX12_goRound 114 = .ok (.if_icmp .eq 18, 3) := by decide +kernel
theorem dX12_goRound_117 : decode cX12_goRound 117 = .ok (.aload_n 0, 1) := by decide +kernel
theorem dX12_goRound_118 : decode cX12_goRound 118 = .ok (.iload_n 2, 1) := by decide +kernel
theorem dX12_goRound_119 : decode cX12_goRound 119 = .ok (.invokevirtual 507, 3) := by decide +kernel
theorem dX12_goRound_122 : decode cX12_goRound 122 = .ok (.ifCond .eq 10, 3) := by decide +kernel
theorem dX12_goRound_125 : decode cX12_goRound 125 = .ok (.aload_n 0, 1) := by decide +kernel
theorem dX12_goRound_126 : decode cX12_goRound 126 = .ok (.getfield 495, 3) := by decide +kernel
theorem dX12_goRound_129 : decode cX12_goRound 129 = .ok (.goto 9, 3) := by decide +kernel
theorem dX12_goRound_132 : decode cX12_goRound 132 = .ok (.aload_n 0, 1) := by decide +kernel
theorem dX12_goRound_133 : decode cX12_goRound 133 = .ok (.getfield 91, 3) := by decide +kernel
theorem dX12_goRound_136 : decode cX12_goRound 136 = .ok (.iload_n 2, 1) := by decide +kernel
theorem dX12_goRound_137 : decode cX12_goRound 137 = .ok (.iaload, 1) := by decide +kernel
theorem dX12_goRound_138 : decode cX12_goRound 138 = .ok (.iastore, 1) := by decide +kernel
theorem dX12_goRound_139 : decode cX12_goRound 139 = .ok (.iinc 2 1, 3) := by decide +kernel
theorem dX12_goRound_142 : decode cX12_goRound 142 = .ok (.goto (-48), 3) := by decide +kernel
theorem dX12_goRound_145 : decode cX12_goRound 145 = .ok (.iload_n 1, 1) := by decide +kernel
theorem dX12_goRound_146 : decode cX12_goRound 146 = .ok (.ireturn, 1) := by decide +kernel
theorem dX12_enough_0 : decode cX12_enough 0 = .ok (.aload_n 0, 1) := by decide +kernel
theorem dX12_enough_1 : decode cX12_enough 1 = .ok (.iconst 0, 1) := by decide +kernel
theorem dX12_enough_2 : decode cX12_enough 2 = .ok (.putfield 100, 3) := by decide +kernel
theorem dX12_enough_5 : decode cX12_enough 5 = .ok (.iload_n 1, 1) := by decide +kernel
theorem dX12_enough_6 : decode cX12_enough 6 = .ok (.iconst 1, 1) := by decide +kernel
theorem dX12_enough_7 : decode cX12_enough 7 = .ok (.bipush 9, 2) := by decide +kernel
theorem dX12_enough_9 : decode cX12_enough 9 = .ok (.invokestatic 112, 3) := by decide +kernel
theorem dX12_enough_12 : decode cX12_enough 12 = .ok (.ifCond .eq 13, 3) := by decide +kernel
theorem dX12_enough_15 : decode cX12_enough 15 = .ok (.iload_n 2, 1) := by decide +kernel
theorem dX12_enough_16 : decode cX12_enough 16 = .ok (.iconst 0, 1) := by decide +kernel
theorem dX12_enough_17 : decode cX12_enough 17 = .ok (.bipush 10, 2) := by decide +kernel
theorem dX12_enough_19 : decode cX12_enough 19 = .ok (.invokestatic 112, 3) := by decide +kernel
theorem dX12_enough_22 : decode cX12_enough 22 = .ok (.ifCond .ne 5, 3) := by decide +kernel
theorem dX12_enough_25 : decode cX12_enough 25 = .ok (.iconst (-1), 1) := by decide +kernel
theorem dX12_enough_26 : decode cX12_enough 26 = .ok (.ireturn, 1) := by decide +kernel
theorem dX12_enough_27 : decode cX12_enough 27 = .ok (.iconst 0, 1) := by decide +kernel
theorem dX12_enough_28 : decode cX12_enough 28 = .ok (.istore_n 3, 1) := by decide +kernel
theorem dX12_enough_29 : decode cX12_enough 29 = .ok (.iload_n 3, 1) := by decide +kernel
theorem dX12_enough_30 : decode cX12_enough 30 = .ok (.bipush 9, 2) := by decide +kernel
theorem dX12_enough_32 : decode cX12_enough 32 = .ok (.if_icmp .gt 36, 3) := by decide +kernel
theorem dX12_enough_35 : decode cX12_enough 35 = .ok (.ldc2_w 450, 3) := by decide +kernel
theorem dX12_enough_38 : decode cX12_enough 38 = .ok (.iload_n 3, 1) := by decide +kernel
theorem dX12_enough_39 : decode cX12_enough 39 = .ok (.iload_n 1, 1) := by decide +kernel
theorem dX12_enough_40 : decode cX12_enough 40 = .ok (.iload_n 2, 1) := by decide +kernel
theorem dX12_enough_41 : decode cX12_enough 41 = .ok (.invokestatic 456, 3) := by decide +kernel
theorem dX12_enough_44 : decode cX12_enough 44 = .ok (.lmul, 1) := by decide +kernel
theorem dX12_enough_45 : decode cX12_enough 45 = .ok (.ldc2_w 533, 3) := by decide +kernel
theorem dX12_enough_48 : decode cX12_enough 48 = .ok (.ldc2_w 450, 3) := by decide +kernel
theorem dX12_enough_51 : decode cX12_enough 51 = .ok (.iload_n 3, 1) := by decide +kernel
theorem dX12_enough_52 : decode cX12_enough 52 = .ok (.invokestatic 452, 3) := by decide +kernel
theorem dX12_enough_55 : decode cX12_enough 55 = .ok (.lmul, 1) := by decide +kernel
theorem dX12_enough_56 : decode cX12_enough 56 = .ok (.lcmp, 1) := by decide +kernel
theorem dX12_enough_57 : decode cX12_enough 57 = .ok (.ifCond .lt 5, 3) := by decide +kernel
theorem dX12_enough_60 : decode cX12_enough 60 = .ok (.iload_n 3, 1) := by decide +kernel
theorem dX12_enough_61 : decode cX12_enough 61 = .ok (.ireturn, 1) := by decide +kernel
theorem dX12_enough_62 : decode cX12_enough 62 = .ok (.iinc 3 1, 3) := by decide +kernel
theorem dX12_enough_65 : decode cX12_enough 65 = .ok (.goto (-36), 3) := by decide +kernel
theorem dX12_enough_68 : decode cX12_enough 68 = .ok (.iconst (-1), 1) := by decide +kernel
theorem dX12_enough_69 : decode cX12_enough 69 = .ok (.ireturn, 1) := by decide +kernel
theorem dX12_image_0 : decode cX12_image 0 = .ok (.aload_n 0, 1) := by decide +kernel
theorem dX12_image_1 : decode cX12_image 1 = .ok (.iconst 0, 1) := by decide +kernel
theorem dX12_image_2 : decode cX12_image 2 = .ok (.putfield 100, 3) := by decide +kernel
theorem dX12_image_5 : decode cX12_image 5 = .ok (.iload_n 1, 1) := by decide +kernel
theorem dX12_image_6 : decode cX12_image 6 = .ok (.iconst 0, 1) := by decide +kernel
theorem dX12_image_7 : decode cX12_image 7 = .ok (.iconst 2, 1) := by decide +kernel
theorem dX12_image_8 : decode cX12_image 8 = .ok (.invokestatic 112, 3) := by decide +kernel
theorem dX12_image_11 : decode cX12_image 11 = .ok (.ifCond .ne 5, 3) := by decide +kernel
theorem dX12_image_14 : decode cX12_image 14 = .ok (.iconst 0, 1) := by decide +kernel
theorem dX12_image_15 : decode cX12_image 15 = .ok (.ireturn, 1) := by decide +kernel
theorem dX12_image_16 : decode cX12_image 16 = .ok (.aload_n 0, 1) := by decide +kernel
theorem dX12_image_17 : decode cX12_image 17 = .ok (.iconst 0, 1) := by decide +kernel
theorem dX12_image_18 : decode cX12_image 18 = .ok (.iload_n 1, 1) := by decide +kernel
theorem dX12_image_19 : decode cX12_image 19 = .ok (.iconst 1, 1) := by decide +kernel
theorem dX12_image_20 : decode cX12_image 20 = .ok (.iadd, 1) := by decide +kernel
theorem dX12_image_21 : decode cX12_image 21 = .ok (.invokevirtual 547, 3) := by decide +kernel
theorem dX12_image_24 : decode cX12_image 24 = .ok (.aload_n 0, 1) := by decide +kernel
theorem dX12_image_25 : decode cX12_image 25 = .ok (.getfield 97, 3) := by decide +kernel
theorem dX12_image_28 : decode cX12_image 28 = .ok (.iload_n 1, 1) := by decide +kernel
theorem dX12_image_29 : decode cX12_image 29 = .ok (.iconst 1, 1) := by decide +kernel
theorem dX12_image_30 : decode cX12_image 30 = .ok (.bastore, 1) := by decide +kernel
theorem dX12_image_31 : decode cX12_image 31 = .ok (.iconst 1, 1) := by decide +kernel
theorem dX12_image_32 : decode cX12_image 32 = .ok (.ireturn, 1) := by decide +kernel
theorem dX12_again_0 : decode cX12_again 0 = .ok (.aload_n 0, 1) := by decide +kernel
theorem dX12_again_1 : decode cX12_again 1 = .ok (.iconst 0, 1) := by decide +kernel
theorem dX12_again_2 : decode cX12_again 2 = .ok (.putfield 100, 3) := by decide +kernel
theorem dX12_again_5 : decode cX12_again 5 = .ok (.iload_n 1, 1) := by decide +kernel
theorem dX12_again_6 : decode cX12_again 6 = .ok (.iconst 0, 1) := by decide +kernel
theorem dX12_again_7 : decode cX12_again 7 = .ok (.iconst 2, 1) := by decide +kernel
theorem dX12_again_8 : decode cX12_again 8 = .ok (.invokestatic 112, 3) := by decide +kernel
theorem dX12_again_11 : decode cX12_again 11 = .ok (.ifCond .eq 12, 3) := by decide +kernel
theorem dX12_again_14 : decode cX12_again 14 = .ok (.aload_n 0, 1) := by decide +kernel
theorem dX12_again_15 : decode cX12_again 15 = .ok (.getfield 97, 3) := by decide +kernel
theorem dX12_again_18 : decode cX12_again 18 = .ok (.iload_n 1, 1) := by decide +kernel
theorem dX12_again_19 : decode cX12_again 19 = .ok (.baload, 1) := by decide +kernel
theorem dX12_again_20 : decode cX12_again 20 = .ok (.ifCond .ne 5, 3) := by decide +kernel
theorem dX12_again_23 : decode cX12_again 23 = .ok (.iconst 0, 1) := by decide +kernel
theorem dX12_again_24 : decode cX12_again 24 = .ok (.ireturn, 1) := by decide +kernel
theorem dX12_again_25 : decode cX12_again 25 = .ok (.aload_n 0, 1) := by decide +kernel
theorem dX12_again_26 : decode cX12_again 26 = .ok (.iload_n 1, 1) := by decide +kernel
theorem dX12_again_27 : decode cX12_again 27 = .ok (.iconst 1, 1) := by decide +kernel
theorem dX12_again_28 : decode cX12_again 28 = .ok (.iadd, 1) := by decide +kernel
theorem dX12_again_29 : decode cX12_again 29 = .ok (.iconst 0, 1) := by decide +kernel
theorem dX12_again_30 : decode cX12_again 30 = .ok (.invokevirtual 547, 3) := by decide +kernel
theorem dX12_again_33 : decode cX12_again 33 = .ok (.iconst 1, 1) := by decide +kernel
theorem dX12_again_34 : decode cX12_again 34 = .ok (.ireturn, 1) := by decide +kernel
theorem dX12_takeMinute_0 : decode cX12_takeMinute 0 = .ok (.aload_n 0, 1) := by decide +kernel
theorem dX12_takeMinute_1 : decode cX12_takeMinute 1 = .ok (.iload_n 1, 1) := by decide +kernel
theorem dX12_takeMinute_2 : decode cX12_takeMinute 2 = .ok (.iload_n 2, 1) := by decide +kernel
theorem dX12_takeMinute_3 : decode cX12_takeMinute 3 = .ok (.bipush 39, 2) := by decide +kernel
theorem dX12_takeMinute_5 : decode cX12_takeMinute 5 = .ok (.invokevirtual 167, 3) := by decide +kernel
theorem dX12_takeMinute_8 : decode cX12_takeMinute 8 = .ok (.ifCond .ne 5, 3) := by decide +kernel
theorem dX12_takeMinute_11 : decode cX12_takeMinute 11 = .ok (.iconst 0, 1) := by decide +kernel
theorem dX12_takeMinute_12 : decode cX12_takeMinute 12 = .ok (.ireturn, 1) := by decide +kernel
theorem dX12_takeMinute_13 : decode cX12_takeMinute 13 = .ok (.aload_n 0, 1) := by decide +kernel
theorem dX12_takeMinute_14 : decode cX12_takeMinute 14 = .ok (.aload_n 0, 1) := by decide +kernel
theorem dX12_takeMinute_15 : decode cX12_takeMinute 15 = .ok (.getfield 170, 3) := by decide +kernel
theorem dX12_takeMinute_18 : decode cX12_takeMinute 18 = .ok (.aload_n 0, 1) := by decide +kernel
theorem dX12_takeMinute_19 : decode cX12_takeMinute 19 = .ok (.getfield 41, 3) := by decide +kernel
theorem dX12_takeMinute_22 : decode cX12_takeMinute 22 = .ok (.iload_n 1, 1) := by decide +kernel
theorem dX12_takeMinute_23 : decode cX12_takeMinute 23 = .ok (.iaload, 1) := by decide +kernel
theorem dX12_takeMinute_24 : decode cX12_takeMinute 24 = .ok (.invokestatic 173, 3) := by decide +kernel
theorem dX12_takeMinute_27 : decode cX12_takeMinute 27 = .ok (.putfield 170, 3) := by decide +kernel
theorem dX12_takeMinute_30 : decode cX12_takeMinute 30 = .ok (.iconst 1, 1) := by decide +kernel
theorem dX12_takeMinute_31 : decode cX12_takeMinute 31 = .ok (.ireturn, 1) := by decide +kernel
theorem dX12_takeOne_0 : decode cX12_takeOne 0 = .ok (.aload_n 0, 1) := by decide +kernel
theorem dX12_takeOne_1 : decode cX12_takeOne 1 = .ok (.iload_n 1, 1) := by decide +kernel
theorem dX12_takeOne_2 : decode cX12_takeOne 2 = .ok (.iconst 0, 1) := by decide +kernel
theorem dX12_takeOne_3 : decode cX12_takeOne 3 = .ok (.iload_n 2, 1) := by decide +kernel
theorem dX12_takeOne_4 : decode cX12_takeOne 4 = .ok (.invokevirtual 167, 3) := by decide +kernel
theorem dX12_takeOne_7 : decode cX12_takeOne 7 = .ok (.ifCond .ne 5, 3) := by decide +kernel
theorem dX12_takeOne_10 : decode cX12_takeOne 10 = .ok (.iconst 0, 1) := by decide +kernel
theorem dX12_takeOne_11 : decode cX12_takeOne 11 = .ok (.ireturn, 1) := by decide +kernel
theorem dX12_takeOne_12 : decode cX12_takeOne 12 = .ok (.aload_n 0, 1) := by decide +kernel
theorem dX12_takeOne_13 : decode cX12_takeOne 13 = .ok (.aload_n 0, 1) := by decide +kernel
theorem dX12_takeOne_14 : decode cX12_takeOne 14 = .ok (.getfield 177, 3) := by decide +kernel
theorem dX12_takeOne_17 : decode cX12_takeOne 17 = .ok (.aload_n 0, 1) := by decide +kernel
theorem dX12_takeOne_18 : decode cX12_takeOne 18 = .ok (.getfield 41, 3) := by decide +kernel
theorem dX12_takeOne_21 : decode cX12_takeOne 21 = .ok (.iload_n 1, 1) := by decide +kernel
theorem dX12_takeOne_22 : decode cX12_takeOne 22 = .ok (.iaload, 1) := by decide +kernel
theorem dX12_takeOne_23 : decode cX12_takeOne 23 = .ok (.invokestatic 173, 3) := by decide +kernel
theorem dX12_takeOne_26 : decode cX12_takeOne 26 = .ok (.putfield 177, 3) := by decide +kernel
theorem dX12_takeOne_29 : decode cX12_takeOne 29 = .ok (.iconst 1, 1) := by decide +kernel
theorem dX12_takeOne_30 : decode cX12_takeOne 30 = .ok (.ireturn, 1) := by decide +kernel
theorem dX12_street_0 : decode cX12_street 0 = .ok (.aload_n 0, 1) := by decide +kernel
theorem dX12_street_1 : decode cX12_street 1 = .ok (.iconst 0, 1) := by decide +kernel
theorem dX12_street_2 : decode cX12_street 2 = .ok (.putfield 100, 3) := by decide +kernel
theorem dX12_street_5 : decode cX12_street 5 = .ok (.aload_n 0, 1) := by decide +kernel
theorem dX12_street_6 : decode cX12_street 6 = .ok (.iload_n 1, 1) := by decide +kernel
theorem dX12_street_7 : decode cX12_street 7 = .ok (.invokevirtual 298, 3) := by decide +kernel
theorem dX12_street_10 : decode cX12_street 10 = .ok (.ifCond .ne 6, 3) := by decide +kernel
theorem dX12_street_13 : decode cX12_street 13 = .ok (.bipush (-2), 2) := by decide +kernel
theorem dX12_street_15 : decode cX12_street 15 = .ok (.ireturn, 1) := by decide +kernel
theorem dX12_street_16 : decode cX12_street 16 = .ok (.iload_n 2, 1) := by decide +kernel
theorem dX12_street_17 : decode cX12_street 17 = .ok (.bipush 10, 2) := by decide +kernel
theorem dX12_street_19 : decode cX12_street 19 = .ok (.irem, 1) := by decide +kernel
theorem dX12_street_20 : decode cX12_street 20 = .ok (.istore_n 3, 1) := by decide +kernel
theorem dX12_street_21 : decode cX12_street 21 = .ok (.iload_n 2, 1) := by decide +kernel
theorem dX12_street_22 : decode cX12_street 22 = .ok (.bipush 100, 2) := by decide +kernel
theorem dX12_street_24 : decode cX12_street 24 = .ok (.if_icmp .lt 55, 3) := by decide +kernel
theorem dX12_street_27 : decode cX12_street 27 = .ok (.iload_n 2, 1) := by decide +kernel
theorem dX12_street_28 : decode cX12_street 28 = .ok (.bipush 100, 2) := by decide +kernel
theorem dX12_street_30 : decode cX12_street 30 = .ok (.irem, 1) := by decide +kernel
theorem dX12_street_31 : decode cX12_street 31 = .ok (.istore 4, 2) := by decide +kernel
theorem dX12_street_33 : decode cX12_street 33 = .ok (.iload 4, 2) := by decide +kernel
theorem dX12_street_35 : decode cX12_street 35 = .ok (.aload_n 0, 1) := by decide +kernel
theorem dX12_street_36 : decode cX12_street 36 = .ok (.getfield 283, 3) := by decide +kernel
theorem dX12_street_39 : decode cX12_street 39 = .ok (.if_icmp .ge 10, 3) := by decide +kernel
theorem dX12_street_42 : decode cX12_street 42 = .ok (.iload_n 2, 1) := by decide +kernel
theorem dX12_street_43 : decode cX12_street 43 = .ok (.sipush 300, 3) := by decide +kernel
theorem dX12_street_46 : decode cX12_street 46 = .ok (.if_icmp .lt 8, 3) := by decide +kernel
theorem dX12_street_49 : decode cX12_street 49 = .ok (.bipush (-2), 2) := by decide +kernel
theorem dX12_street_51 : decode cX12_street 51 = .ok (.goto 27, 3) := by decide +kernel
theorem dX12_street_54 : decode cX12_street 54 = .ok (.iload_n 2, 1) := by decide +kernel
theorem dX12_street_55 : decode cX12_street 55 = .ok (.sipush 200, 3) := by decide +kernel
theorem dX12_street_58 : decode cX12_street 58 = .ok (.if_icmp .ge 13, 3) := by decide +kernel
theorem dX12_street_61 : decode cX12_street 61 = .ok (.aload_n 0, 1) := by decide +kernel
theorem dX12_street_62 : decode cX12_street 62 = .ok (.getfield 47, 3) := by decide +kernel
theorem dX12_street_65 : decode cX12_street 65 = .ok (.iload 4, 2) := by decide +kernel
theorem dX12_street_67 : decode cX12_street 67 = .ok (.iaload, 1) := by decide +kernel
theorem dX12_street_68 : decode cX12_street 68 = .ok (.goto 10, 3) := by decide +kernel
theorem dX12_street_71 : decode cX12_street 71 = .ok (.aload_n 0, 1) := by decide +kernel
theorem dX12_street_72 : decode cX12_street 72 = .ok (.getfield 50, 3) := by decide +kernel
theorem dX12_street_75 : decode cX12_street 75 = .ok (.iload 4, 2) := by decide +kernel
theorem dX12_street_77 : decode cX12_street 77 = .ok (.iaload, 1) := by decide +kernel
theorem dX12_street_78 : decode cX12_street 78 = .ok (.ireturn, 1) := by decide +kernel
theorem dX12_street_79 : decode cX12_street 79 = .ok (.iload_n 2, 1) := by decide +kernel
theorem dX12_street_80 : decode cX12_street 80 = .ok (.bipush 10, 2) := by decide +kernel
theorem dX12_street_82 : decode cX12_street 82 = .ok (.idiv, 1) := by decide +kernel
theorem dX12_street_83 : decode cX12_street 83 = .ok (.tableswitch 109 0 5 #[37, 57, 77, 77, 77, 77], 37) := by decide +kernel
theorem dX12_street_120 : decode cX12_street 120 = .ok (.iload_n 2, 1) := by decide +kernel
theorem dX12_street_121 : decode cX12_street 121 = .ok (.iconst 0, 1) := by decide +kernel
theorem dX12_street_122 : decode cX12_street 122 = .ok (.iconst 2, 1) := by decide +kernel
theorem dX12_street_123 : decode cX12_street 123 = .ok (.invokestatic 112, 3) := by decide +kernel
theorem dX12_street_126 : decode cX12_street 126 = .ok (.ifCond .eq 11, 3) := by decide +kernel
theorem dX12_street_129 : decode cX12_street 129 = .ok (.aload_n 0, 1) := by decide +kernel
theorem dX12_street_130 : decode cX12_street 130 = .ok (.iload_n 2, 1) := by decide +kernel
theorem dX12_street_131 : decode cX12_street 131 = .ok (.invokevirtual 279, 3) := by decide +kernel
theorem dX12_street_134 : decode cX12_street 134 = .ok (.goto 5, 3) := by decide +kernel
theorem dX12_street_137 : decode cX12_street 137 = .ok (.bipush (-2), 2) := by decide +kernel
theorem dX12_street_139 : decode cX12_street 139 = .ok (.ireturn, 1) := by decide +kernel
theorem dX12_street_140 : decode cX12_street 140 = .ok (.iload_n 3, 1) := by decide +kernel
theorem dX12_street_141 : decode cX12_street 141 = .ok (.aload_n 0, 1) := by decide +kernel
theorem dX12_street_142 : decode cX12_street 142 = .ok (.getfield 286, 3) := by decide +kernel
theorem dX12_street_145 : decode cX12_street 145 = .ok (.if_icmp .ge 12, 3) := by decide +kernel
theorem dX12_street_148 : decode cX12_street 148 = .ok (.aload_n 0, 1) := by decide +kernel
theorem dX12_street_149 : decode cX12_street 149 = .ok (.getfield 44, 3) := by decide +kernel
theorem dX12_street_152 : decode cX12_street 152 = .ok (.iload_n 3, 1) := by decide +kernel
theorem dX12_street_153 : decode cX12_street 153 = .ok (.iaload, 1) := by decide +kernel
theorem dX12_street_154 : decode cX12_street 154 = .ok (.goto 5, 3) := by decide +kernel
theorem dX12_street_157 : decode cX12_street 157 = .ok (.bipush (-2), 2) := by decide +kernel
theorem dX12_street_159 : decode cX12_street 159 = .ok (.ireturn, 1) := by decide +kernel
theorem dX12_street_160 : decode cX12_street 160 = .ok (.iload_n 3, 1) := by decide +kernel
theorem dX12_street_161 : decode cX12_street 161 = .ok (.aload_n 0, 1) := by decide +kernel
theorem dX12_street_162 : decode cX12_street 162 = .ok (.getfield 289, 3) := by decide +kernel
theorem dX12_street_165 : decode cX12_street 165 = .ok (.if_icmp .ge 24, 3) := by decide +kernel
theorem dX12_street_168 : decode cX12_street 168 = .ok (.aload_n 0, 1) := by decide +kernel
theorem dX12_street_169 : decode cX12_street 169 = .ok (.bipush 7, 2) := by decide +kernel
theorem dX12_street_171 : decode cX12_street 171 = .ok (.bipush 6, 2) := by decide +kernel
theorem dX12_street_173 : decode cX12_street 173 = .ok (.iload_n 2, 1) := by decide +kernel
theorem dX12_street_174 : decode cX12_street 174 = .ok (.bipush 10, 2) := by decide +kernel
theorem dX12_street_176 : decode cX12_street 176 = .ok (.idiv, 1) := by decide +kernel
theorem dX12_street_177 : decode cX12_street 177 = .ok (.iconst 2, 1) := by decide +kernel
theorem dX12_street_178 : decode cX12_street 178 = .ok (.isub, 1) := by decide +kernel
theorem dX12_street_179 : decode cX12_street 179 = .ok (.imul, 1) := by decide +kernel
theorem dX12_street_180 : decode cX12_street 180 = .ok (.iadd, 1) := by decide +kernel
theorem dX12_street_181 : decode cX12_street 181 = .ok (.iload_n 3, 1) := by decide +kernel
theorem dX12_street_182 : decode cX12_street 182 = .ok (.iadd, 1) := by decide +kernel
theorem dX12_street_183 : decode cX12_street 183 = .ok (.invokevirtual 279, 3) := by decide +kernel
theorem dX12_street_186 : decode cX12_street 186 = .ok (.goto 5, 3) := by decide +kernel
theorem dX12_street_189 : decode cX12_street 189 = .ok (.bipush (-2), 2) := by decide +kernel
theorem dX12_street_191 : decode cX12_street 191 = .ok (.ireturn, 1) := by decide +kernel
theorem dX12_street_192 : decode cX12_street 192 = .ok (.bipush (-2), 2) := by decide +kernel
theorem dX12_street_194 : decode cX12_street 194 = .ok (.ireturn, 1) := by decide +kernel
theorem dX12_deed_0 : decode cX12_deed 0 = .ok (.aload_n 0, 1) := by decide +kernel
theorem dX12_deed_1 : decode cX12_deed 1 = .ok (.iconst 0, 1) := by decide +kernel
theorem dX12_deed_2 : decode cX12_deed 2 = .ok (.putfield 100, 3) := by decide +kernel
theorem dX12_deed_5 : decode cX12_deed 5 = .ok (.aload_n 0, 1) := by decide +kernel
theorem dX12_deed_6 : decode cX12_deed 6 = .ok (.iload_n 1, 1) := by decide +kernel
theorem dX12_deed_7 : decode cX12_deed 7 = .ok (.invokevirtual 304, 3) := by decide +kernel
theorem dX12_deed_10 : decode cX12_deed 10 = .ok (.ifCond .ne 6, 3) := by decide +kernel
theorem dX12_deed_13 : decode cX12_deed 13 = .ok (.bipush (-2), 2) := by decide +kernel
theorem dX12_deed_15 : decode cX12_deed 15 = .ok (.ireturn, 1) := by decide +kernel
theorem dX12_deed_16 : decode cX12_deed 16 = .ok (.iload_n 2, 1) := by decide +kernel
theorem dX12_deed_17 : decode cX12_deed 17 = .ok (.iconst (-1), 1) := by decide +kernel
theorem dX12_deed_18 : decode cX12_deed 18 = .ok (.if_icmp .ne 17, 3) := by decide +kernel
theorem dX12_deed_21 : decode cX12_deed 21 = .ok (.iload_n 3, 1) := by decide +kernel
theorem dX12_deed_22 : decode cX12_deed 22 = .ok (.ifCond .ne 10, 3) := by decide +kernel
theorem dX12_deed_25 : decode cX12_deed 25 = .ok (.aload_n 0, 1) := by decide +kernel
theorem dX12_deed_26 : decode cX12_deed 26 = .ok (.invokevirtual 307, 3) := by decide +kernel
theorem dX12_deed_29 : decode cX12_deed 29 = .ok (.goto 5, 3) := by decide +kernel
theorem dX12_deed_32 : decode cX12_deed 32 = .ok (.bipush (-2), 2) := by decide +kernel
theorem dX12_deed_34 : decode cX12_deed 34 = .ok (.ireturn, 1) := by decide +kernel
theorem dX12_deed_35 : decode cX12_deed 35 = .ok (.iload_n 2, 1) := by decide +kernel
theorem dX12_deed_36 : decode cX12_deed 36 = .ok (.iconst 0, 1) := by decide +kernel
theorem dX12_deed_37 : decode cX12_deed 37 = .ok (.aload_n 0, 1) := by decide +kernel
theorem dX12_deed_38 : decode cX12_deed 38 = .ok (.invokevirtual 307, 3) := by decide +kernel
theorem dX12_deed_41 : decode cX12_deed 41 = .ok (.iconst 1, 1) := by decide +kernel
theorem dX12_deed_42 : decode cX12_deed 42 = .ok (.isub, 1) := by decide +kernel
theorem dX12_deed_43 : decode cX12_deed 43 = .ok (.invokestatic 112, 3) := by decide +kernel
theorem dX12_deed_46 : decode cX12_deed 46 = .ok (.ifCond .eq 21, 3) := by decide +kernel
theorem dX12_deed_49 : decode cX12_deed 49 = .ok (.iload_n 3, 1) := by decide +kernel
theorem dX12_deed_50 : decode cX12_deed 50 = .ok (.iconst 0, 1) := by decide +kernel
theorem dX12_deed_51 : decode cX12_deed 51 = .ok (.iconst 3, 1) := by decide +kernel
theorem dX12_deed_52 : decode cX12_deed 52 = .ok (.invokestatic 112, 3) := by decide +kernel
theorem dX12_deed_55 : decode cX12_deed 55 = .ok (.ifCond .eq 12, 3) := by decide +kernel
theorem dX12_deed_58 : decode cX12_deed 58 = .ok (.aload_n 0, 1) := by decide +kernel
theorem dX12_deed_59 : decode cX12_deed 59 = .ok (.iload_n 2, 1) := by decide +kernel
theorem dX12_deed_60 : decode cX12_deed 60 = .ok (.iload_n 3, 1) := by decide +kernel
theorem dX12_deed_61 : decode cX12_deed 61 = .ok (.invokevirtual 310, 3) := by decide +kernel
theorem dX12_deed_64 : decode cX12_deed 64 = .ok (.goto 5, 3) := by decide +kernel
theorem dX12_deed_67 : decode cX12_deed 67 = .ok (.bipush (-2), 2) := by decide +kernel
theorem dX12_deed_69 : decode cX12_deed 69 = .ok (.ireturn, 1) := by decide +kernel
theorem dX12_doesTask_0 : decode cX12_doesTask 0 = .ok (.aload_n 0, 1) := by decide +kernel
theorem dX12_doesTask_1 : decode cX12_doesTask 1 = .ok (.iload_n 1, 1) := by decide +kernel
theorem dX12_doesTask_2 : decode cX12_doesTask 2 = .ok (.invokevirtual 316, 3) := by decide +kernel
theorem dX12_doesTask_5 : decode cX12_doesTask 5 = .ok (.ifCond .eq 38, 3) := by decide +kernel
theorem dX12_doesTask_8 : decode cX12_doesTask 8 = .ok (.aload_n 0, 1) := by decide +kernel
theorem dX12_doesTask_9 : decode cX12_doesTask 9 = .ok (.iload_n 2, 1) := by decide +kernel
theorem dX12_doesTask_10 : decode cX12_doesTask 10 = .ok (.invokevirtual 319, 3) := by decide +kernel
theorem dX12_doesTask_13 : decode cX12_doesTask 13 = .ok (.ifCond .eq 30, 3) := by decide +kernel
theorem dX12_doesTask_16 : decode cX12_doesTask 16 = .ok (.aload_n 0, 1) := by decide +kernel
theorem dX12_doesTask_17 : decode cX12_doesTask 17 = .ok (.iload_n 3, 1) := by decide +kernel
theorem dX12_doesTask_18 : decode cX12_doesTask 18 = .ok (.invokevirtual 322, 3) := by decide +kernel
theorem dX12_doesTask_21 : decode cX12_doesTask 21 = .ok (.ifCond .eq 22, 3) := by decide +kernel
theorem dX12_doesTask_24 : decode cX12_doesTask 24 = .ok (.aload_n 0, 1) := by decide +kernel
theorem dX12_doesTask_25 : decode cX12_doesTask 25 = .ok (.getfield 57, 3) := by decide +kernel
theorem dX12_doesTask_28 : decode cX12_doesTask 28 = .ok (.iload_n 2, 1) := by decide +kernel
theorem dX12_doesTask_29 : decode cX12_doesTask 29 = .ok (.iaload, 1) := by decide +kernel
theorem dX12_doesTask_30 : decode cX12_doesTask 30 = .ok (.iconst (-1), 1) := by decide +kernel
theorem dX12_doesTask_31 : decode cX12_doesTask 31 = .ok (.if_icmp .ne 12, 3) := by decide +kernel
theorem dX12_doesTask_34 : decode cX12_doesTask 34 = .ok (.aload_n 0, 1) := by decide +kernel
theorem dX12_doesTask_35 : decode cX12_doesTask 35 = .ok (.iload_n 2, 1) := by decide +kernel
theorem dX12_doesTask_36 : decode cX12_doesTask 36 = .ok (.iload_n 3, 1) := by decide +kernel
theorem dX12_doesTask_37 : decode cX12_doesTask 37 = .ok (.invokevirtual 325, 3) := by decide +kernel
theorem dX12_doesTask_40 : decode cX12_doesTask 40 = .ok (.ifCond .ne 5, 3) := by decide +kernel
theorem dX12_doesTask_43 : decode cX12_doesTask 43 = .ok (.iconst 0, 1) := by decide +kernel
theorem dX12_doesTask_44 : decode cX12_doesTask 44 = .ok (.ireturn, 1) := by decide +kernel
theorem dX12_doesTask_45 : decode cX12_doesTask 45 = .ok (.iconst 0, 1) := by decide +kernel
theorem dX12_doesTask_46 : decode cX12_doesTask 46 = .ok (.istore 4, 2) := by decide +kernel
theorem dX12_doesTask_48 : decode cX12_doesTask 48 = .ok (.iload 4, 2) := by decide +kernel
theorem dX12_doesTask_50 : decode cX12_doesTask 50 = .ok (.aload_n 0, 1) := by decide +kernel
theorem dX12_doesTask_51 : decode cX12_doesTask 51 = .ok (.iload_n 2, 1) := by decide +kernel
theorem dX12_doesTask_52 : decode cX12_doesTask 52 = .ok (.invokevirtual 295, 3) := by decide +kernel
theorem dX12_doesTask_55 : decode cX12_doesTask 55 = .ok (.if_icmp .ge 36, 3) := by decide +kernel
theorem dX12_doesTask_58 : decode cX12_doesTask 58 = .ok (.aload_n 0, 1) := by decide +kernel
theorem dX12_doesTask_59 : decode cX12_doesTask 59 = .ok (.getfield 50, 3) := by decide +kernel
theorem dX12_doesTask_62 : decode cX12_doesTask 62 = .ok (.iload_n 3, 1) := by decide +kernel
theorem dX12_doesTask_63 : decode cX12_doesTask 63 = .ok (.iload 4, 2) := by decide +kernel
theorem dX12_doesTask_65 : decode cX12_doesTask 65 = .ok (.iadd, 1) := by decide +kernel
theorem dX12_doesTask_66 : decode cX12_doesTask 66 = .ok (.iaload, 1) := by decide +kernel
theorem dX12_doesTask_67 : decode cX12_doesTask 67 = .ok (.iload_n 1, 1) := by decide +kernel
theorem dX12_doesTask_68 : decode cX12_doesTask 68 = .ok (.if_icmp .ne 15, 3) := by decide +kernel
theorem dX12_doesTask_71 : decode cX12_doesTask 71 = .ok (.aload_n 0, 1) := by decide +kernel
theorem dX12_doesTask_72 : decode cX12_doesTask 72 = .ok (.getfield 53, 3) := by decide +kernel
theorem dX12_doesTask_75 : decode cX12_doesTask 75 = .ok (.iload_n 3, 1) := by decide +kernel
theorem dX12_doesTask_76 : decode cX12_doesTask 76 = .ok (.iload 4, 2) := by decide +kernel
theorem dX12_doesTask_78 : decode cX12_doesTask 78 = .ok (.iadd, 1) := by decide +kernel
theorem dX12_doesTask_79 : decode cX12_doesTask 79 = .ok (.baload, 1) := by decide +kernel
theorem dX12_doesTask_80 : decode cX12_doesTask 80 = .ok (.ifCond .eq 5, 3) := by decide +kernel
theorem dX12_doesTask_83 : decode cX12_doesTask 83 = .ok (.iconst 0, 1) := by decide +kernel
theorem dX12_doesTask_84 : decode cX12_doesTask 84 = .ok (.ireturn, 1) := by decide +kernel
theorem dX12_doesTask_85 : decode cX12_doesTask 85 = .ok (.iinc 4 1, 3) := by decide +kernel
theorem dX12_doesTask_88 : decode cX12_doesTask 88 = .ok (.goto (-40), 3) := by decide +kernel
theorem dX12_doesTask_91 : decode cX12_doesTask 91 = .ok (.iconst 0, 1) := by decide +kernel
theorem dX12_doesTask_92 : decode cX12_doesTask 92 = .ok (.istore 4, 2) := by decide +kernel
theorem dX12_doesTask_94 : decode cX12_doesTask 94 = .ok (.iload 4, 2) := by decide +kernel
theorem dX12_doesTask_96 : decode cX12_doesTask 96 = .ok (.aload_n 0, 1) := by decide +kernel
theorem dX12_doesTask_97 : decode cX12_doesTask 97 = .ok (.iload_n 2, 1) := by decide +kernel
theorem dX12_doesTask_98 : decode cX12_doesTask 98 = .ok (.invokevirtual 295, 3) := by decide +kernel
theorem dX12_doesTask_101 : decode cX12_doesTask 101 = .ok (.if_icmp .ge 19, 3) := by decide +kernel
theorem dX12_doesTask_104 : decode cX12_doesTask 104 = .ok (.aload_n 0, 1) := by decide +kernel
theorem dX12_doesTask_105 : decode cX12_doesTask 105 = .ok (.getfield 53, 3) := by decide +kernel
theorem dX12_doesTask_108 : decode cX12_doesTask 108 = .ok (.iload_n 3, 1) := by decide +kernel
theorem dX12_doesTask_109 : decode cX12_doesTask 109 = .ok (.iload 4, 2) := by decide +kernel
theorem dX12_doesTask_111 : decode cX12_doesTask 111 = .ok (.iadd, 1) := by decide +kernel
theorem dX12_doesTask_112 : decode cX12_doesTask 112 = .ok (.iconst 1, 1) := by decide +kernel
theorem dX12_doesTask_113 : decode cX12_doesTask 113 = .ok (.bastore, 1) := by decide +kernel
theorem dX12_doesTask_114 : decode cX12_doesTask 114 = .ok (.iinc 4 1, 3) := by decide +kernel
theorem dX12_doesTask_117 : decode cX12_doesTask 117 = .ok (.goto (-23), 3) := by decide +kernel
theorem dX12_doesTask_120 : decode cX12_doesTask 120 = .ok (.aload_n 0, 1) := by decide +kernel
theorem dX12_doesTask_121 : decode cX12_doesTask 121 = .ok (.getfield 57, 3) := by decide +kernel
theorem dX12_doesTask_124 : decode cX12_doesTask 124 = .ok (.iload_n 2, 1) := by decide +kernel
theorem dX12_doesTask_125 : decode cX12_doesTask 125 = .ok (.iload_n 1, 1) := by decide +kernel
theorem dX12_doesTask_126 : decode cX12_doesTask 126 = .ok (.iastore, 1) := by decide +kernel
theorem dX12_doesTask_127 : decode cX12_doesTask 127 = .ok (.aload_n 0, 1) := by decide +kernel
theorem dX12_doesTask_128 : decode cX12_doesTask 128 = .ok (.getfield 44, 3) := by decide +kernel
theorem dX12_doesTask_131 : decode cX12_doesTask 131 = .ok (.iload_n 1, 1) := by decide +kernel
theorem dX12_doesTask_132 : decode cX12_doesTask 132 = .ok (.dup2, 1) := by decide +kernel
theorem dX12_doesTask_133 : decode cX12_doesTask 133 = .ok (.iaload, 1) := by decide +kernel
theorem dX12_doesTask_134 : decode cX12_doesTask 134 = .ok (.aload_n 0, 1) := by decide +kernel
theorem dX12_doesTask_135 : decode cX12_doesTask 135 = .ok (.bipush 25, 2) := by decide +kernel
theorem dX12_doesTask_137 : decode cX12_doesTask 137 = .ok (.iload_n 2, 1) := by decide +kernel
theorem dX12_doesTask_138 : decode cX12_doesTask 138 = .ok (.iadd, 1) := by decide +kernel
theorem dX12_doesTask_139 : decode cX12_doesTask 139 = .ok (.invokevirtual 279, 3) := by decide +kernel
theorem dX12_doesTask_142 : decode cX12_doesTask 142 = .ok (.iadd, 1) := by decide +kernel
theorem dX12_doesTask_143 : decode cX12_doesTask 143 = .ok (.iastore, 1) := by decide +kernel
theorem dX12_doesTask_144 : decode cX12_doesTask 144 = .ok (.iconst 1, 1) := by decide +kernel
theorem dX12_doesTask_145 : decode cX12_doesTask 145 = .ok (.ireturn, 1) := by decide +kernel
theorem dX12_layAll_0 : decode cX12_layAll 0 = .ok (.aload_n 0, 1) := by decide +kernel
theorem dX12_layAll_1 : decode cX12_layAll 1 = .ok (.iload_n 2, 1) := by decide +kernel
theorem dX12_layAll_2 : decode cX12_layAll 2 = .ok (.invokevirtual 304, 3) := by decide +kernel
theorem dX12_layAll_5 : decode cX12_layAll 5 = .ok (.ifCond .eq 15, 3) := by decide +kernel
theorem dX12_layAll_8 : decode cX12_layAll 8 = .ok (.aload_n 0, 1) := by decide +kernel
theorem dX12_layAll_9 : decode cX12_layAll 9 = .ok (.iload_n 1, 1) := by decide +kernel
theorem dX12_layAll_10 : decode cX12_layAll 10 = .ok (.invokevirtual 298, 3) := by decide +kernel
theorem dX12_layAll_13 : decode cX12_layAll 13 = .ok (.ifCond .eq 7, 3) := by decide +kernel
theorem dX12_layAll_16 : decode cX12_layAll 16 = .ok (.iconst 1, 1) := by decide +kernel
theorem dX12_layAll_17 : decode cX12_layAll 17 = .ok (.goto 4, 3) := by decide +kernel
theorem dX12_layAll_20 : decode cX12_layAll 20 = .ok (.iconst 0, 1) := by decide +kernel
theorem dX12_layAll_21 : decode cX12_layAll 21 = .ok (.ireturn, 1) := by decide +kernel
theorem dX12_runCost_0 : decode cX12_runCost 0 = .ok (.aload_n 0, 1) := by decide +kernel
theorem dX12_runCost_1 : decode cX12_runCost 1 = .ok (.iload_n 2, 1) := by decide +kernel
theorem dX12_runCost_2 : decode cX12_runCost 2 = .ok (.iload_n 3, 1) := by decide +kernel
theorem dX12_runCost_3 : decode cX12_runCost 3 = .ok (.invokevirtual 325, 3) := by decide +kernel
theorem dX12_runCost_6 : decode cX12_runCost 6 = .ok (.ifCond .eq 23, 3) := by decide +kernel
theorem dX12_runCost_9 : decode cX12_runCost 9 = .ok (.aload_n 0, 1) := by decide +kernel
theorem dX12_runCost_10 : decode cX12_runCost 10 = .ok (.getfield 66, 3) := by decide +kernel
theorem dX12_runCost_13 : decode cX12_runCost 13 = .ok (.iload_n 2, 1) := by decide +kernel
theorem dX12_runCost_14 : decode cX12_runCost 14 = .ok (.iaload, 1) := by decide +kernel
theorem dX12_runCost_15 : decode cX12_runCost 15 = .ok (.iconst (-1), 1) := by decide +kernel
theorem dX12_runCost_16 : decode cX12_runCost 16 = .ok (.if_icmp .eq 17, 3) := by decide +kernel
theorem dX12_runCost_19 : decode cX12_runCost 19 = .ok (.aload_n 0, 1) := by decide +kernel
theorem dX12_runCost_20 : decode cX12_runCost 20 = .ok (.getfield 66, 3) := by decide +kernel
theorem dX12_runCost_23 : decode cX12_runCost 23 = .ok (.iload_n 2, 1) := by decide +kernel
theorem dX12_runCost_24 : decode cX12_runCost 24 = .ok (.iaload, 1) := by decide +kernel
theorem dX12_runCost_25 : decode cX12_runCost 25 = .ok (.iload_n 3, 1) := by decide +kernel
theorem dX12_runCost_26 : decode cX12_runCost 26 = .ok (.if_icmp .eq 7, 3) := by decide +kernel
theorem dX12_runCost_29 : decode cX12_runCost 29 = .ok (.ldc_w 371, 3) := by decide +kernel
theorem dX12_runCost_32 : decode cX12_runCost 32 = .ok (.ireturn, 1) := by decide +kernel
theorem dX12_runCost_33 : decode cX12_runCost 33 = .ok (.iconst 0, 1) := by decide +kernel
theorem dX12_runCost_34 : decode cX12_runCost 34 = .ok (.istore 4, 2) := by decide +kernel
theorem dX12_runCost_36 : decode cX12_runCost 36 = .ok (.iload_n 3, 1) := by decide +kernel
theorem dX12_runCost_37 : decode cX12_runCost 37 = .ok (.istore 5, 2) := by decide +kernel
theorem dX12_runCost_39 : decode cX12_runCost 39 = .ok (.iload 5, 2) := by decide +kernel
theorem dX12_runCost_41 : decode cX12_runCost 41 = .ok (.iload_n 3, 1) := by decide +kernel
theorem dX12_runCost_42 : decode cX12_runCost 42 = .ok (.aload_n 0, 1) := by decide +kernel
theorem dX12_runCost_43 : decode cX12_runCost 43 = .ok (.iload_n 2, 1) := by decide +kernel
theorem dX12_runCost_44 : decode cX12_runCost 44 = .ok (.invokevirtual 295, 3) := by decide +kernel
theorem dX12_runCost_47 : decode cX12_runCost 47 = .ok (.iadd, 1) := by decide +kernel
theorem dX12_runCost_48 : decode cX12_runCost 48 = .ok (.if_icmp .ge 36, 3) := by decide +kernel
theorem dX12_runCost_51 : decode cX12_runCost 51 = .ok (.iload 4, 2) := by decide +kernel
theorem dX12_runCost_53 : decode cX12_runCost 53 = .ok (.iload 5, 2) := by decide +kernel
theorem dX12_runCost_55 : decode cX12_runCost 55 = .ok (.aload_n 0, 1) := by decide +kernel
theorem dX12_runCost_56 : decode cX12_runCost 56 = .ok (.getfield 292, 3) := by decide +kernel
theorem dX12_runCost_59 : decode cX12_runCost 59 = .ok (.if_icmp .ne 9, 3) := by decide +kernel
theorem dX12_runCost_62 : decode cX12_runCost 62 = .ok (.ldc_w 371, 3) := by decide +kernel
theorem dX12_runCost_65 : decode cX12_runCost 65 = .ok (.goto 10, 3) := by decide +kernel
theorem dX12_runCost_68 : decode cX12_runCost 68 = .ok (.aload_n 0, 1) := by decide +kernel
theorem dX12_runCost_69 : decode cX12_runCost 69 = .ok (.iload_n 1, 1) := by decide +kernel
theorem dX12_runCost_70 : decode cX12_runCost 70 = .ok (.iload 5, 2) := by decide +kernel
theorem dX12_runCost_72 : decode cX12_runCost 72 = .ok (.invokevirtual 372, 3) := by decide +kernel
theorem dX12_runCost_75 : decode cX12_runCost 75 = .ok (.iadd, 1) := by decide +kernel
theorem dX12_runCost_76 : decode cX12_runCost 76 = .ok (.istore 4, 2) := by decide +kernel
theorem dX12_runCost_78 : decode cX12_runCost 78 = .ok (.iinc 5 1, 3) := by decide +kernel
theorem dX12_runCost_81 : decode cX12_runCost 81 = .ok (.goto (-42), 3) := by decide +kernel
theorem dX12_runCost_84 : decode cX12_runCost 84 = .ok (.iload 4, 2) := by decide +kernel
theorem dX12_runCost_86 : decode cX12_runCost 86 = .ok (.ldc_w 371, 3) := by decide +kernel
theorem dX12_runCost_89 : decode cX12_runCost 89 = .ok (.invokestatic 375, 3) := by decide +kernel
theorem dX12_runCost_92 : decode cX12_runCost 92 = .ok (.ireturn, 1) := by decide +kernel
theorem dX12_halves_0 : decode cX12_halves 0 = .ok (.aload_n 0, 1) := by decide +kernel
theorem dX12_halves_1 : decode cX12_halves 1 = .ok (.iconst 0, 1) := by decide +kernel
theorem dX12_halves_2 : decode cX12_halves 2 = .ok (.putfield 100, 3) := by decide +kernel
theorem dX12_halves_5 : decode cX12_halves 5 = .ok (.aload_n 0, 1) := by decide +kernel
theorem dX12_halves_6 : decode cX12_halves 6 = .ok (.iload_n 1, 1) := by decide +kernel
theorem dX12_halves_7 : decode cX12_halves 7 = .ok (.invokevirtual 298, 3) := by decide +kernel
theorem dX12_halves_10 : decode cX12_halves 10 = .ok (.ifCond .ne 7, 3) := by decide +kernel
theorem dX12_halves_13 : decode cX12_halves 13 = .ok (.sipush (-1000), 3) := by decide +kernel
theorem dX12_halves_16 : decode cX12_halves 16 = .ok (.ireturn, 1) := by decide +kernel
theorem dX12_halves_17 : decode cX12_halves 17 = .ok (.iconst 0, 1) := by decide +kernel
theorem dX12_halves_18 : decode cX12_halves 18 = .ok (.istore_n 3, 1) := by decide +kernel
theorem dX12_halves_19 : decode cX12_halves 19 = .ok (.aload_n 0, 1) := by decide +kernel
theorem dX12_halves_20 : decode cX12_halves 20 = .ok (.getfield 75, 3) := by decide +kernel
theorem dX12_halves_23 : decode cX12_halves 23 = .ok (.aload_n 0, 1) := by decide +kernel
theorem dX12_halves_24 : decode cX12_halves 24 = .ok (.getfield 283, 3) := by decide +kernel
theorem dX12_halves_27 : decode cX12_halves 27 = .ok (.iconst 0, 1) := by decide +kernel
theorem dX12_halves_28 : decode cX12_halves 28 = .ok (.iastore, 1) := by decide +kernel
theorem dX12_halves_29 : decode cX12_halves 29 = .ok (.aload_n 0, 1) := by decide +kernel
theorem dX12_halves_30 : decode cX12_halves 30 = .ok (.getfield 283, 3) := by decide +kernel
theorem dX12_halves_33 : decode cX12_halves 33 = .ok (.iconst 1, 1) := by decide +kernel
theorem dX12_halves_34 : decode cX12_halves 34 = .ok (.isub, 1) := by decide +kernel
theorem dX12_halves_35 : decode cX12_halves 35 = .ok (.istore 4, 2) := by decide +kernel
theorem dX12_halves_37 : decode cX12_halves 37 = .ok (.iload 4, 2) := by decide +kernel
theorem dX12_halves_39 : decode cX12_halves 39 = .ok (.ifCond .lt 77, 3) := by decide +kernel
theorem dX12_halves_42 : decode cX12_halves 42 = .ok (.iconst 1, 1) := by decide +kernel
theorem dX12_halves_43 : decode cX12_halves 43 = .ok (.istore_n 3, 1) := by decide +kernel
theorem dX12_halves_44 : decode cX12_halves 44 = .ok (.iconst 2, 1) := by decide +kernel
theorem dX12_halves_45 : decode cX12_halves 45 = .ok (.istore 5, 2) := by decide +kernel
theorem dX12_halves_47 : decode cX12_halves 47 = .ok (.iload 5, 2) := by decide +kernel
theorem dX12_halves_49 : decode cX12_halves 49 = .ok (.iconst 3, 1) := by decide +kernel
theorem dX12_halves_50 : decode cX12_halves 50 = .ok (.if_icmp .gt 46, 3) := by decide +kernel
theorem dX12_halves_53 : decode cX12_halves 53 = .ok (.iload 4, 2) := by decide +kernel
theorem dX12_halves_55 : decode cX12_halves 55 = .ok (.iload 5, 2) := by decide +kernel
theorem dX12_halves_57 : decode cX12_halves 57 = .ok (.iadd, 1) := by decide +kernel
theorem dX12_halves_58 : decode cX12_halves 58 = .ok (.aload_n 0, 1) := by decide +kernel
theorem dX12_halves_59 : decode cX12_halves 59 = .ok (.getfield 283, 3) := by decide +kernel
theorem dX12_halves_62 : decode cX12_halves 62 = .ok (.if_icmp .gt 34, 3) := by decide +kernel
theorem dX12_halves_65 : decode cX12_halves 65 = .ok (.aload_n 0, 1) := by decide +kernel
theorem dX12_halves_66 : decode cX12_halves 66 = .ok (.iload 4, 2) := by decide +kernel
theorem dX12_halves_68 : decode cX12_halves 68 = .ok (.iload 5, 2) := by decide +kernel
theorem dX12_halves_70 : decode cX12_halves 70 = .ok (.invokevirtual 409, 3) := by decide +kernel
theorem dX12_halves_73 : decode cX12_halves 73 = .ok (.aload_n 0, 1) := by decide +kernel
theorem dX12_halves_74 : decode cX12_halves 74 = .ok (.iload 4, 2) := by decide +kernel
theorem dX12_halves_76 : decode cX12_halves 76 = .ok (.iload_n 3, 1) := by decide +kernel
theorem dX12_halves_77 : decode cX12_halves 77 = .ok (.invokevirtual 409, 3) := by decide +kernel
theorem dX12_halves_80 : decode cX12_halves 80 = .ok (.if_icmp .le 8, 3) := by decide +kernel
theorem dX12_halves_83 : decode cX12_halves 83 = .ok (.iload 5, 2) := by decide +kernel
theorem dX12_halves_85 : decode cX12_halves 85 = .ok (.goto 4, 3) := by decide +kernel
theorem dX12_halves_88 : decode cX12_halves 88 = .ok (.iload_n 3, 1) := by decide +kernel
theorem dX12_halves_89 : decode cX12_halves 89 = .ok (.istore_n 3, 1) := by decide +kernel
theorem dX12_halves_90 : decode cX12_halves 90 = .ok (.iinc 5 1, 3) := by decide +kernel
theorem dX12_halves_93 : decode cX12_halves 93 = .ok (.goto (-46), 3) := by decide +kernel
theorem dX12_halves_96 : decode cX12_halves 96 = .ok (.aload_n 0, 1) := by decide +kernel
theorem dX12_halves_97 : decode cX12_halves 97 = .ok (.getfield 75, 3) := by decide +kernel
theorem dX12_halves_100 : decode cX12_halves 100 = .ok (.iload 4, 2) := by decide +kernel
theorem dX12_halves_102 : decode cX12_halves 102 = .ok (.aload_n 0, 1) := by decide +kernel
theorem dX12_halves_103 : decode cX12_halves 103 = .ok (.iload 4, 2) := by decide +kernel
theorem dX12_halves_105 : decode cX12_halves 105 = .ok (.iload_n 3, 1) := by decide +kernel
theorem dX12_halves_106 : decode cX12_halves 106 = .ok (.invokevirtual 409, 3) := by decide +kernel
theorem dX12_halves_109 : decode cX12_halves 109 = .ok (.iastore, 1) := by decide +kernel
theorem dX12_halves_110 : decode cX12_halves 110 = .ok (.iinc 4 (-1), 3) := by decide +kernel
theorem dX12_halves_113 : decode cX12_halves 113 = .ok (.goto (-76), 3) := by decide +kernel
theorem dX12_halves_116 : decode cX12_halves 116 = .ok (.iload_n 2, 1) := by decide +kernel
theorem dX12_halves_117 : decode cX12_halves 117 = .ok (.ifCond .eq 7, 3) := by decide +kernel
theorem dX12_halves_120 : decode cX12_halves 120 = .ok (.iload_n 3, 1) := by decide +kernel
theorem dX12_halves_121 : decode cX12_halves 121 = .ok (.goto 9, 3) := by decide +kernel
theorem dX12_halves_124 : decode cX12_halves 124 = .ok (.aload_n 0, 1) := by decide +kernel
theorem dX12_halves_125 : decode cX12_halves 125 = .ok (.getfield 75, 3) := by decide +kernel
theorem dX12_halves_128 : decode cX12_halves 128 = .ok (.iconst 0, 1) := by decide +kernel
theorem dX12_halves_129 : decode cX12_halves 129 = .ok (.iaload, 1) := by decide +kernel
theorem dX12_halves_130 : decode cX12_halves 130 = .ok (.ireturn, 1) := by decide +kernel
theorem dX12_free_0 : decode cX12_free 0 = .ok (.aload_n 0, 1) := by decide +kernel
theorem dX12_free_1 : decode cX12_free 1 = .ok (.iconst 0, 1) := by decide +kernel
theorem dX12_free_2 : decode cX12_free 2 = .ok (.putfield 100, 3) := by decide +kernel
theorem dX12_free_5 : decode cX12_free 5 = .ok (.aload_n 0, 1) := by decide +kernel
theorem dX12_free_6 : decode cX12_free 6 = .ok (.iload_n 1, 1) := by decide +kernel
theorem dX12_free_7 : decode cX12_free 7 = .ok (.invokevirtual 298, 3) := by decide +kernel
theorem dX12_free_10 : decode cX12_free 10 = .ok (.ifCond .eq 11, 3) := by decide +kernel
theorem dX12_free_13 : decode cX12_free 13 = .ok (.aload_n 0, 1) := by decide +kernel
theorem dX12_free_14 : decode cX12_free 14 = .ok (.iload_n 2, 1) := by decide +kernel
theorem dX12_free_15 : decode cX12_free 15 = .ok (.invokevirtual 316, 3) := by decide +kernel
theorem dX12_free_18 : decode cX12_free 18 = .ok (.ifCond .ne 6, 3) := by decide +kernel
theorem dX12_free_21 : decode cX12_free 21 = .ok (.bipush (-2), 2) := by decide +kernel
theorem dX12_free_23 : decode cX12_free 23 = .ok (.ireturn, 1) := by decide +kernel
theorem dX12_free_24 : decode cX12_free 24 = .ok (.iconst (-1), 1) := by decide +kernel
theorem dX12_free_25 : decode cX12_free 25 = .ok (.istore 4, 2) := by decide +kernel
theorem dX12_free_27 : decode cX12_free 27 = .ok (.iconst 0, 1) := by decide +kernel
theorem dX12_free_28 : decode cX12_free 28 = .ok (.istore 5, 2) := by decide +kernel
theorem dX12_free_30 : decode cX12_free 30 = .ok (.iconst 0, 1) := by decide +kernel
theorem dX12_free_31 : decode cX12_free 31 = .ok (.istore 6, 2) := by decide +kernel
theorem dX12_free_33 : decode cX12_free 33 = .ok (.iconst 0, 1) := by decide +kernel
theorem dX12_free_34 : decode cX12_free 34 = .ok (.istore 7, 2) := by decide +kernel
theorem dX12_free_36 : decode cX12_free 36 = .ok (.iload 7, 2) := by decide +kernel
theorem dX12_free_38 : decode cX12_free 38 = .ok (.aload_n 0, 1) := by decide +kernel
theorem dX12_free_39 : decode cX12_free 39 = .ok (.getfield 283, 3) := by decide +kernel
theorem dX12_free_42 : decode cX12_free 42 = .ok (.if_icmp .ge 60, 3) := by decide +kernel
theorem dX12_free_45 : decode cX12_free 45 = .ok (.aload_n 0, 1) := by decide +kernel
theorem dX12_free_46 : decode cX12_free 46 = .ok (.getfield 50, 3) := by decide +kernel
theorem dX12_free_49 : decode cX12_free 49 = .ok (.iload 7, 2) := by decide +kernel
theorem dX12_free_51 : decode cX12_free 51 = .ok (.iaload, 1) := by decide +kernel
theorem dX12_free_52 : decode cX12_free 52 = .ok (.iload_n 2, 1) := by decide +kernel
theorem dX12_free_53 : decode cX12_free 53 = .ok (.if_icmp .ne 10, 3) := by decide +kernel
theorem dX12_free_56 : decode cX12_free 56 = .ok (.iload 6, 2) := by decide +kernel
theorem dX12_free_58 : decode cX12_free 58 = .ok (.iconst 1, 1) := by decide +kernel
theorem dX12_free_59 : decode cX12_free 59 = .ok (.iadd, 1) := by decide +kernel
theorem dX12_free_60 : decode cX12_free 60 = .ok (.goto 4, 3) := by decide +kernel
theorem dX12_free_63 : decode cX12_free 63 = .ok (.iconst 0, 1) := by decide +kernel
theorem dX12_free_64 : decode cX12_free 64 = .ok (.istore 6, 2) := by decide +kernel
theorem dX12_free_66 : decode cX12_free 66 = .ok (.iload 6, 2) := by decide +kernel
theorem dX12_free_68 : decode cX12_free 68 = .ok (.iload 5, 2) := by decide +kernel
theorem dX12_free_70 : decode cX12_free 70 = .ok (.if_icmp .le 13, 3) := by decide +kernel
theorem dX12_free_73 : decode cX12_free 73 = .ok (.iload 7, 2) := by decide +kernel
theorem dX12_free_75 : decode cX12_free 75 = .ok (.iconst 1, 1) := by decide +kernel
theorem dX12_free_76 : decode cX12_free 76 = .ok (.iadd, 1) := by decide +kernel
theorem dX12_free_77 : decode cX12_free 77 = .ok (.iload 6, 2) := by decide +kernel
theorem dX12_free_79 : decode cX12_free 79 = .ok (.isub, 1) := by decide +kernel
theorem dX12_free_80 : decode cX12_free 80 = .ok (.goto 5, 3) := by decide +kernel
theorem dX12_free_83 : decode cX12_free 83 = .ok (.iload 4, 2) := by decide +kernel
theorem dX12_free_85 : decode cX12_free 85 = .ok (.istore 4, 2) := by decide +kernel
theorem dX12_free_87 : decode cX12_free 87 = .ok (.iload 5, 2) := by decide +kernel
theorem dX12_free_89 : decode cX12_free 89 = .ok (.iload 6, 2) := by decide +kernel
theorem dX12_free_91 : decode cX12_free 91 = .ok (.invokestatic 173, 3) := by decide +kernel
theorem dX12_free_94 : decode cX12_free 94 = .ok (.istore 5, 2) := by decide +kernel
theorem dX12_free_96 : decode cX12_free 96 = .ok (.iinc 7 1, 3) := by decide +kernel
theorem dX12_free_99 : decode cX12_free 99 = .ok (.goto (-63), 3) := by decide +kernel
theorem dX12_free_102 : decode cX12_free 102 = .ok (.iload_n 3, 1) := by decide +kernel
theorem dX12_free_103 : decode cX12_free 103 = .ok (.ifCond .eq 8, 3) := by decide +kernel
theorem dX12_free_106 : decode cX12_free 106 = .ok (.iload 4, 2) := by decide +kernel
theorem dX12_free_108 : decode cX12_free 108 = .ok (.goto 5, 3) := by decide +kernel
theorem dX12_free_111 : decode cX12_free 111 = .ok (.iload 5, 2) := by decide +kernel
theorem dX12_free_113 : decode cX12_free 113 = .ok (.ireturn, 1) := by decide +kernel
theorem dX12_findRuns_0 : decode cX12_findRuns 0 = .ok (.aload_n 0, 1) := by decide +kernel
theorem dX12_findRuns_1 : decode cX12_findRuns 1 = .ok (.iconst 0, 1) := by decide +kernel
theorem dX12_findRuns_2 : decode cX12_findRuns 2 = .ok (.putfield 412, 3) := by decide +kernel
theorem dX12_findRuns_5 : decode cX12_findRuns 5 = .ok (.iconst 0, 1) := by decide +kernel
theorem dX12_findRuns_6 : decode cX12_findRuns 6 = .ok (.istore 5, 2) := by decide +kernel
theorem dX12_findRuns_8 : decode cX12_findRuns 8 = .ok (.iload 5, 2) := by decide +kernel
theorem dX12_findRuns_10 : decode cX12_findRuns 10 = .ok (.aload_n 0, 1) := by decide +kernel
theorem dX12_findRuns_11 : decode cX12_findRuns 11 = .ok (.getfield 289, 3) := by decide +kernel
theorem dX12_findRuns_14 : decode cX12_findRuns 14 = .ok (.if_icmp .ge 102, 3) := by decide +kernel
theorem dX12_findRuns_17 : decode cX12_findRuns 17 = .ok (.iconst 0, 1) := by decide +kernel
theorem dX12_findRuns_18 : decode cX12_findRuns 18 = .ok (.istore 6, 2) := by decide +kernel
theorem dX12_findRuns_20 : decode cX12_findRuns 20 = .ok (.iload 6, 2) := by decide +kernel
theorem dX12_findRuns_22 : decode cX12_findRuns 22 = .ok (.aload_n 0, 1) := by decide +kernel
theorem dX12_findRuns_23 : decode cX12_findRuns 23 = .ok (.getfield 283, 3) := by decide +kernel
theorem dX12_findRuns_26 : decode cX12_findRuns 26 = .ok (.if_icmp .ge 84, 3) := by decide +kernel
theorem dX12_findRuns_29 : decode cX12_findRuns 29 = .ok (.aload_n 0, 1) := by decide +kernel
theorem dX12_findRuns_30 : decode cX12_findRuns 30 = .ok (.iload 5, 2) := by decide +kernel
theorem dX12_findRuns_32 : decode cX12_findRuns 32 = .ok (.iload 6, 2) := by decide +kernel
theorem dX12_findRuns_34 : decode cX12_findRuns 34 = .ok (.invokevirtual 325, 3) := by decide +kernel
theorem dX12_findRuns_37 : decode cX12_findRuns 37 = .ok (.ifCond .eq 14, 3) := by decide +kernel
theorem dX12_findRuns_40 : decode cX12_findRuns 40 = .ok (.aload_n 0, 1) := by decide +kernel
theorem dX12_findRuns_41 : decode cX12_findRuns 41 = .ok (.iload 5, 2) := by decide +kernel
theorem dX12_findRuns_43 : decode cX12_findRuns 43 = .ok (.iload 6, 2) := by decide +kernel
theorem dX12_findRuns_45 : decode cX12_findRuns 45 = .ok (.invokevirtual 415, 3) := by decide +kernel
theorem dX12_findRuns_48 : decode cX12_findRuns 48 = .ok (.goto 4, 3) := by decide +kernel
theorem dX12_findRuns_51 : decode cX12_findRuns 51 = .ok (.lconst 0, 1) := by decide +kernel
theorem dX12_findRuns_52 : decode cX12_findRuns 52 = .ok (.lstore 7, 2) := by decide +kernel
theorem dX12_findRuns_54 : decode cX12_findRuns 54 = .ok (.lload 7, 2) := by decide +kernel
theorem dX12_findRuns_56 : decode cX12_findRuns 56 = .ok (.lconst 0, 1) := by decide +kernel
theorem dX12_findRuns_57 : decode cX12_findRuns 57 = .ok (.lcmp, 1) := by decide +kernel
theorem dX12_findRuns_58 : decode cX12_findRuns 58 = .ok (.ifCond .eq 46, 3) := by decide +kernel
theorem dX12_findRuns_61 : decode cX12_findRuns 61 = .ok (.lload 7, 2) := by decide +kernel
theorem dX12_findRuns_63 : decode cX12_findRuns 63 = .ok (.lload_n 1, 1) := by decide +kernel
theorem dX12_findRuns_64 : decode cX12_findRuns 64 = .ok (.land, 1) := by decide +kernel
theorem dX12_findRuns_65 : decode cX12_findRuns 65 = .ok (.lconst 0, 1) := by decide +kernel
theorem dX12_findRuns_66 : decode cX12_findRuns 66 = .ok (.lcmp, 1) := by decide +kernel
theorem dX12_findRuns_67 : decode cX12_findRuns 67 = .ok (.ifCond .ne 37, 3) := by decide +kernel
theorem dX12_findRuns_70 : decode cX12_findRuns 70 = .ok (.lload 7, 2) := by decide +kernel
theorem dX12_findRuns_72 : decode cX12_findRuns 72 = .ok (.lload_n 3, 1) := by decide +kernel
theorem dX12_findRuns_73 : decode cX12_findRuns 73 = .ok (.ldc2_w 419, 3) := by decide +kernel
theorem dX12_findRuns_76 : decode cX12_findRuns 76 = .ok (.lxor, 1) := by decide +kernel
theorem dX12_findRuns_77 : decode cX12_findRuns 77 = .ok (.land, 1) := by decide +kernel
theorem dX12_findRuns_78 : decode cX12_findRuns 78 = .ok (.lconst 0, 1) := by decide +kernel
theorem dX12_findRuns_79 : decode cX12_findRuns 79 = .ok (.lcmp, 1) := by decide +kernel
theorem dX12_findRuns_80 : decode cX12_findRuns 80 = .ok (.ifCond .ne 24, 3) := by decide +kernel
theorem dX12_findRuns_83 : decode cX12_findRuns 83 = .ok (.aload_n 0, 1) := by decide +kernel
theorem dX12_findRuns_84 : decode cX12_findRuns 84 = .ok (.getfield 78, 3) := by decide +kernel
theorem dX12_findRuns_87 : decode cX12_findRuns 87 = .ok (.aload_n 0, 1) := by decide +kernel
theorem dX12_findRuns_88 : decode cX12_findRuns 88 = .ok (.getfield 412, 3) := by decide +kernel
theorem dX12_findRuns_91 : decode cX12_findRuns 91 = .ok (.lload 7, 2) := by decide +kernel
theorem dX12_findRuns_93 : decode cX12_findRuns 93 = .ok (.lastore, 1) := by decide +kernel
theorem dX12_findRuns_94 : decode cX12_findRuns 94 = .ok (.aload_n 0, 1) := by decide +kernel
theorem dX12_findRuns_95 : decode cX12_findRuns 95 = .ok (.dup, 1) := by decide +kernel
theorem dX12_findRuns_96 : decode cX12_findRuns 96 = .ok (.getfield 412, 3) := by decide +kernel
theorem dX12_findRuns_99 : decode cX12_findRuns 99 = .ok (.iconst 1, 1) := by decide +kernel
theorem dX12_findRuns_100 : decode cX12_findRuns 100 = .ok (.iadd, 1) := by decide +kernel
theorem dX12_findRuns_101 : decode cX12_findRuns 101 = .ok (.putfield 412, 3) := by decide +kernel
theorem dX12_findRuns_104 : decode cX12_findRuns 104 = .ok (.iinc 6 1, 3) := by decide +kernel
theorem dX12_findRuns_107 : decode cX12_findRuns 107 = .ok (.goto (-87), 3) := by decide +kernel
theorem dX12_findRuns_110 : decode cX12_findRuns 110 = .ok (.iinc 5 1, 3) := by decide +kernel
theorem dX12_findRuns_113 : decode cX12_findRuns 113 = .ok (.goto (-105), 3) := by decide +kernel
theorem dX12_findRuns_116 : decode cX12_findRuns 116 = .ok (.return_, 1) := by decide +kernel
theorem dX12_fits_0 : decode cX12_fits 0 = .ok (.aload_n 0, 1) := by decide +kernel
theorem dX12_fits_1 : decode cX12_fits 1 = .ok (.iconst 0, 1) := by decide +kernel
theorem dX12_fits_2 : decode cX12_fits 2 = .ok (.putfield 100, 3) := by decide +kernel
theorem dX12_fits_5 : decode cX12_fits 5 = .ok (.aload_n 0, 1) := by decide +kernel
theorem dX12_fits_6 : decode cX12_fits 6 = .ok (.iload_n 1, 1) := by decide +kernel
theorem dX12_fits_7 : decode cX12_fits 7 = .ok (.invokevirtual 479, 3) := by decide +kernel
theorem dX12_fits_10 : decode cX12_fits 10 = .ok (.ifCond .ne 6, 3) := by decide +kernel
theorem dX12_fits_13 : decode cX12_fits 13 = .ok (.bipush (-2), 2) := by decide +kernel
theorem dX12_fits_15 : decode cX12_fits 15 = .ok (.ireturn, 1) := by decide +kernel
theorem dX12_fits_16 : decode cX12_fits 16 = .ok (.iload_n 2, 1) := by decide +kernel
theorem dX12_fits_17 : decode cX12_fits 17 = .ok (.bipush 10, 2) := by decide +kernel
theorem dX12_fits_19 : decode cX12_fits 19 = .ok (.if_icmp .lt 29, 3) := by decide +kernel
theorem dX12_fits_22 : decode cX12_fits 22 = .ok (.iload_n 2, 1) := by decide +kernel
theorem dX12_fits_23 : decode cX12_fits 23 = .ok (.bipush 10, 2) := by decide +kernel
theorem dX12_fits_25 : decode cX12_fits 25 = .ok (.isub, 1) := by decide +kernel
theorem dX12_fits_26 : decode cX12_fits 26 = .ok (.aload_n 0, 1) := by decide +kernel
theorem dX12_fits_27 : decode cX12_fits 27 = .ok (.getfield 467, 3) := by decide +kernel
theorem dX12_fits_30 : decode cX12_fits 30 = .ok (.if_icmp .ge 15, 3) := by decide +kernel
theorem dX12_fits_33 : decode cX12_fits 33 = .ok (.aload_n 0, 1) := by decide +kernel
theorem dX12_fits_34 : decode cX12_fits 34 = .ok (.getfield 85, 3) := by decide +kernel
theorem dX12_fits_37 : decode cX12_fits 37 = .ok (.iload_n 2, 1) := by decide +kernel
theorem dX12_fits_38 : decode cX12_fits 38 = .ok (.bipush 10, 2) := by decide +kernel
theorem dX12_fits_40 : decode cX12_fits 40 = .ok (.isub, 1) := by decide +kernel
theorem dX12_fits_41 : decode cX12_fits 41 = .ok (.iaload, 1) := by decide +kernel
theorem dX12_fits_42 : decode cX12_fits 42 = .ok (.goto 5, 3) := by decide +kernel
theorem dX12_fits_45 : decode cX12_fits 45 = .ok (.bipush (-2), 2) := by decide +kernel
theorem dX12_fits_47 : decode cX12_fits 47 = .ok (.ireturn, 1) := by decide +kernel
theorem dX12_fits_48 : decode cX12_fits 48 = .ok (.iload_n 2, 1) := by decide +kernel
theorem dX12_fits_49 : decode cX12_fits 49 = .ok (.tableswitch 56 0 3 #[31, 36, 36, 51], 31) := by decide +kernel
theorem dX12_fits_80 : decode cX12_fits 80 = .ok (.aload_n 0, 1) := by decide +kernel
theorem dX12_fits_81 : decode cX12_fits 81 = .ok (.getfield 467, 3) := by decide +kernel
theorem dX12_fits_84 : decode cX12_fits 84 = .ok (.ireturn, 1) := by decide +kernel
theorem dX12_fits_85 : decode cX12_fits 85 = .ok (.aload_n 0, 1) := by decide +kernel
theorem dX12_fits_86 : decode cX12_fits 86 = .ok (.iload_n 2, 1) := by decide +kernel
theorem dX12_fits_87 : decode cX12_fits 87 = .ok (.iconst 1, 1) := by decide +kernel
theorem dX12_fits_88 : decode cX12_fits 88 = .ok (.if_icmp .ne 7, 3) := by decide +kernel
theorem dX12_fits_91 : decode cX12_fits 91 = .ok (.iconst 1, 1) := by decide +kernel
theorem dX12_fits_92 : decode cX12_fits 92 = .ok (.goto 4, 3) := by decide +kernel
theorem dX12_fits_95 : decode cX12_fits 95 = .ok (.iconst 0, 1) := by decide +kernel
theorem dX12_fits_96 : decode cX12_fits 96 = .ok (.invokevirtual 482, 3) := by decide +kernel
theorem dX12_fits_99 : decode cX12_fits 99 = .ok (.ireturn, 1) := by decide +kernel
theorem dX12_fits_100 : decode cX12_fits 100 = .ok (.aload_n 0, 1) := by decide +kernel
theorem dX12_fits_101 : decode cX12_fits 101 = .ok (.invokevirtual 486, 3) := by decide +kernel
theorem dX12_fits_104 : decode cX12_fits 104 = .ok (.ireturn, 1) := by decide +kernel
theorem dX12_fits_105 : decode cX12_fits 105 = .ok (.bipush (-2), 2) := by decide +kernel
theorem dX12_fits_107 : decode cX12_fits 107 = .ok (.ireturn, 1) := by decide +kernel
theorem dX12_hasSwap_0 : decode cX12_hasSwap 0 = .ok (.aload_n 0, 1) := by decide +kernel
theorem dX12_hasSwap_1 : decode cX12_hasSwap 1 = .ok (.iload_n 1, 1) := by decide +kernel
theorem dX12_hasSwap_2 : decode cX12_hasSwap 2 = .ok (.putfield 489, 3) := by decide +kernel
theorem dX12_hasSwap_5 : decode cX12_hasSwap 5 = .ok (.aload_n 0, 1) := by decide +kernel
theorem dX12_hasSwap_6 : decode cX12_hasSwap 6 = .ok (.iconst 3, 1) := by decide +kernel
theorem dX12_hasSwap_7 : decode cX12_hasSwap 7 = .ok (.iload_n 1, 1) := by decide +kernel
theorem dX12_hasSwap_8 : decode cX12_hasSwap 8 = .ok (.invokevirtual 267, 3) := by decide +kernel
theorem dX12_hasSwap_11 : decode cX12_hasSwap 11 = .ok (.ifCond .ne 5, 3) := by decide +kernel
theorem dX12_hasSwap_14 : decode cX12_hasSwap 14 = .ok (.iconst 0, 1) := by decide +kernel
theorem dX12_hasSwap_15 : decode cX12_hasSwap 15 = .ok (.ireturn, 1) := by decide +kernel
theorem dX12_hasSwap_16 : decode cX12_hasSwap 16 = .ok (.aload_n 0, 1) := by decide +kernel
theorem dX12_hasSwap_17 : decode cX12_hasSwap 17 = .ok (.aload_n 0, 1) := by decide +kernel
theorem dX12_hasSwap_18 : decode cX12_hasSwap 18 = .ok (.getfield 35, 3) := by decide +kernel
theorem dX12_hasSwap_21 : decode cX12_hasSwap 21 = .ok (.bipush 37, 2) := by decide +kernel
theorem dX12_hasSwap_23 : decode cX12_hasSwap 23 = .ok (.aload_n 0, 1) := by decide +kernel
theorem dX12_hasSwap_24 : decode cX12_hasSwap 24 = .ok (.getfield 489, 3) := by decide +kernel
theorem dX12_hasSwap_27 : decode cX12_hasSwap 27 = .ok (.imul, 1) := by decide +kernel
theorem dX12_hasSwap_28 : decode cX12_hasSwap 28 = .ok (.iaload, 1) := by decide +kernel
theorem dX12_hasSwap_29 : decode cX12_hasSwap 29 = .ok (.putfield 492, 3) := by decide +kernel
theorem dX12_hasSwap_32 : decode cX12_hasSwap 32 = .ok (.iconst 0, 1) := by decide +kernel
theorem dX12_hasSwap_33 : decode cX12_hasSwap 33 = .ok (.istore_n 2, 1) := by decide +kernel
theorem dX12_hasSwap_34 : decode cX12_hasSwap 34 = .ok (.iload_n 2, 1) := by decide +kernel
theorem dX12_hasSwap_35 : decode cX12_hasSwap 35 = .ok (.bipush 6, 2) := by decide +kernel
theorem dX12_hasSwap_37 : decode cX12_hasSwap 37 = .ok (.if_icmp .ge 23, 3) := by decide +kernel
theorem dX12_hasSwap_40 : decode cX12_hasSwap 40 = .ok (.aload_n 0, 1) := by decide +kernel
theorem dX12_hasSwap_41 : decode cX12_hasSwap 41 = .ok (.getfield 91, 3) := by decide +kernel
theorem dX12_hasSwap_44 : decode cX12_hasSwap 44 = .ok (.iload_n 2, 1) := by decide +kernel
theorem dX12_hasSwap_45 : decode cX12_hasSwap 45 = .ok (.iconst (-1), 1) := by decide +kernel
theorem dX12_hasSwap_46 : decode cX12_hasSwap 46 = .ok (.iastore, 1) := by decide +kernel
theorem dX12_hasSwap_47 : decode cX12_hasSwap 47 = .ok (.aload_n 0, 1) := by decide +kernel
theorem dX12_hasSwap_48 : decode cX12_hasSwap 48 = .ok (.getfield 88, 3) := by decide +kernel
theorem dX12_hasSwap_51 : decode cX12_hasSwap 51 = .ok (.iload_n 2, 1) := by decide +kernel
theorem dX12_hasSwap_52 : decode cX12_hasSwap 52 = .ok (.iload_n 2, 1) := by decide +kernel
theorem dX12_hasSwap_53 : decode cX12_hasSwap 53 = .ok (.iastore, 1) := by decide +kernel
theorem dX12_hasSwap_54 : decode cX12_hasSwap 54 = .ok (.iinc 2 1, 3) := by decide +kernel
theorem dX12_hasSwap_57 : decode cX12_hasSwap 57 = .ok (.goto (-23), 3) := by decide +kernel
theorem dX12_hasSwap_60 : decode cX12_hasSwap 60 = .ok (.aload_n 0, 1) := by decide +kernel
theorem dX12_hasSwap_61 : decode cX12_hasSwap 61 = .ok (.iconst 0, 1) := by decide +kernel
theorem dX12_hasSwap_62 : decode cX12_hasSwap 62 = .ok (.putfield 495, 3) := by decide +kernel
theorem dX12_hasSwap_65 : decode cX12_hasSwap 65 = .ok (.aload_n 0, 1) := by decide +kernel
theorem dX12_hasSwap_66 : decode cX12_hasSwap 66 = .ok (.getfield 492, 3) := by decide +kernel
theorem dX12_hasSwap_69 : decode cX12_hasSwap 69 = .ok (.istore_n 2, 1) := by decide +kernel
theorem dX12_hasSwap_70 : decode cX12_hasSwap 70 = .ok (.iload_n 2, 1) := by decide +kernel
theorem dX12_hasSwap_71 : decode cX12_hasSwap 71 = .ok (.ifCond .le 23, 3) := by decide +kernel
theorem dX12_hasSwap_74 : decode cX12_hasSwap 74 = .ok (.iload_n 2, 1) := by decide +kernel
theorem dX12_hasSwap_75 : decode cX12_hasSwap 75 = .ok (.aload_n 0, 1) := by decide +kernel
theorem dX12_hasSwap_76 : decode cX12_hasSwap 76 = .ok (.invokevirtual 498, 3) := by decide +kernel
theorem dX12_hasSwap_79 : decode cX12_hasSwap 79 = .ok (.isub, 1) := by decide +kernel
theorem dX12_hasSwap_80 : decode cX12_hasSwap 80 = .ok (.istore_n 2, 1) := by decide +kernel
theorem dX12_hasSwap_81 : decode cX12_hasSwap 81 = .ok (.aload_n 0, 1) := by decide +kernel
theorem dX12_hasSwap_82 : decode cX12_hasSwap 82 = .ok (.dup, 1) := by decide +kernel
theorem dX12_hasSwap_83 : decode cX12_hasSwap 83 = .ok (.getfield 495, 3) := by decide +kernel
theorem dX12_hasSwap_86 : decode cX12_hasSwap 86 = .ok (.iconst 1, 1) := by decide +kernel
theorem dX12_hasSwap_87 : decode cX12_hasSwap 87 = .ok (.iadd, 1) := by decide +kernel
theorem dX12_hasSwap_88 : decode cX12_hasSwap 88 = .ok (.putfield 495, 3) := by decide +kernel
theorem dX12_hasSwap_91 : decode cX12_hasSwap 91 = .ok (.goto (-21), 3) := by decide +kernel
theorem dX12_hasSwap_94 : decode cX12_hasSwap 94 = .ok (.iconst 1, 1) := by decide +kernel
theorem dX12_hasSwap_95 : decode cX12_hasSwap 95 = .ok (.ireturn, 1) := by decide +kernel
theorem dX12_anyRun_0 : decode cX12_anyRun 0 = .ok (.iconst 0, 1) := by decide +kernel
theorem dX12_anyRun_1 : decode cX12_anyRun 1 = .ok (.istore 4, 2) := by decide +kernel
theorem dX12_anyRun_3 : decode cX12_anyRun 3 = .ok (.iload 4, 2) := by decide +kernel
theorem dX12_anyRun_5 : decode cX12_anyRun 5 = .ok (.aload_n 0, 1) := by decide +kernel
theorem dX12_anyRun_6 : decode cX12_anyRun 6 = .ok (.getfield 283, 3) := by decide +kernel
theorem dX12_anyRun_9 : decode cX12_anyRun 9 = .ok (.if_icmp .ge 39, 3) := by decide +kernel
theorem dX12_anyRun_12 : decode cX12_anyRun 12 = .ok (.aload_n 0, 1) := by decide +kernel
theorem dX12_anyRun_13 : decode cX12_anyRun 13 = .ok (.iload_n 1, 1) := by decide +kernel
theorem dX12_anyRun_14 : decode cX12_anyRun 14 = .ok (.iload 4, 2) := by decide +kernel
theorem dX12_anyRun_16 : decode cX12_anyRun 16 = .ok (.invokevirtual 325, 3) := by decide +kernel
theorem dX12_anyRun_19 : decode cX12_anyRun 19 = .ok (.ifCond .eq 23, 3) := by decide +kernel
theorem dX12_anyRun_22 : decode cX12_anyRun 22 = .ok (.aload_n 0, 1) := by decide +kernel
theorem dX12_anyRun_23 : decode cX12_anyRun 23 = .ok (.iload_n 1, 1) := by decide +kernel
theorem dX12_anyRun_24 : decode cX12_anyRun 24 = .ok (.iload 4, 2) := by decide +kernel
theorem dX12_anyRun_26 : decode cX12_anyRun 26 = .ok (.invokevirtual 415, 3) := by decide +kernel
theorem dX12_anyRun_29 : decode cX12_anyRun 29 = .ok (.lload_n 2, 1) := by decide +kernel
theorem dX12_anyRun_30 : decode cX12_anyRun 30 = .ok (.ldc2_w 419, 3) := by decide +kernel
theorem dX12_anyRun_33 : decode cX12_anyRun 33 = .ok (.lxor, 1) := by decide +kernel
theorem dX12_anyRun_34 : decode cX12_anyRun 34 = .ok (.land, 1) := by decide +kernel
theorem dX12_anyRun_35 : decode cX12_anyRun 35 = .ok (.lconst 0, 1) := by decide +kernel
theorem dX12_anyRun_36 : decode cX12_anyRun 36 = .ok (.lcmp, 1) := by decide +kernel
theorem dX12_anyRun_37 : decode cX12_anyRun 37 = .ok (.ifCond .ne 5, 3) := by decide +kernel
theorem dX12_anyRun_40 : decode cX12_anyRun 40 = .ok (.iconst 1, 1) := by decide +kernel
theorem dX12_anyRun_41 : decode cX12_anyRun 41 = .ok (.ireturn, 1) := by decide +kernel
theorem dX12_anyRun_42 : decode cX12_anyRun 42 = .ok (.iinc 4 1, 3) := by decide +kernel
theorem dX12_anyRun_45 : decode cX12_anyRun 45 = .ok (.goto (-42), 3) := by decide +kernel
theorem dX12_anyRun_48 : decode cX12_anyRun 48 = .ok (.iconst 0, 1) := by decide +kernel
theorem dX12_anyRun_49 : decode cX12_anyRun 49 = .ok (.ireturn, 1) := by decide +kernel
theorem dX12_early_0 : decode cX12_early 0 = .ok (.aload_n 0, 1) := by decide +kernel
theorem dX12_early_1 : decode cX12_early 1 = .ok (.iconst 0, 1) := by decide +kernel
theorem dX12_early_2 : decode cX12_early 2 = .ok (.putfield 100, 3) := by decide +kernel
theorem dX12_early_5 : decode cX12_early 5 = .ok (.aload_n 0, 1) := by decide +kernel
theorem dX12_early_6 : decode cX12_early 6 = .ok (.iload_n 1, 1) := by decide +kernel
theorem dX12_early_7 : decode cX12_early 7 = .ok (.invokevirtual 298, 3) := by decide +kernel
theorem dX12_early_10 : decode cX12_early 10 = .ok (.ifCond .eq 19, 3) := by decide +kernel
theorem dX12_early_13 : decode cX12_early 13 = .ok (.aload_n 0, 1) := by decide +kernel
theorem dX12_early_14 : decode cX12_early 14 = .ok (.iload_n 2, 1) := by decide +kernel
theorem dX12_early_15 : decode cX12_early 15 = .ok (.invokevirtual 316, 3) := by decide +kernel
theorem dX12_early_18 : decode cX12_early 18 = .ok (.ifCond .eq 11, 3) := by decide +kernel
theorem dX12_early_21 : decode cX12_early 21 = .ok (.aload_n 0, 1) := by decide +kernel
theorem dX12_early_22 : decode cX12_early 22 = .ok (.iload_n 3, 1) := by decide +kernel
theorem dX12_early_23 : decode cX12_early 23 = .ok (.invokevirtual 391, 3) := by decide +kernel
theorem dX12_early_26 : decode cX12_early 26 = .ok (.ifCond .ne 5, 3) := by decide +kernel
theorem dX12_early_29 : decode cX12_early 29 = .ok (.iconst (-1), 1) := by decide +kernel
theorem dX12_early_30 : decode cX12_early 30 = .ok (.ireturn, 1) := by decide +kernel
theorem dX12_early_31 : decode cX12_early 31 = .ok (.aload_n 0, 1) := by decide +kernel
theorem dX12_early_32 : decode cX12_early 32 = .ok (.iload_n 2, 1) := by decide +kernel
theorem dX12_early_33 : decode cX12_early 33 = .ok (.invokevirtual 430, 3) := by decide +kernel
theorem dX12_early_36 : decode cX12_early 36 = .ok (.lstore 4, 2) := by decide +kernel
theorem dX12_early_38 : decode cX12_early 38 = .ok (.aload_n 0, 1) := by decide +kernel
theorem dX12_early_39 : decode cX12_early 39 = .ok (.getfield 283, 3) := by decide +kernel
theorem dX12_early_42 : decode cX12_early 42 = .ok (.istore 6, 2) := by decide +kernel
theorem dX12_early_44 : decode cX12_early 44 = .ok (.iload 6, 2) := by decide +kernel
theorem dX12_early_46 : decode cX12_early 46 = .ok (.ifCond .lt 205, 3) := by decide +kernel
theorem dX12_early_49 : decode cX12_early 49 = .ok (.iconst 0, 1) := by decide +kernel
theorem dX12_early_50 : decode cX12_early 50 = .ok (.istore 7, 2) := by decide +kernel
theorem dX12_early_52 : decode cX12_early 52 = .ok (.iload 7, 2) := by decide +kernel
theorem dX12_early_54 : decode cX12_early 54 = .ok (.iconst 1, 1) := by decide +kernel
theorem dX12_early_55 : decode cX12_early 55 = .ok (.aload_n 0, 1) := by decide +kernel
theorem dX12_early_56 : decode cX12_early 56 = .ok (.getfield 289, 3) := by decide +kernel
theorem dX12_early_59 : decode cX12_early 59 = .ok (.ishl, 1) := by decide +kernel
theorem dX12_early_60 : decode cX12_early 60 = .ok (.if_icmp .ge 185, 3) := by decide +kernel
theorem dX12_early_63 : decode cX12_early 63 = .ok (.iload 7, 2) := by decide +kernel
theorem dX12_early_65 : decode cX12_early 65 = .ok (.ifCond .ne 7, 3) := by decide +kernel
theorem dX12_early_68 : decode cX12_early 68 = .ok (.iconst 0, 1) := by decide +kernel
theorem dX12_early_69 : decode cX12_early 69 = .ok (.goto 33, 3) := by decide +kernel
theorem dX12_early_72 : decode cX12_early 72 = .ok (.iload 6, 2) := by decide +kernel
theorem dX12_early_74 : decode cX12_early 74 = .ok (.aload_n 0, 1) := by decide +kernel
theorem dX12_early_75 : decode cX12_early 75 = .ok (.getfield 283, 3) := by decide +kernel
theorem dX12_early_78 : decode cX12_early 78 = .ok (.if_icmp .ne 9, 3) := by decide +kernel
theorem dX12_early_81 : decode cX12_early 81 = .ok (.ldc_w 371, 3) := by decide +kernel
theorem dX12_early_84 : decode cX12_early 84 = .ok (.goto 18, 3) := by decide +kernel
theorem dX12_early_87 : decode cX12_early 87 = .ok (.aload_n 0, 1) := by decide +kernel
theorem dX12_early_88 : decode cX12_early 88 = .ok (.getfield 69, 3) := by decide +kernel
theorem dX12_early_91 : decode cX12_early 91 = .ok (.bipush 64, 2) := by decide +kernel
theorem dX12_early_93 : decode cX12_early 93 = .ok (.iload 6, 2) := by decide +kernel
theorem dX12_early_95 : decode cX12_early 95 = .ok (.iconst 1, 1) := by decide +kernel
theorem dX12_early_96 : decode cX12_early 96 = .ok (.iadd, 1) := by decide +kernel
theorem dX12_early_97 : decode cX12_early 97 = .ok (.imul, 1) := by decide +kernel
theorem dX12_early_98 : decode cX12_early 98 = .ok (.iload 7, 2) := by decide +kernel
theorem dX12_early_100 : decode cX12_early 100 = .ok (.iadd, 1) := by decide +kernel
theorem dX12_early_101 : decode cX12_early 101 = .ok (.iaload, 1) := by decide +kernel
theorem dX12_early_102 : decode cX12_early 102 = .ok (.istore 8, 2) := by decide +kernel
theorem dX12_early_104 : decode cX12_early 104 = .ok (.iconst 0, 1) := by decide +kernel
theorem dX12_early_105 : decode cX12_early 105 = .ok (.istore 9, 2) := by decide +kernel
theorem dX12_early_107 : decode cX12_early 107 = .ok (.iload 9, 2) := by decide +kernel
theorem dX12_early_109 : decode cX12_early 109 = .ok (.aload_n 0, 1) := by decide +kernel
theorem dX12_early_110 : decode cX12_early 110 = .ok (.getfield 289, 3) := by decide +kernel
theorem dX12_early_113 : decode cX12_early 113 = .ok (.if_icmp .ge 111, 3) := by decide +kernel
theorem dX12_early_116 : decode cX12_early 116 = .ok (.iload 6, 2) := by decide +kernel
theorem dX12_early_118 : decode cX12_early 118 = .ok (.aload_n 0, 1) := by decide +kernel
theorem dX12_early_119 : decode cX12_early 119 = .ok (.getfield 283, 3) := by decide +kernel
theorem dX12_early_122 : decode cX12_early 122 = .ok (.if_icmp .ge 102, 3) := by decide +kernel
theorem dX12_early_125 : decode cX12_early 125 = .ok (.iload 7, 2) := by decide +kernel
theorem dX12_early_127 : decode cX12_early 127 = .ok (.iload 9, 2) := by decide +kernel
theorem dX12_early_129 : decode cX12_early 129 = .ok (.invokestatic 104, 3) := by decide +kernel
theorem dX12_early_132 : decode cX12_early 132 = .ok (.ifCond .eq 86, 3) := by decide +kernel
theorem dX12_early_135 : decode cX12_early 135 = .ok (.aload_n 0, 1) := by decide +kernel
theorem dX12_early_136 : decode cX12_early 136 = .ok (.iload 9, 2) := by decide +kernel
theorem dX12_early_138 : decode cX12_early 138 = .ok (.iload 6, 2) := by decide +kernel
theorem dX12_early_140 : decode cX12_early 140 = .ok (.invokevirtual 325, 3) := by decide +kernel
theorem dX12_early_143 : decode cX12_early 143 = .ok (.ifCond .eq 75, 3) := by decide +kernel
theorem dX12_early_146 : decode cX12_early 146 = .ok (.aload_n 0, 1) := by decide +kernel
theorem dX12_early_147 : decode cX12_early 147 = .ok (.iload 9, 2) := by decide +kernel
theorem dX12_early_149 : decode cX12_early 149 = .ok (.iload 6, 2) := by decide +kernel
theorem dX12_early_151 : decode cX12_early 151 = .ok (.invokevirtual 415, 3) := by decide +kernel
theorem dX12_early_154 : decode cX12_early 154 = .ok (.lload 4, 2) := by decide +kernel
theorem dX12_early_156 : decode cX12_early 156 = .ok (.ldc2_w 419, 3) := by decide +kernel
theorem dX12_early_159 : decode cX12_early 159 = .ok (.lxor, 1) := by decide +kernel
theorem dX12_early_160 : decode cX12_early 160 = .ok (.land, 1) := by decide +kernel
theorem dX12_early_161 : decode cX12_early 161 = .ok (.lconst 0, 1) := by decide +kernel
theorem dX12_early_162 : decode cX12_early 162 = .ok (.lcmp, 1) := by decide +kernel
theorem dX12_early_163 : decode cX12_early 163 = .ok (.ifCond .ne 55, 3) := by decide +kernel
theorem dX12_early_166 : decode cX12_early 166 = .ok (.iload 6, 2) := by decide +kernel
theorem dX12_early_168 : decode cX12_early 168 = .ok (.aload_n 0, 1) := by decide +kernel
theorem dX12_early_169 : decode cX12_early 169 = .ok (.iload 9, 2) := by decide +kernel
theorem dX12_early_171 : decode cX12_early 171 = .ok (.invokevirtual 295, 3) := by decide +kernel
theorem dX12_early_174 : decode cX12_early 174 = .ok (.iadd, 1) := by decide +kernel
theorem dX12_early_175 : decode cX12_early 175 = .ok (.iconst 1, 1) := by decide +kernel
theorem dX12_early_176 : decode cX12_early 176 = .ok (.isub, 1) := by decide +kernel
theorem dX12_early_177 : decode cX12_early 177 = .ok (.aload_n 0, 1) := by decide +kernel
theorem dX12_early_178 : decode cX12_early 178 = .ok (.getfield 69, 3) := by decide +kernel
theorem dX12_early_181 : decode cX12_early 181 = .ok (.bipush 64, 2) := by decide +kernel
theorem dX12_early_183 : decode cX12_early 183 = .ok (.iload 6, 2) := by decide +kernel
theorem dX12_early_185 : decode cX12_early 185 = .ok (.aload_n 0, 1) := by decide +kernel
theorem dX12_early_186 : decode cX12_early 186 = .ok (.iload 9, 2) := by decide +kernel
theorem dX12_early_188 : decode cX12_early 188 = .ok (.invokevirtual 295, 3) := by decide +kernel
theorem dX12_early_191 : decode cX12_early 191 = .ok (.iadd, 1) := by decide +kernel
theorem dX12_early_192 : decode cX12_early 192 = .ok (.imul, 1) := by decide +kernel
theorem dX12_early_193 : decode cX12_early 193 = .ok (.iload 7, 2) := by decide +kernel
theorem dX12_early_195 : decode cX12_early 195 = .ok (.iconst 1, 1) := by decide +kernel
theorem dX12_early_196 : decode cX12_early 196 = .ok (.iload 9, 2) := by decide +kernel
theorem dX12_early_198 : decode cX12_early 198 = .ok (.ishl, 1) := by decide +kernel
theorem dX12_early_199 : decode cX12_early 199 = .ok (.iconst (-1), 1) := by decide +kernel
theorem dX12_early_200 : decode cX12_early 200 = .ok (.ixor, 1) := by decide +kernel
theorem dX12_early_201 : decode cX12_early 201 = .ok (.iand, 1) := by decide +kernel
theorem dX12_early_202 : decode cX12_early 202 = .ok (.iadd, 1) := by decide +kernel
theorem dX12_early_203 : decode cX12_early 203 = .ok (.iaload, 1) := by decide +kernel
theorem dX12_early_204 : decode cX12_early 204 = .ok (.invokestatic 173, 3) := by decide +kernel
theorem dX12_early_207 : decode cX12_early 207 = .ok (.istore 10, 2) := by decide +kernel
theorem dX12_early_209 : decode cX12_early 209 = .ok (.iload 8, 2) := by decide +kernel
theorem dX12_early_211 : decode cX12_early 211 = .ok (.iload 10, 2) := by decide +kernel
theorem dX12_early_213 : decode cX12_early 213 = .ok (.invokestatic 375, 3) := by decide +kernel
theorem dX12_early_216 : decode cX12_early 216 = .ok (.istore 8, 2) := by decide +kernel
theorem dX12_early_218 : decode cX12_early 218 = .ok (.iinc 9 1, 3) := by decide +kernel
theorem dX12_early_221 : decode cX12_early 221 = .ok (.goto (-114), 3) := by decide +kernel
theorem dX12_early_224 : decode cX12_early 224 = .ok (.aload_n 0, 1) := by decide +kernel
theorem dX12_early_225 : decode cX12_early 225 = .ok (.getfield 69, 3) := by decide +kernel
theorem dX12_early_228 : decode cX12_early 228 = .ok (.bipush 64, 2) := by decide +kernel
theorem dX12_early_230 : decode cX12_early 230 = .ok (.iload 6, 2) := by decide +kernel
theorem dX12_early_232 : decode cX12_early 232 = .ok (.imul, 1) := by decide +kernel
theorem dX12_early_233 : decode cX12_early 233 = .ok (.iload 7, 2) := by decide +kernel
theorem dX12_early_235 : decode cX12_early 235 = .ok (.iadd, 1) := by decide +kernel
theorem dX12_early_236 : decode cX12_early 236 = .ok (.iload 8, 2) := by decide +kernel
theorem dX12_early_238 : decode cX12_early 238 = .ok (.iastore, 1) := by decide +kernel
theorem dX12_early_239 : decode cX12_early 239 = .ok (.iinc 7 1, 3) := by decide +kernel
theorem dX12_early_242 : decode cX12_early 242 = .ok (.goto (-190), 3) := by decide +kernel
theorem dX12_early_245 : decode cX12_early 245 = .ok (.iinc 6 (-1), 3) := by decide +kernel
theorem dX12_early_248 : decode cX12_early 248 = .ok (.goto (-204), 3) := by decide +kernel
theorem dX12_early_251 : decode cX12_early 251 = .ok (.aload_n 0, 1) := by decide +kernel
theorem dX12_early_252 : decode cX12_early 252 = .ok (.getfield 69, 3) := by decide +kernel
theorem dX12_early_255 : decode cX12_early 255 = .ok (.iload_n 3, 1) := by decide +kernel
theorem dX12_early_256 : decode cX12_early 256 = .ok (.iaload, 1) := by decide +kernel
theorem dX12_early_257 : decode cX12_early 257 = .ok (.ldc_w 371, 3) := by decide +kernel
theorem dX12_early_260 : decode cX12_early 260 = .ok (.if_icmp .lt 7, 3) := by decide +kernel
theorem dX12_early_263 : decode cX12_early 263 = .ok (.iconst (-1), 1) := by decide +kernel
theorem dX12_early_264 : decode cX12_early 264 = .ok (.goto 9, 3) := by decide +kernel
theorem dX12_early_267 : decode cX12_early 267 = .ok (.aload_n 0, 1) := by decide +kernel
theorem dX12_early_268 : decode cX12_early 268 = .ok (.getfield 69, 3) := by decide +kernel
theorem dX12_early_271 : decode cX12_early 271 = .ok (.iload_n 3, 1) := by decide +kernel
theorem dX12_early_272 : decode cX12_early 272 = .ok (.iaload, 1) := by decide +kernel
theorem dX12_early_273 : decode cX12_early 273 = .ok (.ireturn, 1) := by decide +kernel
theorem dX12_span_0 : decode cX12_span 0 = .ok (.aload_n 0, 1) := by decide +kernel
theorem dX12_span_1 : decode cX12_span 1 = .ok (.iconst 0, 1) := by decide +kernel
theorem dX12_span_2 : decode cX12_span 2 = .ok (.putfield 100, 3) := by decide +kernel
theorem dX12_span_5 : decode cX12_span 5 = .ok (.aload_n 0, 1) := by decide +kernel
theorem dX12_span_6 : decode cX12_span 6 = .ok (.iload_n 1, 1) := by decide +kernel
theorem dX12_span_7 : decode cX12_span 7 = .ok (.invokevirtual 479, 3) := by decide +kernel
theorem dX12_span_10 : decode cX12_span 10 = .ok (.ifCond .eq 19, 3) := by decide +kernel
theorem dX12_span_13 : decode cX12_span 13 = .ok (.aload_n 0, 1) := by decide +kernel
theorem dX12_span_14 : decode cX12_span 14 = .ok (.getfield 467, 3) := by decide +kernel
theorem dX12_span_17 : decode cX12_span 17 = .ok (.ifCond .eq 12, 3) := by decide +kernel
theorem dX12_span_20 : decode cX12_span 20 = .ok (.iload_n 2, 1) := by decide +kernel
theorem dX12_span_21 : decode cX12_span 21 = .ok (.iconst 0, 1) := by decide +kernel
theorem dX12_span_22 : decode cX12_span 22 = .ok (.iconst 3, 1) := by decide +kernel
theorem dX12_span_23 : decode cX12_span 23 = .ok (.invokestatic 112, 3) := by decide +kernel
theorem dX12_span_26 : decode cX12_span 26 = .ok (.ifCond .ne 5, 3) := by decide +kernel
theorem dX12_span_29 : decode cX12_span 29 = .ok (.iconst (-1), 1) := by decide +kernel
theorem dX12_span_30 : decode cX12_span 30 = .ok (.ireturn, 1) := by decide +kernel
theorem dX12_span_31 : decode cX12_span 31 = .ok (.ldc_w 371, 3) := by decide +kernel
theorem dX12_span_34 : decode cX12_span 34 = .ok (.istore_n 3, 1) := by decide +kernel
theorem dX12_span_35 : decode cX12_span 35 = .ok (.iconst 0, 1) := by decide +kernel
theorem dX12_span_36 : decode cX12_span 36 = .ok (.istore 4, 2) := by decide +kernel
theorem dX12_span_38 : decode cX12_span 38 = .ok (.iconst 0, 1) := by decide +kernel
theorem dX12_span_39 : decode cX12_span 39 = .ok (.istore 5, 2) := by decide +kernel
theorem dX12_span_41 : decode cX12_span 41 = .ok (.iload 5, 2) := by decide +kernel
theorem dX12_span_43 : decode cX12_span 43 = .ok (.aload_n 0, 1) := by decide +kernel
theorem dX12_span_44 : decode cX12_span 44 = .ok (.getfield 467, 3) := by decide +kernel
theorem dX12_span_47 : decode cX12_span 47 = .ok (.if_icmp .ge 50, 3) := by decide +kernel
theorem dX12_span_50 : decode cX12_span 50 = .ok (.aload_n 0, 1) := by decide +kernel
theorem dX12_span_51 : decode cX12_span 51 = .ok (.getfield 85, 3) := by decide +kernel
theorem dX12_span_54 : decode cX12_span 54 = .ok (.iload 5, 2) := by decide +kernel
theorem dX12_span_56 : decode cX12_span 56 = .ok (.iaload, 1) := by decide +kernel
theorem dX12_span_57 : decode cX12_span 57 = .ok (.bipush 40, 2) := by decide +kernel
theorem dX12_span_59 : decode cX12_span 59 = .ok (.irem, 1) := by decide +kernel
theorem dX12_span_60 : decode cX12_span 60 = .ok (.aload_n 0, 1) := by decide +kernel
theorem dX12_span_61 : decode cX12_span 61 = .ok (.getfield 85, 3) := by decide +kernel
theorem dX12_span_64 : decode cX12_span 64 = .ok (.iload 5, 2) := by decide +kernel
theorem dX12_span_66 : decode cX12_span 66 = .ok (.iaload, 1) := by decide +kernel
theorem dX12_span_67 : decode cX12_span 67 = .ok (.bipush 40, 2) := by decide +kernel
theorem dX12_span_69 : decode cX12_span 69 = .ok (.idiv, 1) := by decide +kernel
theorem dX12_span_70 : decode cX12_span 70 = .ok (.isub, 1) := by decide +kernel
theorem dX12_span_71 : decode cX12_span 71 = .ok (.iconst 1, 1) := by decide +kernel
theorem dX12_span_72 : decode cX12_span 72 = .ok (.iadd, 1) := by decide +kernel
theorem dX12_span_73 : decode cX12_span 73 = .ok (.istore 6, 2) := by decide +kernel
theorem dX12_span_75 : decode cX12_span 75 = .ok (.iload_n 3, 1) := by decide +kernel
theorem dX12_span_76 : decode cX12_span 76 = .ok (.iload 6, 2) := by decide +kernel
theorem dX12_span_78 : decode cX12_span 78 = .ok (.invokestatic 375, 3) := by decide +kernel
theorem dX12_span_81 : decode cX12_span 81 = .ok (.istore_n 3, 1) := by decide +kernel
theorem dX12_span_82 : decode cX12_span 82 = .ok (.iload 4, 2) := by decide +kernel
theorem dX12_span_84 : decode cX12_span 84 = .ok (.iload 6, 2) := by decide +kernel
theorem dX12_span_86 : decode cX12_span 86 = .ok (.invokestatic 173, 3) := by decide +kernel
theorem dX12_span_89 : decode cX12_span 89 = .ok (.istore 4, 2) := by decide +kernel
theorem dX12_span_91 : decode cX12_span 91 = .ok (.iinc 5 1, 3) := by decide +kernel
theorem dX12_span_94 : decode cX12_span 94 = .ok (.goto (-53), 3) := by decide +kernel
theorem dX12_span_97 : decode cX12_span 97 = .ok (.iconst 0, 1) := by decide +kernel
theorem dX12_span_98 : decode cX12_span 98 = .ok (.istore 5, 2) := by decide +kernel
theorem dX12_span_100 : decode cX12_span 100 = .ok (.iconst 0, 1) := by decide +kernel
theorem dX12_span_101 : decode cX12_span 101 = .ok (.istore 6, 2) := by decide +kernel
theorem dX12_span_103 : decode cX12_span 103 = .ok (.iconst 0, 1) := by decide +kernel
theorem dX12_span_104 : decode cX12_span 104 = .ok (.istore 7, 2) := by decide +kernel
theorem dX12_span_106 : decode cX12_span 106 = .ok (.iload 7, 2) := by decide +kernel
theorem dX12_span_108 : decode cX12_span 108 = .ok (.bipush 40, 2) := by decide +kernel
theorem dX12_span_110 : decode cX12_span 110 = .ok (.if_icmp .ge 51, 3) := by decide +kernel
theorem dX12_span_113 : decode cX12_span 113 = .ok (.aload_n 0, 1) := by decide +kernel
theorem dX12_span_114 : decode cX12_span 114 = .ok (.iload 7, 2) := by decide +kernel
theorem dX12_span_116 : decode cX12_span 116 = .ok (.invokevirtual 476, 3) := by decide +kernel
theorem dX12_span_119 : decode cX12_span 119 = .ok (.istore 8, 2) := by decide +kernel
theorem dX12_span_121 : decode cX12_span 121 = .ok (.iload 5, 2) := by decide +kernel
theorem dX12_span_123 : decode cX12_span 123 = .ok (.iload 8, 2) := by decide +kernel
theorem dX12_span_125 : decode cX12_span 125 = .ok (.aload_n 0, 1) := by decide +kernel
theorem dX12_span_126 : decode cX12_span 126 = .ok (.getfield 467, 3) := by decide +kernel
theorem dX12_span_129 : decode cX12_span 129 = .ok (.if_icmp .ne 7, 3) := by decide +kernel
theorem dX12_span_132 : decode cX12_span 132 = .ok (.iconst 1, 1) := by decide +kernel
theorem dX12_span_133 : decode cX12_span 133 = .ok (.goto 4, 3) := by decide +kernel
theorem dX12_span_136 : decode cX12_span 136 = .ok (.iconst 0, 1) := by decide +kernel
theorem dX12_span_137 : decode cX12_span 137 = .ok (.iadd, 1) := by decide +kernel
theorem dX12_span_138 : decode cX12_span 138 = .ok (.istore 5, 2) := by decide +kernel
theorem dX12_span_140 : decode cX12_span 140 = .ok (.iload 6, 2) := by decide +kernel
theorem dX12_span_142 : decode cX12_span 142 = .ok (.iload 8, 2) := by decide +kernel
theorem dX12_span_144 : decode cX12_span 144 = .ok (.ifCond .ne 7, 3) := by decide +kernel
theorem dX12_span_147 : decode cX12_span 147 = .ok (.iconst 1, 1) := by decide +kernel
theorem dX12_span_148 : decode cX12_span 148 = .ok (.goto 4, 3) := by decide +kernel
theorem dX12_span_151 : decode cX12_span 151 = .ok (.iconst 0, 1) := by decide +kernel
theorem dX12_span_152 : decode cX12_span 152 = .ok (.iadd, 1) := by decide +kernel
theorem dX12_span_153 : decode cX12_span 153 = .ok (.istore 6, 2) := by decide +kernel
theorem dX12_span_155 : decode cX12_span 155 = .ok (.iinc 7 1, 3) := by decide +kernel
theorem dX12_span_158 : decode cX12_span 158 = .ok (.goto (-52), 3) := by decide +kernel
theorem dX12_span_161 : decode cX12_span 161 = .ok (.iload_n 2, 1) := by decide +kernel
theorem dX12_span_162 : decode cX12_span 162 = .ok (.ifCond .ne 7, 3) := by decide +kernel
theorem dX12_span_165 : decode cX12_span 165 = .ok (.iload_n 3, 1) := by decide +kernel
theorem dX12_span_166 : decode cX12_span 166 = .ok (.goto 25, 3) := by decide +kernel
theorem dX12_span_169 : decode cX12_span 169 = .ok (.iload_n 2, 1) := by decide +kernel
theorem dX12_span_170 : decode cX12_span 170 = .ok (.iconst 1, 1) := by decide +kernel
theorem dX12_span_171 : decode cX12_span 171 = .ok (.if_icmp .ne 8, 3) := by decide +kernel
theorem dX12_span_174 : decode cX12_span 174 = .ok (.iload 4, 2) := by decide +kernel
theorem dX12_span_176 : decode cX12_span 176 = .ok (.goto 15, 3) := by decide +kernel
theorem dX12_span_179 : decode cX12_span 179 = .ok (.iload_n 2, 1) := by decide +kernel
theorem dX12_span_180 : decode cX12_span 180 = .ok (.iconst 2, 1) := by decide +kernel
theorem dX12_span_181 : decode cX12_span 181 = .ok (.if_icmp .ne 8, 3) := by decide +kernel
theorem dX12_span_184 : decode cX12_span 184 = .ok (.iload 5, 2) := by decide +kernel
theorem dX12_span_186 : decode cX12_span 186 = .ok (.goto 5, 3) := by decide +kernel
theorem dX12_span_189 : decode cX12_span 189 = .ok (.iload 6, 2) := by decide +kernel
theorem dX12_span_191 : decode cX12_span 191 = .ok (.ireturn, 1) := by decide +kernel
theorem dX12_taskLine_0 : decode cX12_taskLine 0 = .ok (.aload_n 0, 1) := by decide +kernel
theorem dX12_taskLine_1 : decode cX12_taskLine 1 = .ok (.iconst 0, 1) := by decide +kernel
theorem dX12_taskLine_2 : decode cX12_taskLine 2 = .ok (.iconst 1, 1) := by decide +kernel
theorem dX12_taskLine_3 : decode cX12_taskLine 3 = .ok (.bipush 9, 2) := by decide +kernel
theorem dX12_taskLine_5 : decode cX12_taskLine 5 = .ok (.invokevirtual 167, 3) := by decide +kernel
theorem dX12_taskLine_8 : decode cX12_taskLine 8 = .ok (.ifCond .eq 37, 3) := by decide +kernel
theorem dX12_taskLine_11 : decode cX12_taskLine 11 = .ok (.aload_n 0, 1) := by decide +kernel
theorem dX12_taskLine_12 : decode cX12_taskLine 12 = .ok (.iconst 1, 1) := by decide +kernel
theorem dX12_taskLine_13 : decode cX12_taskLine 13 = .ok (.iconst 0, 1) := by decide +kernel
theorem dX12_taskLine_14 : decode cX12_taskLine 14 = .ok (.invokevirtual 180, 3) := by decide +kernel
theorem dX12_taskLine_17 : decode cX12_taskLine 17 = .ok (.ifCond .eq 28, 3) := by decide +kernel
theorem dX12_taskLine_20 : decode cX12_taskLine 20 = .ok (.aload_n 0, 1) := by decide +kernel
theorem dX12_taskLine_21 : decode cX12_taskLine 21 = .ok (.iconst 2, 1) := by decide +kernel
theorem dX12_taskLine_22 : decode cX12_taskLine 22 = .ok (.aload_n 0, 1) := by decide +kernel
theorem dX12_taskLine_23 : decode cX12_taskLine 23 = .ok (.getfield 41, 3) := by decide +kernel
theorem dX12_taskLine_26 : decode cX12_taskLine 26 = .ok (.iconst 1, 1) := by decide +kernel
theorem dX12_taskLine_27 : decode cX12_taskLine 27 = .ok (.iaload, 1) := by decide +kernel
theorem dX12_taskLine_28 : decode cX12_taskLine 28 = .ok (.invokevirtual 180, 3) := by decide +kernel
theorem dX12_taskLine_31 : decode cX12_taskLine 31 = .ok (.ifCond .eq 14, 3) := by decide +kernel
theorem dX12_taskLine_34 : decode cX12_taskLine 34 = .ok (.aload_n 0, 1) := by decide +kernel
theorem dX12_taskLine_35 : decode cX12_taskLine 35 = .ok (.iconst 3, 1) := by decide +kernel
theorem dX12_taskLine_36 : decode cX12_taskLine 36 = .ok (.iconst 0, 1) := by decide +kernel
theorem dX12_taskLine_37 : decode cX12_taskLine 37 = .ok (.bipush 99, 2) := by decide +kernel
theorem dX12_taskLine_39 : decode cX12_taskLine 39 = .ok (.invokevirtual 167, 3) := by decide +kernel
theorem dX12_taskLine_42 : decode cX12_taskLine 42 = .ok (.ifCond .ne 5, 3) := by decide +kernel
theorem dX12_taskLine_45 : decode cX12_taskLine 45 = .ok (.iconst 0, 1) := by decide +kernel
theorem dX12_taskLine_46 : decode cX12_taskLine 46 = .ok (.ireturn, 1) := by decide +kernel
theorem dX12_taskLine_47 : decode cX12_taskLine 47 = .ok (.aload_n 0, 1) := by decide +kernel
theorem dX12_taskLine_48 : decode cX12_taskLine 48 = .ok (.getfield 38, 3) := by decide +kernel
theorem dX12_taskLine_51 : decode cX12_taskLine 51 = .ok (.iconst 2, 1) := by decide +kernel
theorem dX12_taskLine_52 : decode cX12_taskLine 52 = .ok (.iaload, 1) := by decide +kernel
theorem dX12_taskLine_53 : decode cX12_taskLine 53 = .ok (.istore_n 1, 1) := by decide +kernel
theorem dX12_taskLine_54 : decode cX12_taskLine 54 = .ok (.iload_n 1, 1) := by decide +kernel
theorem dX12_taskLine_55 : decode cX12_taskLine 55 = .ok (.bipush 6, 2) := by decide +kernel
theorem dX12_taskLine_57 : decode cX12_taskLine 57 = .ok (.if_icmp .ge 46, 3) := by decide +kernel
theorem dX12_taskLine_60 : decode cX12_taskLine 60 = .ok (.iconst 0, 1) := by decide +kernel
theorem dX12_taskLine_61 : decode cX12_taskLine 61 = .ok (.istore_n 2, 1) := by decide +kernel
theorem dX12_taskLine_62 : decode cX12_taskLine 62 = .ok (.iload_n 2, 1) := by decide +kernel
theorem dX12_taskLine_63 : decode cX12_taskLine 63 = .ok (.iconst 4, 1) := by decide +kernel
theorem dX12_taskLine_64 : decode cX12_taskLine 64 = .ok (.if_icmp .ge 29, 3) := by decide +kernel
theorem dX12_taskLine_67 : decode cX12_taskLine 67 = .ok (.aload_n 0, 1) := by decide +kernel
theorem dX12_taskLine_68 : decode cX12_taskLine 68 = .ok (.getfield 38, 3) := by decide +kernel
theorem dX12_taskLine_71 : decode cX12_taskLine 71 = .ok (.bipush 7, 2) := by decide +kernel
theorem dX12_taskLine_73 : decode cX12_taskLine 73 = .ok (.bipush 6, 2) := by decide +kernel
theorem dX12_taskLine_75 : decode cX12_taskLine 75 = .ok (.iload_n 2, 1) := by decide +kernel
theorem dX12_taskLine_76 : decode cX12_taskLine 76 = .ok (.imul, 1) := by decide +kernel
theorem dX12_taskLine_77 : decode cX12_taskLine 77 = .ok (.iadd, 1) := by decide +kernel
theorem dX12_taskLine_78 : decode cX12_taskLine 78 = .ok (.iload_n 1, 1) := by decide +kernel
theorem dX12_taskLine_79 : decode cX12_taskLine 79 = .ok (.iadd, 1) := by decide +kernel
theorem dX12_taskLine_80 : decode cX12_taskLine 80 = .ok (.aload_n 0, 1) := by decide +kernel
theorem dX12_taskLine_81 : decode cX12_taskLine 81 = .ok (.getfield 41, 3) := by decide +kernel
theorem dX12_taskLine_84 : decode cX12_taskLine 84 = .ok (.iload_n 2, 1) := by decide +kernel
theorem dX12_taskLine_85 : decode cX12_taskLine 85 = .ok (.iaload, 1) := by decide +kernel
theorem dX12_taskLine_86 : decode cX12_taskLine 86 = .ok (.iastore, 1) := by decide +kernel
theorem dX12_taskLine_87 : decode cX12_taskLine 87 = .ok (.iinc 2 1, 3) := by decide +kernel
theorem dX12_taskLine_90 : decode cX12_taskLine 90 = .ok (.goto (-28), 3) := by decide +kernel
theorem dX12_taskLine_93 : decode cX12_taskLine 93 = .ok (.aload_n 0, 1) := by decide +kernel
theorem dX12_taskLine_94 : decode cX12_taskLine 94 = .ok (.getfield 38, 3) := by decide +kernel
theorem dX12_taskLine_97 : decode cX12_taskLine 97 = .ok (.iconst 2, 1) := by decide +kernel
theorem dX12_taskLine_98 : decode cX12_taskLine 98 = .ok (.dup2, 1) := by decide +kernel
theorem dX12_taskLine_99 : decode cX12_taskLine 99 = .ok (.iaload, 1) := by decide +kernel
theorem dX12_taskLine_100 : decode cX12_taskLine 100 = .ok (.iconst 1, 1) := by decide +kernel
theorem dX12_taskLine_101 : decode cX12_taskLine 101 = .ok (.iadd, 1) := by decide +kernel
theorem dX12_taskLine_102 : decode cX12_taskLine 102 = .ok (.iastore, 1) := by decide +kernel
theorem dX12_taskLine_103 : decode cX12_taskLine 103 = .ok (.iconst 1, 1) := by decide +kernel
theorem dX12_taskLine_104 : decode cX12_taskLine 104 = .ok (.ireturn, 1) := by decide +kernel
theorem dX12_yearLine_0 : decode cX12_yearLine 0 = .ok (.lload_n 1, 1) := by decide +kernel
theorem dX12_yearLine_1 : decode cX12_yearLine 1 = .ok (.invokestatic 223, 3) := by decide +kernel
theorem dX12_yearLine_4 : decode cX12_yearLine 4 = .ok (.istore 4, 2) := by decide +kernel
theorem dX12_yearLine_6 : decode cX12_yearLine 6 = .ok (.iload 4, 2) := by decide +kernel
theorem dX12_yearLine_8 : decode cX12_yearLine 8 = .ok (.iconst (-1), 1) := by decide +kernel
theorem dX12_yearLine_9 : decode cX12_yearLine 9 = .ok (.if_icmp .ne 8, 3) := by decide +kernel
theorem dX12_yearLine_12 : decode cX12_yearLine 12 = .ok (.aload_n 0, 1) := by decide +kernel
theorem dX12_yearLine_13 : decode cX12_yearLine 13 = .ok (.invokevirtual 152, 3) := by decide +kernel
theorem dX12_yearLine_16 : decode cX12_yearLine 16 = .ok (.ireturn, 1) := by decide +kernel
theorem dX12_yearLine_17 : decode cX12_yearLine 17 = .ok (.aload_n 0, 1) := by decide +kernel
theorem dX12_yearLine_18 : decode cX12_yearLine 18 = .ok (.iconst 0, 1) := by decide +kernel
theorem dX12_yearLine_19 : decode cX12_yearLine 19 = .ok (.bipush 40, 2) := by decide +kernel
theorem dX12_yearLine_21 : decode cX12_yearLine 21 = .ok (.iload_n 3, 1) := by decide +kernel
theorem dX12_yearLine_22 : decode cX12_yearLine 22 = .ok (.invokevirtual 195, 3) := by decide +kernel
theorem dX12_yearLine_25 : decode cX12_yearLine 25 = .ok (.aload_n 0, 1) := by decide +kernel
theorem dX12_yearLine_26 : decode cX12_yearLine 26 = .ok (.invokevirtual 164, 3) := by decide +kernel
theorem dX12_yearLine_29 : decode cX12_yearLine 29 = .ok (.aload_n 0, 1) := by decide +kernel
theorem dX12_yearLine_30 : decode cX12_yearLine 30 = .ok (.getfield 41, 3) := by decide +kernel
theorem dX12_yearLine_33 : decode cX12_yearLine 33 = .ok (.iconst 2, 1) := by decide +kernel
theorem dX12_yearLine_34 : decode cX12_yearLine 34 = .ok (.iconst (-1), 1) := by decide +kernel
theorem dX12_yearLine_35 : decode cX12_yearLine 35 = .ok (.iastore, 1) := by decide +kernel
theorem dX12_yearLine_36 : decode cX12_yearLine 36 = .ok (.aload_n 0, 1) := by decide +kernel
theorem dX12_yearLine_37 : decode cX12_yearLine 37 = .ok (.getfield 41, 3) := by decide +kernel
theorem dX12_yearLine_40 : decode cX12_yearLine 40 = .ok (.iconst 3, 1) := by decide +kernel
theorem dX12_yearLine_41 : decode cX12_yearLine 41 = .ok (.iconst (-1), 1) := by decide +kernel
theorem dX12_yearLine_42 : decode cX12_yearLine 42 = .ok (.iastore, 1) := by decide +kernel
theorem dX12_yearLine_43 : decode cX12_yearLine 43 = .ok (.iload 4, 2) := by decide +kernel
theorem dX12_yearLine_45 : decode cX12_yearLine 45 = .ok (.iconst 5, 1) := by decide +kernel
theorem dX12_yearLine_46 : decode cX12_yearLine 46 = .ok (.if_icmp .lt 12, 3) := by decide +kernel
theorem dX12_yearLine_49 : decode cX12_yearLine 49 = .ok (.aload_n 0, 1) := by decide +kernel
theorem dX12_yearLine_50 : decode cX12_yearLine 50 = .ok (.iconst 1, 1) := by decide +kernel
theorem dX12_yearLine_51 : decode cX12_yearLine 51 = .ok (.iconst 0, 1) := by decide +kernel
theorem dX12_yearLine_52 : decode cX12_yearLine 52 = .ok (.invokevirtual 180, 3) := by decide +kernel
theorem dX12_yearLine_55 : decode cX12_yearLine 55 = .ok (.goto 54, 3) := by decide +kernel
theorem dX12_yearLine_58 : decode cX12_yearLine 58 = .ok (.aload_n 0, 1) := by decide +kernel
theorem dX12_yearLine_59 : decode cX12_yearLine 59 = .ok (.iconst 1, 1) := by decide +kernel
theorem dX12_yearLine_60 : decode cX12_yearLine 60 = .ok (.iconst 3, 1) := by decide +kernel
theorem dX12_yearLine_61 : decode cX12_yearLine 61 = .ok (.invokevirtual 202, 3) := by decide +kernel
theorem dX12_yearLine_64 : decode cX12_yearLine 64 = .ok (.ifCond .eq 44, 3) := by decide +kernel
theorem dX12_yearLine_67 : decode cX12_yearLine 67 = .ok (.iload 4, 2) := by decide +kernel
theorem dX12_yearLine_69 : decode cX12_yearLine 69 = .ok (.iconst 4, 1) := by decide +kernel
theorem dX12_yearLine_70 : decode cX12_yearLine 70 = .ok (.if_icmp .ne 25, 3) := by decide +kernel
theorem dX12_yearLine_73 : decode cX12_yearLine 73 = .ok (.aload_n 0, 1) := by decide +kernel
theorem dX12_yearLine_74 : decode cX12_yearLine 74 = .ok (.iconst 2, 1) := by decide +kernel
theorem dX12_yearLine_75 : decode cX12_yearLine 75 = .ok (.iconst 0, 1) := by decide +kernel
theorem dX12_yearLine_76 : decode cX12_yearLine 76 = .ok (.iconst 5, 1) := by decide +kernel
theorem dX12_yearLine_77 : decode cX12_yearLine 77 = .ok (.invokevirtual 167, 3) := by decide +kernel
theorem dX12_yearLine_80 : decode cX12_yearLine 80 = .ok (.ifCond .eq 28, 3) := by decide +kernel
theorem dX12_yearLine_83 : decode cX12_yearLine 83 = .ok (.aload_n 0, 1) := by decide +kernel
theorem dX12_yearLine_84 : decode cX12_yearLine 84 = .ok (.iconst 3, 1) := by decide +kernel
theorem dX12_yearLine_85 : decode cX12_yearLine 85 = .ok (.iconst 0, 1) := by decide +kernel
theorem dX12_yearLine_86 : decode cX12_yearLine 86 = .ok (.invokevirtual 180, 3) := by decide +kernel
theorem dX12_yearLine_89 : decode cX12_yearLine 89 = .ok (.ifCond .eq 19, 3) := by decide +kernel
theorem dX12_yearLine_92 : decode cX12_yearLine 92 = .ok (.goto 12, 3) := by decide +kernel
theorem dX12_yearLine_95 : decode cX12_yearLine 95 = .ok (.aload_n 0, 1) := by decide +kernel
theorem dX12_yearLine_96 : decode cX12_yearLine 96 = .ok (.iconst 2, 1) := by decide +kernel
theorem dX12_yearLine_97 : decode cX12_yearLine 97 = .ok (.iconst 0, 1) := by decide +kernel
theorem dX12_yearLine_98 : decode cX12_yearLine 98 = .ok (.invokevirtual 180, 3) := by decide +kernel
theorem dX12_yearLine_101 : decode cX12_yearLine 101 = .ok (.ifCond .eq 7, 3) := by decide +kernel
theorem dX12_yearLine_104 : decode cX12_yearLine 104 = .ok (.iconst 1, 1) := by decide +kernel
theorem dX12_yearLine_105 : decode cX12_yearLine 105 = .ok (.goto 4, 3) := by decide +kernel
theorem dX12_yearLine_108 : decode cX12_yearLine 108 = .ok (.iconst 0, 1) := by decide +kernel
theorem dX12_yearLine_109 : decode cX12_yearLine 109 = .ok (.istore 5, 2) := by decide +kernel
theorem dX12_yearLine_111 : decode cX12_yearLine 111 = .ok (.iload 5, 2) := by decide +kernel
theorem dX12_yearLine_113 : decode cX12_yearLine 113 = .ok (.ifCond .eq 18, 3) := by decide +kernel
theorem dX12_yearLine_116 : decode cX12_yearLine 116 = .ok (.aload_n 0, 1) := by decide +kernel
theorem dX12_yearLine_117 : decode cX12_yearLine 117 = .ok (.getfield 41, 3) := by decide +kernel
theorem dX12_yearLine_120 : decode cX12_yearLine 120 = .ok (.iconst 0, 1) := by decide +kernel
theorem dX12_yearLine_121 : decode cX12_yearLine 121 = .ok (.iload 4, 2) := by decide +kernel
theorem dX12_yearLine_123 : decode cX12_yearLine 123 = .ok (.iastore, 1) := by decide +kernel
theorem dX12_yearLine_124 : decode cX12_yearLine 124 = .ok (.aload_n 0, 1) := by decide +kernel
theorem dX12_yearLine_125 : decode cX12_yearLine 125 = .ok (.iconst 4, 1) := by decide +kernel
theorem dX12_yearLine_126 : decode cX12_yearLine 126 = .ok (.bipush 40, 2) := by decide +kernel
theorem dX12_yearLine_128 : decode cX12_yearLine 128 = .ok (.invokevirtual 227, 3) := by decide +kernel
theorem dX12_yearLine_131 : decode cX12_yearLine 131 = .ok (.iload 5, 2) := by decide +kernel
theorem dX12_yearLine_133 : decode cX12_yearLine 133 = .ok (.ireturn, 1) := by decide +kernel
theorem dX12_logLine_0 : decode cX12_logLine 0 = .ok (.lload_n 1, 1) := by decide +kernel
theorem dX12_logLine_1 : decode cX12_logLine 1 = .ok (.ldc2_w 230, 3) := by decide +kernel
theorem dX12_logLine_4 : decode cX12_logLine 4 = .ok (.lcmp, 1) := by decide +kernel
theorem dX12_logLine_5 : decode cX12_logLine 5 = .ok (.ifCond .eq 16, 3) := by decide +kernel
theorem dX12_logLine_8 : decode cX12_logLine 8 = .ok (.lload_n 1, 1) := by decide +kernel
theorem dX12_logLine_9 : decode cX12_logLine 9 = .ok (.ldc2_w 232, 3) := by decide +kernel
theorem dX12_logLine_12 : decode cX12_logLine 12 = .ok (.lcmp, 1) := by decide +kernel
theorem dX12_logLine_13 : decode cX12_logLine 13 = .ok (.ifCond .eq 8, 3) := by decide +kernel
theorem dX12_logLine_16 : decode cX12_logLine 16 = .ok (.aload_n 0, 1) := by decide +kernel
theorem dX12_logLine_17 : decode cX12_logLine 17 = .ok (.invokevirtual 152, 3) := by decide +kernel
theorem dX12_logLine_20 : decode cX12_logLine 20 = .ok (.ireturn, 1) := by decide +kernel
theorem dX12_logLine_21 : decode cX12_logLine 21 = .ok (.aload_n 0, 1) := by decide +kernel
theorem dX12_logLine_22 : decode cX12_logLine 22 = .ok (.iconst 0, 1) := by decide +kernel
theorem dX12_logLine_23 : decode cX12_logLine 23 = .ok (.bipush 8, 2) := by decide +kernel
theorem dX12_logLine_25 : decode cX12_logLine 25 = .ok (.iload_n 3, 1) := by decide +kernel
theorem dX12_logLine_26 : decode cX12_logLine 26 = .ok (.invokevirtual 195, 3) := by decide +kernel
theorem dX12_logLine_29 : decode cX12_logLine 29 = .ok (.aload_n 0, 1) := by decide +kernel
theorem dX12_logLine_30 : decode cX12_logLine 30 = .ok (.invokevirtual 164, 3) := by decide +kernel
theorem dX12_logLine_33 : decode cX12_logLine 33 = .ok (.aload_n 0, 1) := by decide +kernel
theorem dX12_logLine_34 : decode cX12_logLine 34 = .ok (.iconst 1, 1) := by decide +kernel
theorem dX12_logLine_35 : decode cX12_logLine 35 = .ok (.iconst 0, 1) := by decide +kernel
theorem dX12_logLine_36 : decode cX12_logLine 36 = .ok (.invokevirtual 180, 3) := by decide +kernel
theorem dX12_logLine_39 : decode cX12_logLine 39 = .ok (.ifCond .ne 5, 3) := by decide +kernel
theorem dX12_logLine_42 : decode cX12_logLine 42 = .ok (.iconst 0, 1) := by decide +kernel
theorem dX12_logLine_43 : decode cX12_logLine 43 = .ok (.ireturn, 1) := by decide +kernel
theorem dX12_logLine_44 : decode cX12_logLine 44 = .ok (.aload_n 0, 1) := by decide +kernel
theorem dX12_logLine_45 : decode cX12_logLine 45 = .ok (.getfield 41, 3) := by decide +kernel
theorem dX12_logLine_48 : decode cX12_logLine 48 = .ok (.iconst 0, 1) := by decide +kernel
theorem dX12_logLine_49 : decode cX12_logLine 49 = .ok (.lload_n 1, 1) := by decide +kernel
theorem dX12_logLine_50 : decode cX12_logLine 50 = .ok (.ldc2_w 230, 3) := by decide +kernel
theorem dX12_logLine_53 : decode cX12_logLine 53 = .ok (.lcmp, 1) := by decide +kernel
theorem dX12_logLine_54 : decode cX12_logLine 54 = .ok (.ifCond .ne 7, 3) := by decide +kernel
theorem dX12_logLine_57 : decode cX12_logLine 57 = .ok (.iconst 1, 1) := by decide +kernel
theorem dX12_logLine_58 : decode cX12_logLine 58 = .ok (.goto 4, 3) := by decide +kernel
theorem dX12_logLine_61 : decode cX12_logLine 61 = .ok (.iconst 0, 1) := by decide +kernel
theorem dX12_logLine_62 : decode cX12_logLine 62 = .ok (.iastore, 1) := by decide +kernel
theorem dX12_logLine_63 : decode cX12_logLine 63 = .ok (.aload_n 0, 1) := by decide +kernel
theorem dX12_logLine_64 : decode cX12_logLine 64 = .ok (.iconst 2, 1) := by decide +kernel
theorem dX12_logLine_65 : decode cX12_logLine 65 = .ok (.bipush 8, 2) := by decide +kernel
theorem dX12_logLine_67 : decode cX12_logLine 67 = .ok (.invokevirtual 227, 3) := by decide +kernel
theorem dX12_logLine_70 : decode cX12_logLine 70 = .ok (.iconst 1, 1) := by decide +kernel
theorem dX12_logLine_71 : decode cX12_logLine 71 = .ok (.ireturn, 1) := by decide +kernel
theorem dX12_swapLine_0 : decode cX12_swapLine 0 = .ok (.lload_n 1, 1) := by decide +kernel
theorem dX12_swapLine_1 : decode cX12_swapLine 1 = .ok (.ldc2_w 234, 3) := by decide +kernel
theorem dX12_swapLine_4 : decode cX12_swapLine 4 = .ok (.lcmp, 1) := by decide +kernel
theorem dX12_swapLine_5 : decode cX12_swapLine 5 = .ok (.ifCond .eq 16, 3) := by decide +kernel
theorem dX12_swapLine_8 : decode cX12_swapLine 8 = .ok (.lload_n 1, 1) := by decide +kernel
theorem dX12_swapLine_9 : decode cX12_swapLine 9 = .ok (.ldc2_w 236, 3) := by decide +kernel
theorem dX12_swapLine_12 : decode cX12_swapLine 12 = .ok (.lcmp, 1) := by decide +kernel
theorem dX12_swapLine_13 : decode cX12_swapLine 13 = .ok (.ifCond .eq 8, 3) := by decide +kernel
theorem dX12_swapLine_16 : decode cX12_swapLine 16 = .ok (.aload_n 0, 1) := by decide +kernel
theorem dX12_swapLine_17 : decode cX12_swapLine 17 = .ok (.invokevirtual 152, 3) := by decide +kernel
theorem dX12_swapLine_20 : decode cX12_swapLine 20 = .ok (.ireturn, 1) := by decide +kernel
theorem dX12_swapLine_21 : decode cX12_swapLine 21 = .ok (.aload_n 0, 1) := by decide +kernel
theorem dX12_swapLine_22 : decode cX12_swapLine 22 = .ok (.invokevirtual 164, 3) := by decide +kernel
theorem dX12_swapLine_25 : decode cX12_swapLine 25 = .ok (.lload_n 1, 1) := by decide +kernel
theorem dX12_swapLine_26 : decode cX12_swapLine 26 = .ok (.ldc2_w 234, 3) := by decide +kernel
theorem dX12_swapLine_29 : decode cX12_swapLine 29 = .ok (.lcmp, 1) := by decide +kernel
theorem dX12_swapLine_30 : decode cX12_swapLine 30 = .ok (.ifCond .ne 30, 3) := by decide +kernel
theorem dX12_swapLine_33 : decode cX12_swapLine 33 = .ok (.aload_n 0, 1) := by decide +kernel
theorem dX12_swapLine_34 : decode cX12_swapLine 34 = .ok (.iconst 0, 1) := by decide +kernel
theorem dX12_swapLine_35 : decode cX12_swapLine 35 = .ok (.iconst 2, 1) := by decide +kernel
theorem dX12_swapLine_36 : decode cX12_swapLine 36 = .ok (.bipush 6, 2) := by decide +kernel
theorem dX12_swapLine_38 : decode cX12_swapLine 38 = .ok (.invokevirtual 167, 3) := by decide +kernel
theorem dX12_swapLine_41 : decode cX12_swapLine 41 = .ok (.ifCond .ne 5, 3) := by decide +kernel
theorem dX12_swapLine_44 : decode cX12_swapLine 44 = .ok (.iconst 0, 1) := by decide +kernel
theorem dX12_swapLine_45 : decode cX12_swapLine 45 = .ok (.ireturn, 1) := by decide +kernel
theorem dX12_swapLine_46 : decode cX12_swapLine 46 = .ok (.aload_n 0, 1) := by decide +kernel
theorem dX12_swapLine_47 : decode cX12_swapLine 47 = .ok (.getfield 38, 3) := by decide +kernel
theorem dX12_swapLine_50 : decode cX12_swapLine 50 = .ok (.iconst 0, 1) := by decide +kernel
theorem dX12_swapLine_51 : decode cX12_swapLine 51 = .ok (.aload_n 0, 1) := by decide +kernel
theorem dX12_swapLine_52 : decode cX12_swapLine 52 = .ok (.getfield 41, 3) := by decide +kernel
theorem dX12_swapLine_55 : decode cX12_swapLine 55 = .ok (.iconst 0, 1) := by decide +kernel
theorem dX12_swapLine_56 : decode cX12_swapLine 56 = .ok (.iaload, 1) := by decide +kernel
theorem dX12_swapLine_57 : decode cX12_swapLine 57 = .ok (.iastore, 1) := by decide +kernel
theorem dX12_swapLine_58 : decode cX12_swapLine 58 = .ok (.iconst 1, 1) := by decide +kernel
theorem dX12_swapLine_59 : decode cX12_swapLine 59 = .ok (.ireturn, 1) := by decide +kernel
theorem dX12_swapLine_60 : decode cX12_swapLine 60 = .ok (.aload_n 0, 1) := by decide +kernel
theorem dX12_swapLine_61 : decode cX12_swapLine 61 = .ok (.iconst 0, 1) := by decide +kernel
theorem dX12_swapLine_62 : decode cX12_swapLine 62 = .ok (.iconst 5, 1) := by decide +kernel
theorem dX12_swapLine_63 : decode cX12_swapLine 63 = .ok (.invokevirtual 202, 3) := by decide +kernel
theorem dX12_swapLine_66 : decode cX12_swapLine 66 = .ok (.ifCond .eq 23, 3) := by decide +kernel
theorem dX12_swapLine_69 : decode cX12_swapLine 69 = .ok (.aload_n 0, 1) := by decide +kernel
theorem dX12_swapLine_70 : decode cX12_swapLine 70 = .ok (.iconst 1, 1) := by decide +kernel
theorem dX12_swapLine_71 : decode cX12_swapLine 71 = .ok (.iconst 5, 1) := by decide +kernel
theorem dX12_swapLine_72 : decode cX12_swapLine 72 = .ok (.invokevirtual 202, 3) := by decide +kernel
theorem dX12_swapLine_75 : decode cX12_swapLine 75 = .ok (.ifCond .eq 14, 3) := by decide +kernel
theorem dX12_swapLine_78 : decode cX12_swapLine 78 = .ok (.aload_n 0, 1) := by decide +kernel
theorem dX12_swapLine_79 : decode cX12_swapLine 79 = .ok (.iconst 2, 1) := by decide +kernel
theorem dX12_swapLine_80 : decode cX12_swapLine 80 = .ok (.iconst 0, 1) := by decide +kernel
theorem dX12_swapLine_81 : decode cX12_swapLine 81 = .ok (.bipush 9, 2) := by decide +kernel
theorem dX12_swapLine_83 : decode cX12_swapLine 83 = .ok (.invokevirtual 167, 3) := by decide +kernel
theorem dX12_swapLine_86 : decode cX12_swapLine 86 = .ok (.ifCond .ne 5, 3) := by decide +kernel
theorem dX12_swapLine_89 : decode cX12_swapLine 89 = .ok (.iconst 0, 1) := by decide +kernel
theorem dX12_swapLine_90 : decode cX12_swapLine 90 = .ok (.ireturn, 1) := by decide +kernel
theorem dX12_swapLine_91 : decode cX12_swapLine 91 = .ok (.aload_n 0, 1) := by decide +kernel
theorem dX12_swapLine_92 : decode cX12_swapLine 92 = .ok (.getfield 160, 3) := by decide +kernel
theorem dX12_swapLine_95 : decode cX12_swapLine 95 = .ok (.ifCond .eq 32, 3) := by decide +kernel
theorem dX12_swapLine_98 : decode cX12_swapLine 98 = .ok (.aload_n 0, 1) := by decide +kernel
theorem dX12_swapLine_99 : decode cX12_swapLine 99 = .ok (.getfield 38, 3) := by decide +kernel
theorem dX12_swapLine_102 : decode cX12_swapLine 102 = .ok (.iconst 1, 1) := by decide +kernel
theorem dX12_swapLine_103 : decode cX12_swapLine 103 = .ok (.bipush 6, 2) := by decide +kernel
theorem dX12_swapLine_105 : decode cX12_swapLine 105 = .ok (.aload_n 0, 1) := by decide +kernel
theorem dX12_swapLine_106 : decode cX12_swapLine 106 = .ok (.getfield 41, 3) := by decide +kernel
theorem dX12_swapLine_109 : decode cX12_swapLine 109 = .ok (.iconst 0, 1) := by decide +kernel
theorem dX12_swapLine_110 : decode cX12_swapLine 110 = .ok (.iaload, 1) := by decide +kernel
theorem dX12_swapLine_111 : decode cX12_swapLine 111 = .ok (.imul, 1) := by decide +kernel
theorem dX12_swapLine_112 : decode cX12_swapLine 112 = .ok (.iadd, 1) := by decide +kernel
theorem dX12_swapLine_113 : decode cX12_swapLine 113 = .ok (.aload_n 0, 1) := by decide +kernel
theorem dX12_swapLine_114 : decode cX12_swapLine 114 = .ok (.getfield 41, 3) := by decide +kernel
theorem dX12_swapLine_117 : decode cX12_swapLine 117 = .ok (.iconst 1, 1) := by decide +kernel
theorem dX12_swapLine_118 : decode cX12_swapLine 118 = .ok (.iaload, 1) := by decide +kernel
theorem dX12_swapLine_119 : decode cX12_swapLine 119 = .ok (.iadd, 1) := by decide +kernel
theorem dX12_swapLine_120 : decode cX12_swapLine 120 = .ok (.aload_n 0, 1) := by decide +kernel
theorem dX12_swapLine_121 : decode cX12_swapLine 121 = .ok (.getfield 41, 3) := by decide +kernel
theorem dX12_swapLine_124 : decode cX12_swapLine 124 = .ok (.iconst 2, 1) := by decide +kernel
theorem dX12_swapLine_125 : decode cX12_swapLine 125 = .ok (.iaload, 1) := by decide +kernel
theorem dX12_swapLine_126 : decode cX12_swapLine 126 = .ok (.iastore, 1) := by decide +kernel
theorem dX12_swapLine_127 : decode cX12_swapLine 127 = .ok (.iconst 1, 1) := by decide +kernel
theorem dX12_swapLine_128 : decode cX12_swapLine 128 = .ok (.ireturn, 1) := by decide +kernel
theorem dX12_does_0 : decode cX12_does 0 = .ok (.iload_n 1, 1) := by decide +kernel
theorem dX12_does_1 : decode cX12_does 1 = .ok (.tableswitch 50 4 6 #[27, 36, 43], 27) := by decide +kernel
theorem dX12_does_28 : decode cX12_does 28 = .ok (.aload_n 0, 1) := by decide +kernel
theorem dX12_does_29 : decode cX12_does 29 = .ok (.iload_n 2, 1) := by decide +kernel
theorem dX12_does_30 : decode cX12_does 30 = .ok (.iload_n 3, 1) := by decide +kernel
theorem dX12_does_31 : decode cX12_does 31 = .ok (.iload 4, 2) := by decide +kernel
theorem dX12_does_33 : decode cX12_does 33 = .ok (.invokevirtual 328, 3) := by decide +kernel
theorem dX12_does_36 : decode cX12_does 36 = .ok (.ireturn, 1) := by decide +kernel
theorem dX12_does_37 : decode cX12_does 37 = .ok (.aload_n 0, 1) := by decide +kernel
theorem dX12_does_38 : decode cX12_does 38 = .ok (.iload_n 2, 1) := by decide +kernel
theorem dX12_does_39 : decode cX12_does 39 = .ok (.iconst 1, 1) := by decide +kernel
theorem dX12_does_40 : decode cX12_does 40 = .ok (.invokevirtual 331, 3) := by decide +kernel
theorem dX12_does_43 : decode cX12_does 43 = .ok (.ireturn, 1) := by decide +kernel
theorem dX12_does_44 : decode cX12_does 44 = .ok (.aload_n 0, 1) := by decide +kernel
theorem dX12_does_45 : decode cX12_does 45 = .ok (.iload_n 2, 1) := by decide +kernel
theorem dX12_does_46 : decode cX12_does 46 = .ok (.iconst (-1), 1) := by decide +kernel
theorem dX12_does_47 : decode cX12_does 47 = .ok (.invokevirtual 331, 3) := by decide +kernel
theorem dX12_does_50 : decode cX12_does 50 = .ok (.ireturn, 1) := by decide +kernel
theorem dX12_does_51 : decode cX12_does 51 = .ok (.aload_n 0, 1) := by decide +kernel
theorem dX12_does_52 : decode cX12_does 52 = .ok (.iload_n 2, 1) := by decide +kernel
theorem dX12_does_53 : decode cX12_does 53 = .ok (.invokevirtual 316, 3) := by decide +kernel
theorem dX12_does_56 : decode cX12_does 56 = .ok (.ifCond .eq 20, 3) := by decide +kernel
theorem dX12_does_59 : decode cX12_does 59 = .ok (.aload_n 0, 1) := by decide +kernel
theorem dX12_does_60 : decode cX12_does 60 = .ok (.iload_n 3, 1) := by decide +kernel
theorem dX12_does_61 : decode cX12_does 61 = .ok (.invokevirtual 322, 3) := by decide +kernel
theorem dX12_does_64 : decode cX12_does 64 = .ok (.ifCond .eq 12, 3) := by decide +kernel
theorem dX12_does_67 : decode cX12_does 67 = .ok (.aload_n 0, 1) := by decide +kernel
theorem dX12_does_68 : decode cX12_does 68 = .ok (.getfield 53, 3) := by decide +kernel
theorem dX12_does_71 : decode cX12_does 71 = .ok (.iload_n 3, 1) := by decide +kernel
theorem dX12_does_72 : decode cX12_does 72 = .ok (.baload, 1) := by decide +kernel
theorem dX12_does_73 : decode cX12_does 73 = .ok (.ifCond .eq 5, 3) := by decide +kernel
theorem dX12_does_76 : decode cX12_does 76 = .ok (.iconst 0, 1) := by decide +kernel
theorem dX12_does_77 : decode cX12_does 77 = .ok (.ireturn, 1) := by decide +kernel
theorem dX12_does_78 : decode cX12_does 78 = .ok (.iload_n 1, 1) := by decide +kernel
theorem dX12_does_79 : decode cX12_does 79 = .ok (.ifCond .ne 12, 3) := by decide +kernel
theorem dX12_does_82 : decode cX12_does 82 = .ok (.aload_n 0, 1) := by decide +kernel
theorem dX12_does_83 : decode cX12_does 83 = .ok (.iload_n 2, 1) := by decide +kernel
theorem dX12_does_84 : decode cX12_does 84 = .ok (.iload_n 3, 1) := by decide +kernel
theorem dX12_does_85 : decode cX12_does 85 = .ok (.invokevirtual 334, 3) := by decide +kernel
theorem dX12_does_88 : decode cX12_does 88 = .ok (.goto 37, 3) := by decide +kernel
theorem dX12_does_91 : decode cX12_does 91 = .ok (.iload_n 1, 1) := by decide +kernel
theorem dX12_does_92 : decode cX12_does 92 = .ok (.iconst 2, 1) := by decide +kernel
theorem dX12_does_93 : decode cX12_does 93 = .ok (.if_icmp .ne 12, 3) := by decide +kernel
theorem dX12_does_96 : decode cX12_does 96 = .ok (.aload_n 0, 1) := by decide +kernel
theorem dX12_does_97 : decode cX12_does 97 = .ok (.iload_n 2, 1) := by decide +kernel
theorem dX12_does_98 : decode cX12_does 98 = .ok (.iload_n 3, 1) := by decide +kernel
theorem dX12_does_99 : decode cX12_does 99 = .ok (.invokevirtual 337, 3) := by decide +kernel
theorem dX12_does_102 : decode cX12_does 102 = .ok (.goto 23, 3) := by decide +kernel
theorem dX12_does_105 : decode cX12_does 105 = .ok (.iload_n 1, 1) := by decide +kernel
theorem dX12_does_106 : decode cX12_does 106 = .ok (.iconst 3, 1) := by decide +kernel
theorem dX12_does_107 : decode cX12_does 107 = .ok (.if_icmp .ne 12, 3) := by decide +kernel
theorem dX12_does_110 : decode cX12_does 110 = .ok (.aload_n 0, 1) := by decide +kernel
theorem dX12_does_111 : decode cX12_does 111 = .ok (.iload_n 2, 1) := by decide +kernel
theorem dX12_does_112 : decode cX12_does 112 = .ok (.iload_n 3, 1) := by decide +kernel
theorem dX12_does_113 : decode cX12_does 113 = .ok (.invokevirtual 340, 3) := by decide +kernel
theorem dX12_does_116 : decode cX12_does 116 = .ok (.goto 9, 3) := by decide +kernel
theorem dX12_does_119 : decode cX12_does 119 = .ok (.aload_n 0, 1) := by decide +kernel
theorem dX12_does_120 : decode cX12_does 120 = .ok (.iload_n 2, 1) := by decide +kernel
theorem dX12_does_121 : decode cX12_does 121 = .ok (.iload_n 3, 1) := by decide +kernel
theorem dX12_does_122 : decode cX12_does 122 = .ok (.invokevirtual 343, 3) := by decide +kernel
theorem dX12_does_125 : decode cX12_does 125 = .ok (.ireturn, 1) := by decide +kernel
theorem dX12_firstRun_0 : decode cX12_firstRun 0 = .ok (.iconst (-1), 1) := by decide +kernel
theorem dX12_firstRun_1 : decode cX12_firstRun 1 = .ok (.istore_n 3, 1) := by decide +kernel
theorem dX12_firstRun_2 : decode cX12_firstRun 2 = .ok (.ldc_w 371, 3) := by decide +kernel
theorem dX12_firstRun_5 : decode cX12_firstRun 5 = .ok (.istore 4, 2) := by decide +kernel
theorem dX12_firstRun_7 : decode cX12_firstRun 7 = .ok (.iconst 0, 1) := by decide +kernel
theorem dX12_firstRun_8 : decode cX12_firstRun 8 = .ok (.istore 5, 2) := by decide +kernel
theorem dX12_firstRun_10 : decode cX12_firstRun 10 = .ok (.iload 5, 2) := by decide +kernel
theorem dX12_firstRun_12 : decode cX12_firstRun 12 = .ok (.aload_n 0, 1) := by decide +kernel
theorem dX12_firstRun_13 : decode cX12_firstRun 13 = .ok (.getfield 283, 3) := by decide +kernel
theorem dX12_firstRun_16 : decode cX12_firstRun 16 = .ok (.if_icmp .ge 42, 3) := by decide +kernel
theorem dX12_firstRun_19 : decode cX12_firstRun 19 = .ok (.aload_n 0, 1) := by decide +kernel
theorem dX12_firstRun_20 : decode cX12_firstRun 20 = .ok (.iload_n 1, 1) := by decide +kernel
theorem dX12_firstRun_21 : decode cX12_firstRun 21 = .ok (.iload_n 2, 1) := by decide +kernel
theorem dX12_firstRun_22 : decode cX12_firstRun 22 = .ok (.iload 5, 2) := by decide +kernel
theorem dX12_firstRun_24 : decode cX12_firstRun 24 = .ok (.invokevirtual 378, 3) := by decide +kernel
theorem dX12_firstRun_27 : decode cX12_firstRun 27 = .ok (.istore 6, 2) := by decide +kernel
theorem dX12_firstRun_29 : decode cX12_firstRun 29 = .ok (.iload 6, 2) := by decide +kernel
theorem dX12_firstRun_31 : decode cX12_firstRun 31 = .ok (.iload 4, 2) := by decide +kernel
theorem dX12_firstRun_33 : decode cX12_firstRun 33 = .ok (.if_icmp .ge 8, 3) := by decide +kernel
theorem dX12_firstRun_36 : decode cX12_firstRun 36 = .ok (.iload 5, 2) := by decide +kernel
theorem dX12_firstRun_38 : decode cX12_firstRun 38 = .ok (.goto 4, 3) := by decide +kernel
theorem dX12_firstRun_41 : decode cX12_firstRun 41 = .ok (.iload_n 3, 1) := by decide +kernel
theorem dX12_firstRun_42 : decode cX12_firstRun 42 = .ok (.istore_n 3, 1) := by decide +kernel
theorem dX12_firstRun_43 : decode cX12_firstRun 43 = .ok (.iload 4, 2) := by decide +kernel
theorem dX12_firstRun_45 : decode cX12_firstRun 45 = .ok (.iload 6, 2) := by decide +kernel
theorem dX12_firstRun_47 : decode cX12_firstRun 47 = .ok (.invokestatic 375, 3) := by decide +kernel
theorem dX12_firstRun_50 : decode cX12_firstRun 50 = .ok (.istore 4, 2) := by decide +kernel
theorem dX12_firstRun_52 : decode cX12_firstRun 52 = .ok (.iinc 5 1, 3) := by decide +kernel
theorem dX12_firstRun_55 : decode cX12_firstRun 55 = .ok (.goto (-45), 3) := by decide +kernel
theorem dX12_firstRun_58 : decode cX12_firstRun 58 = .ok (.iload_n 3, 1) := by decide +kernel
theorem dX12_firstRun_59 : decode cX12_firstRun 59 = .ok (.ireturn, 1) := by decide +kernel
theorem dX12_findCosts_0 : decode cX12_findCosts 0 = .ok (.iconst 0, 1) := by decide +kernel
theorem dX12_findCosts_1 : decode cX12_findCosts 1 = .ok (.istore_n 2, 1) := by decide +kernel
theorem dX12_findCosts_2 : decode cX12_findCosts 2 = .ok (.iload_n 2, 1) := by decide +kernel
theorem dX12_findCosts_3 : decode cX12_findCosts 3 = .ok (.bipush 40, 2) := by decide +kernel
theorem dX12_findCosts_5 : decode cX12_findCosts 5 = .ok (.aload_n 0, 1) := by decide +kernel
theorem dX12_findCosts_6 : decode cX12_findCosts 6 = .ok (.getfield 289, 3) := by decide +kernel
theorem dX12_findCosts_9 : decode cX12_findCosts 9 = .ok (.imul, 1) := by decide +kernel
theorem dX12_findCosts_10 : decode cX12_findCosts 10 = .ok (.if_icmp .ge 45, 3) := by decide +kernel
theorem dX12_findCosts_13 : decode cX12_findCosts 13 = .ok (.aload_n 0, 1) := by decide +kernel
theorem dX12_findCosts_14 : decode cX12_findCosts 14 = .ok (.getfield 72, 3) := by decide +kernel
theorem dX12_findCosts_17 : decode cX12_findCosts 17 = .ok (.iload_n 2, 1) := by decide +kernel
theorem dX12_findCosts_18 : decode cX12_findCosts 18 = .ok (.iload_n 2, 1) := by decide +kernel
theorem dX12_findCosts_19 : decode cX12_findCosts 19 = .ok (.bipush 40, 2) := by decide +kernel
theorem dX12_findCosts_21 : decode cX12_findCosts 21 = .ok (.irem, 1) := by decide +kernel
theorem dX12_findCosts_22 : decode cX12_findCosts 22 = .ok (.aload_n 0, 1) := by decide +kernel
theorem dX12_findCosts_23 : decode cX12_findCosts 23 = .ok (.getfield 283, 3) := by decide +kernel
theorem dX12_findCosts_26 : decode cX12_findCosts 26 = .ok (.if_icmp .ge 19, 3) := by decide +kernel
theorem dX12_findCosts_29 : decode cX12_findCosts 29 = .ok (.aload_n 0, 1) := by decide +kernel
theorem dX12_findCosts_30 : decode cX12_findCosts 30 = .ok (.iload_n 1, 1) := by decide +kernel
theorem dX12_findCosts_31 : decode cX12_findCosts 31 = .ok (.iload_n 2, 1) := by decide +kernel
theorem dX12_findCosts_32 : decode cX12_findCosts 32 = .ok (.bipush 40, 2) := by decide +kernel
theorem dX12_findCosts_34 : decode cX12_findCosts 34 = .ok (.idiv, 1) := by decide +kernel
theorem dX12_findCosts_35 : decode cX12_findCosts 35 = .ok (.iload_n 2, 1) := by decide +kernel
theorem dX12_findCosts_36 : decode cX12_findCosts 36 = .ok (.bipush 40, 2) := by decide +kernel
theorem dX12_findCosts_38 : decode cX12_findCosts 38 = .ok (.irem, 1) := by decide +kernel
theorem dX12_findCosts_39 : decode cX12_findCosts 39 = .ok (.invokevirtual 378, 3) := by decide +kernel
theorem dX12_findCosts_42 : decode cX12_findCosts 42 = .ok (.goto 6, 3) := by decide +kernel
theorem dX12_findCosts_45 : decode cX12_findCosts 45 = .ok (.ldc_w 371, 3) := by decide +kernel
theorem dX12_findCosts_48 : decode cX12_findCosts 48 = .ok (.iastore, 1) := by decide +kernel
theorem dX12_findCosts_49 : decode cX12_findCosts 49 = .ok (.iinc 2 1, 3) := by decide +kernel
theorem dX12_findCosts_52 : decode cX12_findCosts 52 = .ok (.goto (-50), 3) := by decide +kernel
theorem dX12_findCosts_55 : decode cX12_findCosts 55 = .ok (.aload_n 0, 1) := by decide +kernel
theorem dX12_findCosts_56 : decode cX12_findCosts 56 = .ok (.getfield 283, 3) := by decide +kernel
theorem dX12_findCosts_59 : decode cX12_findCosts 59 = .ok (.istore_n 2, 1) := by decide +kernel
theorem dX12_findCosts_60 : decode cX12_findCosts 60 = .ok (.iload_n 2, 1) := by decide +kernel
theorem dX12_findCosts_61 : decode cX12_findCosts 61 = .ok (.ifCond .lt 186, 3) := by decide +kernel
theorem dX12_findCosts_64 : decode cX12_findCosts 64 = .ok (.iconst 0, 1) := by decide +kernel
theorem dX12_findCosts_65 : decode cX12_findCosts 65 = .ok (.istore_n 3, 1) := by decide +kernel
theorem dX12_findCosts_66 : decode cX12_findCosts 66 = .ok (.iload_n 3, 1) := by decide +kernel
theorem dX12_findCosts_67 : decode cX12_findCosts 67 = .ok (.iconst 1, 1) := by decide +kernel
theorem dX12_findCosts_68 : decode cX12_findCosts 68 = .ok (.aload_n 0, 1) := by decide +kernel
theorem dX12_findCosts_69 : decode cX12_findCosts 69 = .ok (.getfield 289, 3) := by decide +kernel
theorem dX12_findCosts_72 : decode cX12_findCosts 72 = .ok (.ishl, 1) := by decide +kernel
theorem dX12_findCosts_73 : decode cX12_findCosts 73 = .ok (.if_icmp .ge 168, 3) := by decide +kernel
theorem dX12_findCosts_76 : decode cX12_findCosts 76 = .ok (.iload_n 3, 1) := by decide +kernel
theorem dX12_findCosts_77 : decode cX12_findCosts 77 = .ok (.ifCond .ne 7, 3) := by decide +kernel
theorem dX12_findCosts_80 : decode cX12_findCosts 80 = .ok (.iconst 0, 1) := by decide +kernel
theorem dX12_findCosts_81 : decode cX12_findCosts 81 = .ok (.goto 30, 3) := by decide +kernel
theorem dX12_findCosts_84 : decode cX12_findCosts 84 = .ok (.iload_n 2, 1) := by decide +kernel
theorem dX12_findCosts_85 : decode cX12_findCosts 85 = .ok (.aload_n 0, 1) := by decide +kernel
theorem dX12_findCosts_86 : decode cX12_findCosts 86 = .ok (.getfield 283, 3) := by decide +kernel
theorem dX12_findCosts_89 : decode cX12_findCosts 89 = .ok (.if_icmp .ne 9, 3) := by decide +kernel
theorem dX12_findCosts_92 : decode cX12_findCosts 92 = .ok (.ldc_w 371, 3) := by decide +kernel
theorem dX12_findCosts_95 : decode cX12_findCosts 95 = .ok (.goto 16, 3) := by decide +kernel
theorem dX12_findCosts_98 : decode cX12_findCosts 98 = .ok (.aload_n 0, 1) := by decide +kernel
theorem dX12_findCosts_99 : decode cX12_findCosts 99 = .ok (.getfield 69, 3) := by decide +kernel
theorem dX12_findCosts_102 : decode cX12_findCosts 102 = .ok (.bipush 64, 2) := by decide +kernel
theorem dX12_findCosts_104 : decode cX12_findCosts 104 = .ok (.iload_n 2, 1) := by decide +kernel
theorem dX12_findCosts_105 : decode cX12_findCosts 105 = .ok (.iconst 1, 1) := by decide +kernel
theorem dX12_findCosts_106 : decode cX12_findCosts 106 = .ok (.iadd, 1) := by decide +kernel
theorem dX12_findCosts_107 : decode cX12_findCosts 107 = .ok (.imul, 1) := by decide +kernel
theorem dX12_findCosts_108 : decode cX12_findCosts 108 = .ok (.iload_n 3, 1) := by decide +kernel
theorem dX12_findCosts_109 : decode cX12_findCosts 109 = .ok (.iadd, 1) := by decide +kernel
theorem dX12_findCosts_110 : decode cX12_findCosts 110 = .ok (.iaload, 1) := by decide +kernel
theorem dX12_findCosts_111 : decode cX12_findCosts 111 = .ok (.istore 4, 2) := by decide +kernel
theorem dX12_findCosts_113 : decode cX12_findCosts 113 = .ok (.iconst 0, 1) := by decide +kernel
theorem dX12_findCosts_114 : decode cX12_findCosts 114 = .ok (.istore 5, 2) := by decide +kernel
theorem dX12_findCosts_116 : decode cX12_findCosts 116 = .ok (.iload 5, 2) := by decide +kernel
theorem dX12_findCosts_118 : decode cX12_findCosts 118 = .ok (.aload_n 0, 1) := by decide +kernel
theorem dX12_findCosts_119 : decode cX12_findCosts 119 = .ok (.getfield 289, 3) := by decide +kernel
theorem dX12_findCosts_122 : decode cX12_findCosts 122 = .ok (.if_icmp .ge 94, 3) := by decide +kernel
theorem dX12_findCosts_125 : decode cX12_findCosts 125 = .ok (.iload_n 2, 1) := by decide +kernel
theorem dX12_findCosts_126 : decode cX12_findCosts 126 = .ok (.aload_n 0, 1) := by decide +kernel
theorem dX12_findCosts_127 : decode cX12_findCosts 127 = .ok (.getfield 283, 3) := by decide +kernel
theorem dX12_findCosts_130 : decode cX12_findCosts 130 = .ok (.if_icmp .ge 86, 3) := by decide +kernel
theorem dX12_findCosts_133 : decode cX12_findCosts 133 = .ok (.iload_n 3, 1) := by decide +kernel
theorem dX12_findCosts_134 : decode cX12_findCosts 134 = .ok (.iload 5, 2) := by decide +kernel
theorem dX12_findCosts_136 : decode cX12_findCosts 136 = .ok (.invokestatic 104, 3) := by decide +kernel
theorem dX12_findCosts_139 : decode cX12_findCosts 139 = .ok (.ifCond .eq 18, 3) := by decide +kernel
theorem dX12_findCosts_142 : decode cX12_findCosts 142 = .ok (.aload_n 0, 1) := by decide +kernel
theorem dX12_findCosts_143 : decode cX12_findCosts 143 = .ok (.getfield 72, 3) := by decide +kernel
theorem dX12_findCosts_146 : decode cX12_findCosts 146 = .ok (.bipush 40, 2) := by decide +kernel
theorem dX12_findCosts_148 : decode cX12_findCosts 148 = .ok (.iload 5, 2) := by decide +kernel
theorem dX12_findCosts_150 : decode cX12_findCosts 150 = .ok (.imul, 1) := by decide +kernel
theorem dX12_findCosts_151 : decode cX12_findCosts 151 = .ok (.iload_n 2, 1) := by decide +kernel
theorem dX12_findCosts_152 : decode cX12_findCosts 152 = .ok (.iadd, 1) := by decide +kernel
theorem dX12_findCosts_153 : decode cX12_findCosts 153 = .ok (.iaload, 1) := by decide +kernel
theorem dX12_findCosts_154 : decode cX12_findCosts 154 = .ok (.goto 6, 3) := by decide +kernel
theorem dX12_findCosts_157 : decode cX12_findCosts 157 = .ok (.ldc_w 371, 3) := by decide +kernel
theorem dX12_findCosts_160 : decode cX12_findCosts 160 = .ok (.istore 6, 2) := by decide +kernel
theorem dX12_findCosts_162 : decode cX12_findCosts 162 = .ok (.iload 6, 2) := by decide +kernel
theorem dX12_findCosts_164 : decode cX12_findCosts 164 = .ok (.ldc_w 371, 3) := by decide +kernel
theorem dX12_findCosts_167 : decode cX12_findCosts 167 = .ok (.if_icmp .ge 39, 3) := by decide +kernel
theorem dX12_findCosts_170 : decode cX12_findCosts 170 = .ok (.iload 4, 2) := by decide +kernel
theorem dX12_findCosts_172 : decode cX12_findCosts 172 = .ok (.iload 6, 2) := by decide +kernel
theorem dX12_findCosts_174 : decode cX12_findCosts 174 = .ok (.aload_n 0, 1) := by decide +kernel
theorem dX12_findCosts_175 : decode cX12_findCosts 175 = .ok (.getfield 69, 3) := by decide +kernel
theorem dX12_findCosts_178 : decode cX12_findCosts 178 = .ok (.bipush 64, 2) := by decide +kernel
theorem dX12_findCosts_180 : decode cX12_findCosts 180 = .ok (.iload_n 2, 1) := by decide +kernel
theorem dX12_findCosts_181 : decode cX12_findCosts 181 = .ok (.aload_n 0, 1) := by decide +kernel
theorem dX12_findCosts_182 : decode cX12_findCosts 182 = .ok (.iload 5, 2) := by decide +kernel
theorem dX12_findCosts_184 : decode cX12_findCosts 184 = .ok (.invokevirtual 295, 3) := by decide +kernel
theorem dX12_findCosts_187 : decode cX12_findCosts 187 = .ok (.iadd, 1) := by decide +kernel
theorem dX12_findCosts_188 : decode cX12_findCosts 188 = .ok (.imul, 1) := by decide +kernel
theorem dX12_findCosts_189 : decode cX12_findCosts 189 = .ok (.iload_n 3, 1) := by decide +kernel
theorem dX12_findCosts_190 : decode cX12_findCosts 190 = .ok (.iconst 1, 1) := by decide +kernel
theorem dX12_findCosts_191 : decode cX12_findCosts 191 = .ok (.iload 5, 2) := by decide +kernel
theorem dX12_findCosts_193 : decode cX12_findCosts 193 = .ok (.ishl, 1) := by decide +kernel
theorem dX12_findCosts_194 : decode cX12_findCosts 194 = .ok (.iconst (-1), 1) := by decide +kernel
theorem dX12_findCosts_195 : decode cX12_findCosts 195 = .ok (.ixor, 1) := by decide +kernel
theorem dX12_findCosts_196 : decode cX12_findCosts 196 = .ok (.iand, 1) := by decide +kernel
theorem dX12_findCosts_197 : decode cX12_findCosts 197 = .ok (.iadd, 1) := by decide +kernel
theorem dX12_findCosts_198 : decode cX12_findCosts 198 = .ok (.iaload, 1) := by decide +kernel
theorem dX12_findCosts_199 : decode cX12_findCosts 199 = .ok (.iadd, 1) := by decide +kernel
theorem dX12_findCosts_200 : decode cX12_findCosts 200 = .ok (.invokestatic 375, 3) := by decide +kernel
theorem dX12_findCosts_203 : decode cX12_findCosts 203 = .ok (.goto 5, 3) := by decide +kernel
theorem dX12_findCosts_206 : decode cX12_findCosts 206 = .ok (.iload 4, 2) := by decide +kernel
theorem dX12_findCosts_208 : decode cX12_findCosts 208 = .ok (.istore 4, 2) := by decide +kernel
theorem dX12_findCosts_210 : decode cX12_findCosts 210 = .ok (.iinc 5 1, 3) := by decide +kernel
theorem dX12_findCosts_213 : decode cX12_findCosts 213 = .ok (.goto (-97), 3) := by decide +kernel
theorem dX12_findCosts_216 : decode cX12_findCosts 216 = .ok (.aload_n 0, 1) := by decide +kernel
theorem dX12_findCosts_217 : decode cX12_findCosts 217 = .ok (.getfield 69, 3) := by decide +kernel
theorem dX12_findCosts_220 : decode cX12_findCosts 220 = .ok (.bipush 64, 2) := by decide +kernel
theorem dX12_findCosts_222 : decode cX12_findCosts 222 = .ok (.iload_n 2, 1) := by decide +kernel
theorem dX12_findCosts_223 : decode cX12_findCosts 223 = .ok (.imul, 1) := by decide +kernel
theorem dX12_findCosts_224 : decode cX12_findCosts 224 = .ok (.iload_n 3, 1) := by decide +kernel
theorem dX12_findCosts_225 : decode cX12_findCosts 225 = .ok (.iadd, 1) := by decide +kernel
theorem dX12_findCosts_226 : decode cX12_findCosts 226 = .ok (.iload 4, 2) := by decide +kernel
theorem dX12_findCosts_228 : decode cX12_findCosts 228 = .ok (.ldc_w 371, 3) := by decide +kernel
theorem dX12_findCosts_231 : decode cX12_findCosts 231 = .ok (.invokestatic 375, 3) := by decide +kernel
theorem dX12_findCosts_234 : decode cX12_findCosts 234 = .ok (.iastore, 1) := by decide +kernel
theorem dX12_findCosts_235 : decode cX12_findCosts 235 = .ok (.iinc 3 1, 3) := by decide +kernel
theorem dX12_findCosts_238 : decode cX12_findCosts 238 = .ok (.goto (-172), 3) := by decide +kernel
theorem dX12_findCosts_241 : decode cX12_findCosts 241 = .ok (.iinc 2 (-1), 3) := by decide +kernel
theorem dX12_findCosts_244 : decode cX12_findCosts 244 = .ok (.goto (-184), 3) := by decide +kernel
theorem dX12_findCosts_247 : decode cX12_findCosts 247 = .ok (.return_, 1) := by decide +kernel
theorem dX12_corner_0 : decode cX12_corner 0 = .ok (.aload_n 0, 1) := by decide +kernel
theorem dX12_corner_1 : decode cX12_corner 1 = .ok (.iconst 0, 1) := by decide +kernel
theorem dX12_corner_2 : decode cX12_corner 2 = .ok (.putfield 100, 3) := by decide +kernel
theorem dX12_corner_5 : decode cX12_corner 5 = .ok (.aload_n 0, 1) := by decide +kernel
theorem dX12_corner_6 : decode cX12_corner 6 = .ok (.iload_n 1, 1) := by decide +kernel
theorem dX12_corner_7 : decode cX12_corner 7 = .ok (.invokevirtual 298, 3) := by decide +kernel
theorem dX12_corner_10 : decode cX12_corner 10 = .ok (.ifCond .eq 11, 3) := by decide +kernel
theorem dX12_corner_13 : decode cX12_corner 13 = .ok (.aload_n 0, 1) := by decide +kernel
theorem dX12_corner_14 : decode cX12_corner 14 = .ok (.iload_n 2, 1) := by decide +kernel
theorem dX12_corner_15 : decode cX12_corner 15 = .ok (.invokevirtual 316, 3) := by decide +kernel
theorem dX12_corner_18 : decode cX12_corner 18 = .ok (.ifCond .ne 5, 3) := by decide +kernel
theorem dX12_corner_21 : decode cX12_corner 21 = .ok (.iconst (-1), 1) := by decide +kernel
theorem dX12_corner_22 : decode cX12_corner 22 = .ok (.ireturn, 1) := by decide +kernel
theorem dX12_corner_23 : decode cX12_corner 23 = .ok (.aload_n 0, 1) := by decide +kernel
theorem dX12_corner_24 : decode cX12_corner 24 = .ok (.aload_n 0, 1) := by decide +kernel
theorem dX12_corner_25 : decode cX12_corner 25 = .ok (.iload_n 2, 1) := by decide +kernel
theorem dX12_corner_26 : decode cX12_corner 26 = .ok (.invokevirtual 430, 3) := by decide +kernel
theorem dX12_corner_29 : decode cX12_corner 29 = .ok (.aload_n 0, 1) := by decide +kernel
theorem dX12_corner_30 : decode cX12_corner 30 = .ok (.invokevirtual 434, 3) := by decide +kernel
theorem dX12_corner_33 : decode cX12_corner 33 = .ok (.invokevirtual 438, 3) := by decide +kernel
theorem dX12_corner_36 : decode cX12_corner 36 = .ok (.aload_n 0, 1) := by decide +kernel
theorem dX12_corner_37 : decode cX12_corner 37 = .ok (.aload_n 0, 1) := by decide +kernel
theorem dX12_corner_38 : decode cX12_corner 38 = .ok (.invokevirtual 434, 3) := by decide +kernel
theorem dX12_corner_41 : decode cX12_corner 41 = .ok (.aload_n 0, 1) := by decide +kernel
theorem dX12_corner_42 : decode cX12_corner 42 = .ok (.iload_n 2, 1) := by decide +kernel
theorem dX12_corner_43 : decode cX12_corner 43 = .ok (.invokevirtual 430, 3) := by decide +kernel
theorem dX12_corner_46 : decode cX12_corner 46 = .ok (.ldc2_w 419, 3) := by decide +kernel
theorem dX12_corner_49 : decode cX12_corner 49 = .ok (.lxor, 1) := by decide +kernel
theorem dX12_corner_50 : decode cX12_corner 50 = .ok (.land, 1) := by decide +kernel
theorem dX12_corner_51 : decode cX12_corner 51 = .ok (.iload_n 3, 1) := by decide +kernel
theorem dX12_corner_52 : decode cX12_corner 52 = .ok (.invokevirtual 442, 3) := by decide +kernel
theorem dX12_corner_55 : decode cX12_corner 55 = .ok (.ireturn, 1) := by decide +kernel
theorem dX12_swap_0 : decode cX12_swap 0 = .ok (.aload_n 0, 1) := by decide +kernel
theorem dX12_swap_1 : decode cX12_swap 1 = .ok (.iconst 0, 1) := by decide +kernel
theorem dX12_swap_2 : decode cX12_swap 2 = .ok (.putfield 100, 3) := by decide +kernel
theorem dX12_swap_5 : decode cX12_swap 5 = .ok (.aload_n 0, 1) := by decide +kernel
theorem dX12_swap_6 : decode cX12_swap 6 = .ok (.iload_n 1, 1) := by decide +kernel
theorem dX12_swap_7 : decode cX12_swap 7 = .ok (.invokevirtual 510, 3) := by decide +kernel
theorem dX12_swap_10 : decode cX12_swap 10 = .ok (.ifCond .ne 7, 3) := by decide +kernel
theorem dX12_swap_13 : decode cX12_swap 13 = .ok (.sipush (-1000), 3) := by decide +kernel
theorem dX12_swap_16 : decode cX12_swap 16 = .ok (.ireturn, 1) := by decide +kernel
theorem dX12_swap_17 : decode cX12_swap 17 = .ok (.iload_n 2, 1) := by decide +kernel
theorem dX12_swap_18 : decode cX12_swap 18 = .ok (.bipush 10, 2) := by decide +kernel
theorem dX12_swap_20 : decode cX12_swap 20 = .ok (.irem, 1) := by decide +kernel
theorem dX12_swap_21 : decode cX12_swap 21 = .ok (.istore_n 3, 1) := by decide +kernel
theorem dX12_swap_22 : decode cX12_swap 22 = .ok (.iload_n 2, 1) := by decide +kernel
theorem dX12_swap_23 : decode cX12_swap 23 = .ok (.bipush 10, 2) := by decide +kernel
theorem dX12_swap_25 : decode cX12_swap 25 = .ok (.bipush 29, 2) := by decide +kernel
theorem dX12_swap_27 : decode cX12_swap 27 = .ok (.invokestatic 112, 3) := by decide +kernel
theorem dX12_swap_30 : decode cX12_swap 30 = .ok (.ifCond .eq 39, 3) := by decide +kernel
theorem dX12_swap_33 : decode cX12_swap 33 = .ok (.iload_n 3, 1) := by decide +kernel
theorem dX12_swap_34 : decode cX12_swap 34 = .ok (.aload_n 0, 1) := by decide +kernel
theorem dX12_swap_35 : decode cX12_swap 35 = .ok (.getfield 492, 3) := by decide +kernel
theorem dX12_swap_38 : decode cX12_swap 38 = .ok (.if_icmp .lt 9, 3) := by decide +kernel
theorem dX12_swap_41 : decode cX12_swap 41 = .ok (.sipush (-1000), 3) := by decide +kernel
theorem dX12_swap_44 : decode cX12_swap 44 = .ok (.goto 24, 3) := by decide +kernel
theorem dX12_swap_47 : decode cX12_swap 47 = .ok (.iload_n 2, 1) := by decide +kernel
theorem dX12_swap_48 : decode cX12_swap 48 = .ok (.bipush 20, 2) := by decide +kernel
theorem dX12_swap_50 : decode cX12_swap 50 = .ok (.if_icmp .ge 12, 3) := by decide +kernel
theorem dX12_swap_53 : decode cX12_swap 53 = .ok (.aload_n 0, 1) := by decide +kernel
theorem dX12_swap_54 : decode cX12_swap 54 = .ok (.getfield 88, 3) := by decide +kernel
theorem dX12_swap_57 : decode cX12_swap 57 = .ok (.iload_n 3, 1) := by decide +kernel
theorem dX12_swap_58 : decode cX12_swap 58 = .ok (.iaload, 1) := by decide +kernel
theorem dX12_swap_59 : decode cX12_swap 59 = .ok (.goto 9, 3) := by decide +kernel
theorem dX12_swap_62 : decode cX12_swap 62 = .ok (.aload_n 0, 1) := by decide +kernel
theorem dX12_swap_63 : decode cX12_swap 63 = .ok (.getfield 91, 3) := by decide +kernel
theorem dX12_swap_66 : decode cX12_swap 66 = .ok (.iload_n 3, 1) := by decide +kernel
theorem dX12_swap_67 : decode cX12_swap 67 = .ok (.iaload, 1) := by decide +kernel
theorem dX12_swap_68 : decode cX12_swap 68 = .ok (.ireturn, 1) := by decide +kernel
theorem dX12_swap_69 : decode cX12_swap 69 = .ok (.iload_n 2, 1) := by decide +kernel
theorem dX12_swap_70 : decode cX12_swap 70 = .ok (.bipush 100, 2) := by decide +kernel
theorem dX12_swap_72 : decode cX12_swap 72 = .ok (.sipush 135, 3) := by decide +kernel
theorem dX12_swap_75 : decode cX12_swap 75 = .ok (.invokestatic 112, 3) := by decide +kernel
theorem dX12_swap_78 : decode cX12_swap 78 = .ok (.ifCond .eq 54, 3) := by decide +kernel
theorem dX12_swap_81 : decode cX12_swap 81 = .ok (.iload_n 2, 1) := by decide +kernel
theorem dX12_swap_82 : decode cX12_swap 82 = .ok (.bipush 100, 2) := by decide +kernel
theorem dX12_swap_84 : decode cX12_swap 84 = .ok (.isub, 1) := by decide +kernel
theorem dX12_swap_85 : decode cX12_swap 85 = .ok (.bipush 6, 2) := by decide +kernel
theorem dX12_swap_87 : decode cX12_swap 87 = .ok (.idiv, 1) := by decide +kernel
theorem dX12_swap_88 : decode cX12_swap 88 = .ok (.istore 4, 2) := by decide +kernel
theorem dX12_swap_90 : decode cX12_swap 90 = .ok (.iload_n 2, 1) := by decide +kernel
theorem dX12_swap_91 : decode cX12_swap 91 = .ok (.bipush 100, 2) := by decide +kernel
theorem dX12_swap_93 : decode cX12_swap 93 = .ok (.isub, 1) := by decide +kernel
theorem dX12_swap_94 : decode cX12_swap 94 = .ok (.bipush 6, 2) := by decide +kernel
theorem dX12_swap_96 : decode cX12_swap 96 = .ok (.irem, 1) := by decide +kernel
theorem dX12_swap_97 : decode cX12_swap 97 = .ok (.istore 5, 2) := by decide +kernel
theorem dX12_swap_99 : decode cX12_swap 99 = .ok (.iload 4, 2) := by decide +kernel
theorem dX12_swap_101 : decode cX12_swap 101 = .ok (.aload_n 0, 1) := by decide +kernel
theorem dX12_swap_102 : decode cX12_swap 102 = .ok (.getfield 492, 3) := by decide +kernel
theorem dX12_swap_105 : decode cX12_swap 105 = .ok (.if_icmp .ge 23, 3) := by decide +kernel
theorem dX12_swap_108 : decode cX12_swap 108 = .ok (.iload 5, 2) := by decide +kernel
theorem dX12_swap_110 : decode cX12_swap 110 = .ok (.aload_n 0, 1) := by decide +kernel
theorem dX12_swap_111 : decode cX12_swap 111 = .ok (.getfield 492, 3) := by decide +kernel
theorem dX12_swap_114 : decode cX12_swap 114 = .ok (.if_icmp .ge 14, 3) := by decide +kernel
theorem dX12_swap_117 : decode cX12_swap 117 = .ok (.aload_n 0, 1) := by decide +kernel
theorem dX12_swap_118 : decode cX12_swap 118 = .ok (.iload 4, 2) := by decide +kernel
theorem dX12_swap_120 : decode cX12_swap 120 = .ok (.iload 5, 2) := by decide +kernel
theorem dX12_swap_122 : decode cX12_swap 122 = .ok (.invokevirtual 501, 3) := by decide +kernel
theorem dX12_swap_125 : decode cX12_swap 125 = .ok (.goto 6, 3) := by decide +kernel
theorem dX12_swap_128 : decode cX12_swap 128 = .ok (.sipush (-1000), 3) := by decide +kernel
theorem dX12_swap_131 : decode cX12_swap 131 = .ok (.ireturn, 1) := by decide +kernel
theorem dX12_swap_132 : decode cX12_swap 132 = .ok (.iload_n 2, 1) := by decide +kernel
theorem dX12_swap_133 : decode cX12_swap 133 = .ok (.ifCond .ne 10, 3) := by decide +kernel
theorem dX12_swap_136 : decode cX12_swap 136 = .ok (.aload_n 0, 1) := by decide +kernel
theorem dX12_swap_137 : decode cX12_swap 137 = .ok (.getfield 492, 3) := by decide +kernel
theorem dX12_swap_140 : decode cX12_swap 140 = .ok (.goto 30, 3) := by decide +kernel
theorem dX12_swap_143 : decode cX12_swap 143 = .ok (.iload_n 2, 1) := by decide +kernel
theorem dX12_swap_144 : decode cX12_swap 144 = .ok (.iconst 1, 1) := by decide +kernel
theorem dX12_swap_145 : decode cX12_swap 145 = .ok (.if_icmp .ne 10, 3) := by decide +kernel
theorem dX12_swap_148 : decode cX12_swap 148 = .ok (.aload_n 0, 1) := by decide +kernel
theorem dX12_swap_149 : decode cX12_swap 149 = .ok (.invokevirtual 513, 3) := by decide +kernel
theorem dX12_swap_152 : decode cX12_swap 152 = .ok (.goto 18, 3) := by decide +kernel
theorem dX12_swap_155 : decode cX12_swap 155 = .ok (.iload_n 2, 1) := by decide +kernel
theorem dX12_swap_156 : decode cX12_swap 156 = .ok (.iconst 2, 1) := by decide +kernel
theorem dX12_swap_157 : decode cX12_swap 157 = .ok (.if_icmp .ne 10, 3) := by decide +kernel
theorem dX12_swap_160 : decode cX12_swap 160 = .ok (.aload_n 0, 1) := by decide +kernel
theorem dX12_swap_161 : decode cX12_swap 161 = .ok (.getfield 495, 3) := by decide +kernel
theorem dX12_swap_164 : decode cX12_swap 164 = .ok (.goto 6, 3) := by decide +kernel
theorem dX12_swap_167 : decode cX12_swap 167 = .ok (.sipush (-1000), 3) := by decide +kernel
theorem dX12_swap_170 : decode cX12_swap 170 = .ok (.ireturn, 1) := by decide +kernel
theorem dX12_robbed_0 : decode cX12_robbed 0 = .ok (.aload_n 0, 1) := by decide +kernel
theorem dX12_robbed_1 : decode cX12_robbed 1 = .ok (.iconst 0, 1) := by decide +kernel
theorem dX12_robbed_2 : decode cX12_robbed 2 = .ok (.putfield 100, 3) := by decide +kernel
theorem dX12_robbed_5 : decode cX12_robbed 5 = .ok (.aload_n 0, 1) := by decide +kernel
theorem dX12_robbed_6 : decode cX12_robbed 6 = .ok (.iload_n 1, 1) := by decide +kernel
theorem dX12_robbed_7 : decode cX12_robbed 7 = .ok (.invokevirtual 298, 3) := by decide +kernel
theorem dX12_robbed_10 : decode cX12_robbed 10 = .ok (.ifCond .eq 11, 3) := by decide +kernel
theorem dX12_robbed_13 : decode cX12_robbed 13 = .ok (.aload_n 0, 1) := by decide +kernel
theorem dX12_robbed_14 : decode cX12_robbed 14 = .ok (.iload_n 2, 1) := by decide +kernel
theorem dX12_robbed_15 : decode cX12_robbed 15 = .ok (.invokevirtual 316, 3) := by decide +kernel
theorem dX12_robbed_18 : decode cX12_robbed 18 = .ok (.ifCond .ne 5, 3) := by decide +kernel
theorem dX12_robbed_21 : decode cX12_robbed 21 = .ok (.iconst (-1), 1) := by decide +kernel
theorem dX12_robbed_22 : decode cX12_robbed 22 = .ok (.ireturn, 1) := by decide +kernel
theorem dX12_robbed_23 : decode cX12_robbed 23 = .ok (.aload_n 0, 1) := by decide +kernel
theorem dX12_robbed_24 : decode cX12_robbed 24 = .ok (.lconst 0, 1) := by decide +kernel
theorem dX12_robbed_25 : decode cX12_robbed 25 = .ok (.aload_n 0, 1) := by decide +kernel
theorem dX12_robbed_26 : decode cX12_robbed 26 = .ok (.iload_n 2, 1) := by decide +kernel
theorem dX12_robbed_27 : decode cX12_robbed 27 = .ok (.invokevirtual 430, 3) := by decide +kernel
theorem dX12_robbed_30 : decode cX12_robbed 30 = .ok (.invokevirtual 438, 3) := by decide +kernel
theorem dX12_robbed_33 : decode cX12_robbed 33 = .ok (.aload_n 0, 1) := by decide +kernel
theorem dX12_robbed_34 : decode cX12_robbed 34 = .ok (.aload_n 0, 1) := by decide +kernel
theorem dX12_robbed_35 : decode cX12_robbed 35 = .ok (.iload_n 2, 1) := by decide +kernel
theorem dX12_robbed_36 : decode cX12_robbed 36 = .ok (.invokevirtual 430, 3) := by decide +kernel
theorem dX12_robbed_39 : decode cX12_robbed 39 = .ok (.iload_n 3, 1) := by decide +kernel
theorem dX12_robbed_40 : decode cX12_robbed 40 = .ok (.invokevirtual 442, 3) := by decide +kernel
theorem dX12_robbed_43 : decode cX12_robbed 43 = .ok (.ireturn, 1) := by decide +kernel
theorem dX12_shared_0 : decode cX12_shared 0 = .ok (.aload_n 0, 1) := by decide +kernel
theorem dX12_shared_1 : decode cX12_shared 1 = .ok (.iconst 0, 1) := by decide +kernel
theorem dX12_shared_2 : decode cX12_shared 2 = .ok (.putfield 100, 3) := by decide +kernel
theorem dX12_shared_5 : decode cX12_shared 5 = .ok (.aload_n 0, 1) := by decide +kernel
theorem dX12_shared_6 : decode cX12_shared 6 = .ok (.iload_n 1, 1) := by decide +kernel
theorem dX12_shared_7 : decode cX12_shared 7 = .ok (.invokevirtual 298, 3) := by decide +kernel
theorem dX12_shared_10 : decode cX12_shared 10 = .ok (.ifCond .eq 24, 3) := by decide +kernel
theorem dX12_shared_13 : decode cX12_shared 13 = .ok (.aload_n 0, 1) := by decide +kernel
theorem dX12_shared_14 : decode cX12_shared 14 = .ok (.iload_n 2, 1) := by decide +kernel
theorem dX12_shared_15 : decode cX12_shared 15 = .ok (.invokevirtual 316, 3) := by decide +kernel
theorem dX12_shared_18 : decode cX12_shared 18 = .ok (.ifCond .eq 16, 3) := by decide +kernel
theorem dX12_shared_21 : decode cX12_shared 21 = .ok (.aload_n 0, 1) := by decide +kernel
theorem dX12_shared_22 : decode cX12_shared 22 = .ok (.iload_n 3, 1) := by decide +kernel
theorem dX12_shared_23 : decode cX12_shared 23 = .ok (.invokevirtual 316, 3) := by decide +kernel
theorem dX12_shared_26 : decode cX12_shared 26 = .ok (.ifCond .eq 8, 3) := by decide +kernel
theorem dX12_shared_29 : decode cX12_shared 29 = .ok (.iload_n 2, 1) := by decide +kernel
theorem dX12_shared_30 : decode cX12_shared 30 = .ok (.iload_n 3, 1) := by decide +kernel
theorem dX12_shared_31 : decode cX12_shared 31 = .ok (.if_icmp .ne 5, 3) := by decide +kernel
theorem dX12_shared_34 : decode cX12_shared 34 = .ok (.iconst (-1), 1) := by decide +kernel
theorem dX12_shared_35 : decode cX12_shared 35 = .ok (.ireturn, 1) := by decide +kernel
theorem dX12_shared_36 : decode cX12_shared 36 = .ok (.iconst 0, 1) := by decide +kernel
theorem dX12_shared_37 : decode cX12_shared 37 = .ok (.istore 4, 2) := by decide +kernel
theorem dX12_shared_39 : decode cX12_shared 39 = .ok (.iconst 0, 1) := by decide +kernel
theorem dX12_shared_40 : decode cX12_shared 40 = .ok (.istore 5, 2) := by decide +kernel
theorem dX12_shared_42 : decode cX12_shared 42 = .ok (.iload 5, 2) := by decide +kernel
theorem dX12_shared_44 : decode cX12_shared 44 = .ok (.aload_n 0, 1) := by decide +kernel
theorem dX12_shared_45 : decode cX12_shared 45 = .ok (.getfield 289, 3) := by decide +kernel
theorem dX12_shared_48 : decode cX12_shared 48 = .ok (.if_icmp .ge 82, 3) := by decide +kernel
theorem dX12_shared_51 : decode cX12_shared 51 = .ok (.aload_n 0, 1) := by decide +kernel
theorem dX12_shared_52 : decode cX12_shared 52 = .ok (.iload 5, 2) := by decide +kernel
theorem dX12_shared_54 : decode cX12_shared 54 = .ok (.aload_n 0, 1) := by decide +kernel
theorem dX12_shared_55 : decode cX12_shared 55 = .ok (.iload_n 2, 1) := by decide +kernel
theorem dX12_shared_56 : decode cX12_shared 56 = .ok (.invokevirtual 430, 3) := by decide +kernel
theorem dX12_shared_59 : decode cX12_shared 59 = .ok (.aload_n 0, 1) := by decide +kernel
theorem dX12_shared_60 : decode cX12_shared 60 = .ok (.iload_n 3, 1) := by decide +kernel
theorem dX12_shared_61 : decode cX12_shared 61 = .ok (.invokevirtual 430, 3) := by decide +kernel
theorem dX12_shared_64 : decode cX12_shared 64 = .ok (.lor, 1) := by decide +kernel
theorem dX12_shared_65 : decode cX12_shared 65 = .ok (.invokevirtual 526, 3) := by decide +kernel
theorem dX12_shared_68 : decode cX12_shared 68 = .ok (.ifCond .eq 35, 3) := by decide +kernel
theorem dX12_shared_71 : decode cX12_shared 71 = .ok (.aload_n 0, 1) := by decide +kernel
theorem dX12_shared_72 : decode cX12_shared 72 = .ok (.iload 5, 2) := by decide +kernel
theorem dX12_shared_74 : decode cX12_shared 74 = .ok (.aload_n 0, 1) := by decide +kernel
theorem dX12_shared_75 : decode cX12_shared 75 = .ok (.iload_n 2, 1) := by decide +kernel
theorem dX12_shared_76 : decode cX12_shared 76 = .ok (.invokevirtual 430, 3) := by decide +kernel
theorem dX12_shared_79 : decode cX12_shared 79 = .ok (.invokevirtual 526, 3) := by decide +kernel
theorem dX12_shared_82 : decode cX12_shared 82 = .ok (.ifCond .ne 21, 3) := by decide +kernel
theorem dX12_shared_85 : decode cX12_shared 85 = .ok (.aload_n 0, 1) := by decide +kernel
theorem dX12_shared_86 : decode cX12_shared 86 = .ok (.iload 5, 2) := by decide +kernel
theorem dX12_shared_88 : decode cX12_shared 88 = .ok (.aload_n 0, 1) := by decide +kernel
theorem dX12_shared_89 : decode cX12_shared 89 = .ok (.iload_n 3, 1) := by decide +kernel
theorem dX12_shared_90 : decode cX12_shared 90 = .ok (.invokevirtual 430, 3) := by decide +kernel
theorem dX12_shared_93 : decode cX12_shared 93 = .ok (.invokevirtual 526, 3) := by decide +kernel
theorem dX12_shared_96 : decode cX12_shared 96 = .ok (.ifCond .ne 7, 3) := by decide +kernel
theorem dX12_shared_99 : decode cX12_shared 99 = .ok (.iconst 1, 1) := by decide +kernel
theorem dX12_shared_100 : decode cX12_shared 100 = .ok (.goto 4, 3) := by decide +kernel
theorem dX12_shared_103 : decode cX12_shared 103 = .ok (.iconst 0, 1) := by decide +kernel
theorem dX12_shared_104 : decode cX12_shared 104 = .ok (.istore 6, 2) := by decide +kernel
theorem dX12_shared_106 : decode cX12_shared 106 = .ok (.iload 4, 2) := by decide +kernel
theorem dX12_shared_108 : decode cX12_shared 108 = .ok (.iload 6, 2) := by decide +kernel
theorem dX12_shared_110 : decode cX12_shared 110 = .ok (.ifCond .eq 10, 3) := by decide +kernel
theorem dX12_shared_113 : decode cX12_shared 113 = .ok (.iconst 1, 1) := by decide +kernel
theorem dX12_shared_114 : decode cX12_shared 114 = .ok (.iload 5, 2) := by decide +kernel
theorem dX12_shared_116 : decode cX12_shared 116 = .ok (.ishl, 1) := by decide +kernel
theorem dX12_shared_117 : decode cX12_shared 117 = .ok (.goto 4, 3) := by decide +kernel
theorem dX12_shared_120 : decode cX12_shared 120 = .ok (.iconst 0, 1) := by decide +kernel
theorem dX12_shared_121 : decode cX12_shared 121 = .ok (.ior, 1) := by decide +kernel
theorem dX12_shared_122 : decode cX12_shared 122 = .ok (.istore 4, 2) := by decide +kernel
theorem dX12_shared_124 : decode cX12_shared 124 = .ok (.iinc 5 1, 3) := by decide +kernel
theorem dX12_shared_127 : decode cX12_shared 127 = .ok (.goto (-85), 3) := by decide +kernel
theorem dX12_shared_130 : decode cX12_shared 130 = .ok (.iload 4, 2) := by decide +kernel
theorem dX12_shared_132 : decode cX12_shared 132 = .ok (.ireturn, 1) := by decide +kernel
theorem dX12_wanted_0 : decode cX12_wanted 0 = .ok (.aload_n 0, 1) := by decide +kernel
theorem dX12_wanted_1 : decode cX12_wanted 1 = .ok (.iconst 0, 1) := by decide +kernel
theorem dX12_wanted_2 : decode cX12_wanted 2 = .ok (.putfield 100, 3) := by decide +kernel
theorem dX12_wanted_5 : decode cX12_wanted 5 = .ok (.aload_n 0, 1) := by decide +kernel
theorem dX12_wanted_6 : decode cX12_wanted 6 = .ok (.iload_n 1, 1) := by decide +kernel
theorem dX12_wanted_7 : decode cX12_wanted 7 = .ok (.invokevirtual 298, 3) := by decide +kernel
theorem dX12_wanted_10 : decode cX12_wanted 10 = .ok (.ifCond .ne 6, 3) := by decide +kernel
theorem dX12_wanted_13 : decode cX12_wanted 13 = .ok (.bipush (-2), 2) := by decide +kernel
theorem dX12_wanted_15 : decode cX12_wanted 15 = .ok (.ireturn, 1) := by decide +kernel
theorem dX12_wanted_16 : decode cX12_wanted 16 = .ok (.aload_n 0, 1) := by decide +kernel
theorem dX12_wanted_17 : decode cX12_wanted 17 = .ok (.lconst 0, 1) := by decide +kernel
theorem dX12_wanted_18 : decode cX12_wanted 18 = .ok (.aload_n 0, 1) := by decide +kernel
theorem dX12_wanted_19 : decode cX12_wanted 19 = .ok (.invokevirtual 434, 3) := by decide +kernel
theorem dX12_wanted_22 : decode cX12_wanted 22 = .ok (.invokevirtual 438, 3) := by decide +kernel
theorem dX12_wanted_25 : decode cX12_wanted 25 = .ok (.iconst (-1), 1) := by decide +kernel
theorem dX12_wanted_26 : decode cX12_wanted 26 = .ok (.istore_n 3, 1) := by decide +kernel
theorem dX12_wanted_27 : decode cX12_wanted 27 = .ok (.iconst 0, 1) := by decide +kernel
theorem dX12_wanted_28 : decode cX12_wanted 28 = .ok (.istore 4, 2) := by decide +kernel
theorem dX12_wanted_30 : decode cX12_wanted 30 = .ok (.iconst 0, 1) := by decide +kernel
theorem dX12_wanted_31 : decode cX12_wanted 31 = .ok (.istore 5, 2) := by decide +kernel
theorem dX12_wanted_33 : decode cX12_wanted 33 = .ok (.iload 5, 2) := by decide +kernel
theorem dX12_wanted_35 : decode cX12_wanted 35 = .ok (.aload_n 0, 1) := by decide +kernel
theorem dX12_wanted_36 : decode cX12_wanted 36 = .ok (.getfield 283, 3) := by decide +kernel
theorem dX12_wanted_39 : decode cX12_wanted 39 = .ok (.if_icmp .ge 78, 3) := by decide +kernel
theorem dX12_wanted_42 : decode cX12_wanted 42 = .ok (.iconst 0, 1) := by decide +kernel
theorem dX12_wanted_43 : decode cX12_wanted 43 = .ok (.istore 6, 2) := by decide +kernel
theorem dX12_wanted_45 : decode cX12_wanted 45 = .ok (.iconst 0, 1) := by decide +kernel
theorem dX12_wanted_46 : decode cX12_wanted 46 = .ok (.istore 7, 2) := by decide +kernel
theorem dX12_wanted_48 : decode cX12_wanted 48 = .ok (.iload 7, 2) := by decide +kernel
theorem dX12_wanted_50 : decode cX12_wanted 50 = .ok (.aload_n 0, 1) := by decide +kernel
theorem dX12_wanted_51 : decode cX12_wanted 51 = .ok (.getfield 412, 3) := by decide +kernel
theorem dX12_wanted_54 : decode cX12_wanted 54 = .ok (.if_icmp .ge 34, 3) := by decide +kernel
theorem dX12_wanted_57 : decode cX12_wanted 57 = .ok (.iload 6, 2) := by decide +kernel
theorem dX12_wanted_59 : decode cX12_wanted 59 = .ok (.aload_n 0, 1) := by decide +kernel
theorem dX12_wanted_60 : decode cX12_wanted 60 = .ok (.getfield 78, 3) := by decide +kernel
theorem dX12_wanted_63 : decode cX12_wanted 63 = .ok (.iload 7, 2) := by decide +kernel
theorem dX12_wanted_65 : decode cX12_wanted 65 = .ok (.laload, 1) := by decide +kernel
theorem dX12_wanted_66 : decode cX12_wanted 66 = .ok (.iload 5, 2) := by decide +kernel
theorem dX12_wanted_68 : decode cX12_wanted 68 = .ok (.invokestatic 424, 3) := by decide +kernel
theorem dX12_wanted_71 : decode cX12_wanted 71 = .ok (.ifCond .eq 7, 3) := by decide +kernel
theorem dX12_wanted_74 : decode cX12_wanted 74 = .ok (.iconst 1, 1) := by decide +kernel
theorem dX12_wanted_75 : decode cX12_wanted 75 = .ok (.goto 4, 3) := by decide +kernel
theorem dX12_wanted_78 : decode cX12_wanted 78 = .ok (.iconst 0, 1) := by decide +kernel
theorem dX12_wanted_79 : decode cX12_wanted 79 = .ok (.iadd, 1) := by decide +kernel
theorem dX12_wanted_80 : decode cX12_wanted 80 = .ok (.istore 6, 2) := by decide +kernel
theorem dX12_wanted_82 : decode cX12_wanted 82 = .ok (.iinc 7 1, 3) := by decide +kernel
theorem dX12_wanted_85 : decode cX12_wanted 85 = .ok (.goto (-37), 3) := by decide +kernel
theorem dX12_wanted_88 : decode cX12_wanted 88 = .ok (.iload 6, 2) := by decide +kernel
theorem dX12_wanted_90 : decode cX12_wanted 90 = .ok (.iload 4, 2) := by decide +kernel
theorem dX12_wanted_92 : decode cX12_wanted 92 = .ok (.if_icmp .le 8, 3) := by decide +kernel
theorem dX12_wanted_95 : decode cX12_wanted 95 = .ok (.iload 5, 2) := by decide +kernel
theorem dX12_wanted_97 : decode cX12_wanted 97 = .ok (.goto 4, 3) := by decide +kernel
theorem dX12_wanted_100 : decode cX12_wanted 100 = .ok (.iload_n 3, 1) := by decide +kernel
theorem dX12_wanted_101 : decode cX12_wanted 101 = .ok (.istore_n 3, 1) := by decide +kernel
theorem dX12_wanted_102 : decode cX12_wanted 102 = .ok (.iload 4, 2) := by decide +kernel
theorem dX12_wanted_104 : decode cX12_wanted 104 = .ok (.iload 6, 2) := by decide +kernel
theorem dX12_wanted_106 : decode cX12_wanted 106 = .ok (.invokestatic 173, 3) := by decide +kernel
theorem dX12_wanted_109 : decode cX12_wanted 109 = .ok (.istore 4, 2) := by decide +kernel
theorem dX12_wanted_111 : decode cX12_wanted 111 = .ok (.iinc 5 1, 3) := by decide +kernel
theorem dX12_wanted_114 : decode cX12_wanted 114 = .ok (.goto (-81), 3) := by decide +kernel
theorem dX12_wanted_117 : decode cX12_wanted 117 = .ok (.iload_n 2, 1) := by decide +kernel
theorem dX12_wanted_118 : decode cX12_wanted 118 = .ok (.ifCond .eq 8, 3) := by decide +kernel
theorem dX12_wanted_121 : decode cX12_wanted 121 = .ok (.iload 4, 2) := by decide +kernel
theorem dX12_wanted_123 : decode cX12_wanted 123 = .ok (.goto 4, 3) := by decide +kernel
theorem dX12_wanted_126 : decode cX12_wanted 126 = .ok (.iload_n 3, 1) := by decide +kernel
theorem dX12_wanted_127 : decode cX12_wanted 127 = .ok (.ireturn, 1) := by decide +kernel
theorem dX12_happy_0 : decode cX12_happy 0 = .ok (.aload_n 0, 1) := by decide +kernel
theorem dX12_happy_1 : decode cX12_happy 1 = .ok (.iconst 0, 1) := by decide +kernel
theorem dX12_happy_2 : decode cX12_happy 2 = .ok (.putfield 100, 3) := by decide +kernel
theorem dX12_happy_5 : decode cX12_happy 5 = .ok (.aload_n 0, 1) := by decide +kernel
theorem dX12_happy_6 : decode cX12_happy 6 = .ok (.iload_n 1, 1) := by decide +kernel
theorem dX12_happy_7 : decode cX12_happy 7 = .ok (.invokevirtual 510, 3) := by decide +kernel
theorem dX12_happy_10 : decode cX12_happy 10 = .ok (.ifCond .eq 12, 3) := by decide +kernel
theorem dX12_happy_13 : decode cX12_happy 13 = .ok (.iload_n 2, 1) := by decide +kernel
theorem dX12_happy_14 : decode cX12_happy 14 = .ok (.iconst 0, 1) := by decide +kernel
theorem dX12_happy_15 : decode cX12_happy 15 = .ok (.iconst 2, 1) := by decide +kernel
theorem dX12_happy_16 : decode cX12_happy 16 = .ok (.invokestatic 112, 3) := by decide +kernel
theorem dX12_happy_19 : decode cX12_happy 19 = .ok (.ifCond .ne 5, 3) := by decide +kernel
theorem dX12_happy_22 : decode cX12_happy 22 = .ok (.iconst (-1), 1) := by decide +kernel
theorem dX12_happy_23 : decode cX12_happy 23 = .ok (.ireturn, 1) := by decide +kernel
theorem dX12_happy_24 : decode cX12_happy 24 = .ok (.iconst 0, 1) := by decide +kernel
theorem dX12_happy_25 : decode cX12_happy 25 = .ok (.istore_n 3, 1) := by decide +kernel
theorem dX12_happy_26 : decode cX12_happy 26 = .ok (.iconst 0, 1) := by decide +kernel
theorem dX12_happy_27 : decode cX12_happy 27 = .ok (.istore 4, 2) := by decide +kernel
theorem dX12_happy_29 : decode cX12_happy 29 = .ok (.iload 4, 2) := by decide +kernel
theorem dX12_happy_31 : decode cX12_happy 31 = .ok (.bipush 36, 2) := by decide +kernel
theorem dX12_happy_33 : decode cX12_happy 33 = .ok (.if_icmp .ge 162, 3) := by decide +kernel
theorem dX12_happy_36 : decode cX12_happy 36 = .ok (.iload 4, 2) := by decide +kernel
theorem dX12_happy_38 : decode cX12_happy 38 = .ok (.bipush 6, 2) := by decide +kernel
theorem dX12_happy_40 : decode cX12_happy 40 = .ok (.idiv, 1) := by decide +kernel
theorem dX12_happy_41 : decode cX12_happy 41 = .ok (.istore 5, 2) := by decide +kernel
theorem dX12_happy_43 : decode cX12_happy 43 = .ok (.iload 4, 2) := by decide +kernel
theorem dX12_happy_45 : decode cX12_happy 45 = .ok (.bipush 6, 2) := by decide +kernel
theorem dX12_happy_47 : decode cX12_happy 47 = .ok (.irem, 1) := by decide +kernel
theorem dX12_happy_48 : decode cX12_happy 48 = .ok (.istore 6, 2) := by decide +kernel
theorem dX12_happy_50 : decode cX12_happy 50 = .ok (.iload 5, 2) := by decide +kernel
theorem dX12_happy_52 : decode cX12_happy 52 = .ok (.aload_n 0, 1) := by decide +kernel
theorem dX12_happy_53 : decode cX12_happy 53 = .ok (.getfield 492, 3) := by decide +kernel
theorem dX12_happy_56 : decode cX12_happy 56 = .ok (.if_icmp .ge 133, 3) := by decide +kernel
theorem dX12_happy_59 : decode cX12_happy 59 = .ok (.iload 6, 2) := by decide +kernel
theorem dX12_happy_61 : decode cX12_happy 61 = .ok (.aload_n 0, 1) := by decide +kernel
theorem dX12_happy_62 : decode cX12_happy 62 = .ok (.getfield 492, 3) := by decide +kernel
theorem dX12_happy_65 : decode cX12_happy 65 = .ok (.if_icmp .ge 124, 3) := by decide +kernel
theorem dX12_happy_68 : decode cX12_happy 68 = .ok (.iload 5, 2) := by decide +kernel
theorem dX12_happy_70 : decode cX12_happy 70 = .ok (.iload 6, 2) := by decide +kernel
theorem dX12_happy_72 : decode cX12_happy 72 = .ok (.if_icmp .eq 117, 3) := by decide +kernel
theorem dX12_happy_75 : decode cX12_happy 75 = .ok (.iload 5, 2) := by decide +kernel
theorem dX12_happy_77 : decode cX12_happy 77 = .ok (.iload 6, 2) := by decide +kernel
theorem dX12_happy_79 : decode cX12_happy 79 = .ok (.if_icmp .ge 45, 3) := by decide +kernel
theorem dX12_happy_82 : decode cX12_happy 82 = .ok (.aload_n 0, 1) := by decide +kernel
theorem dX12_happy_83 : decode cX12_happy 83 = .ok (.iload 5, 2) := by decide +kernel
theorem dX12_happy_85 : decode cX12_happy 85 = .ok (.iload 6, 2) := by decide +kernel
theorem dX12_happy_87 : decode cX12_happy 87 = .ok (.invokevirtual 501, 3) := by decide +kernel
theorem dX12_happy_90 : decode cX12_happy 90 = .ok (.aload_n 0, 1) := by decide +kernel
theorem dX12_happy_91 : decode cX12_happy 91 = .ok (.iload 5, 2) := by decide +kernel
theorem dX12_happy_93 : decode cX12_happy 93 = .ok (.iload 5, 2) := by decide +kernel
theorem dX12_happy_95 : decode cX12_happy 95 = .ok (.invokevirtual 501, 3) := by decide +kernel
theorem dX12_happy_98 : decode cX12_happy 98 = .ok (.if_icmp .le 26, 3) := by decide +kernel
theorem dX12_happy_101 : decode cX12_happy 101 = .ok (.aload_n 0, 1) := by decide +kernel
theorem dX12_happy_102 : decode cX12_happy 102 = .ok (.iload 6, 2) := by decide +kernel
theorem dX12_happy_104 : decode cX12_happy 104 = .ok (.iload 5, 2) := by decide +kernel
theorem dX12_happy_106 : decode cX12_happy 106 = .ok (.invokevirtual 501, 3) := by decide +kernel
theorem dX12_happy_109 : decode cX12_happy 109 = .ok (.aload_n 0, 1) := by decide +kernel
theorem dX12_happy_110 : decode cX12_happy 110 = .ok (.iload 6, 2) := by decide +kernel
theorem dX12_happy_112 : decode cX12_happy 112 = .ok (.iload 6, 2) := by decide +kernel
theorem dX12_happy_114 : decode cX12_happy 114 = .ok (.invokevirtual 501, 3) := by decide +kernel
theorem dX12_happy_117 : decode cX12_happy 117 = .ok (.if_icmp .le 7, 3) := by decide +kernel
theorem dX12_happy_120 : decode cX12_happy 120 = .ok (.iconst 1, 1) := by decide +kernel
theorem dX12_happy_121 : decode cX12_happy 121 = .ok (.goto 4, 3) := by decide +kernel
theorem dX12_happy_124 : decode cX12_happy 124 = .ok (.iconst 0, 1) := by decide +kernel
theorem dX12_happy_125 : decode cX12_happy 125 = .ok (.istore 7, 2) := by decide +kernel
theorem dX12_happy_127 : decode cX12_happy 127 = .ok (.aload_n 0, 1) := by decide +kernel
theorem dX12_happy_128 : decode cX12_happy 128 = .ok (.iload 5, 2) := by decide +kernel
theorem dX12_happy_130 : decode cX12_happy 130 = .ok (.aload_n 0, 1) := by decide +kernel
theorem dX12_happy_131 : decode cX12_happy 131 = .ok (.getfield 88, 3) := by decide +kernel
theorem dX12_happy_134 : decode cX12_happy 134 = .ok (.iload 6, 2) := by decide +kernel
theorem dX12_happy_136 : decode cX12_happy 136 = .ok (.iaload, 1) := by decide +kernel
theorem dX12_happy_137 : decode cX12_happy 137 = .ok (.invokevirtual 501, 3) := by decide +kernel
theorem dX12_happy_140 : decode cX12_happy 140 = .ok (.aload_n 0, 1) := by decide +kernel
theorem dX12_happy_141 : decode cX12_happy 141 = .ok (.iload 5, 2) := by decide +kernel
theorem dX12_happy_143 : decode cX12_happy 143 = .ok (.aload_n 0, 1) := by decide +kernel
theorem dX12_happy_144 : decode cX12_happy 144 = .ok (.getfield 88, 3) := by decide +kernel
theorem dX12_happy_147 : decode cX12_happy 147 = .ok (.iload 5, 2) := by decide +kernel
theorem dX12_happy_149 : decode cX12_happy 149 = .ok (.iaload, 1) := by decide +kernel
theorem dX12_happy_150 : decode cX12_happy 150 = .ok (.invokevirtual 501, 3) := by decide +kernel
theorem dX12_happy_153 : decode cX12_happy 153 = .ok (.if_icmp .le 7, 3) := by decide +kernel
theorem dX12_happy_156 : decode cX12_happy 156 = .ok (.iconst 1, 1) := by decide +kernel
theorem dX12_happy_157 : decode cX12_happy 157 = .ok (.goto 4, 3) := by decide +kernel
theorem dX12_happy_160 : decode cX12_happy 160 = .ok (.iconst 0, 1) := by decide +kernel
theorem dX12_happy_161 : decode cX12_happy 161 = .ok (.istore 8, 2) := by decide +kernel
theorem dX12_happy_163 : decode cX12_happy 163 = .ok (.iload_n 3, 1) := by decide +kernel
theorem dX12_happy_164 : decode cX12_happy 164 = .ok (.iload_n 2, 1) := by decide +kernel
theorem dX12_happy_165 : decode cX12_happy 165 = .ok (.iconst 1, 1) := by decide +kernel
theorem dX12_happy_166 : decode cX12_happy 166 = .ok (.if_icmp .ne 11, 3) := by decide +kernel
theorem dX12_happy_169 : decode cX12_happy 169 = .ok (.iload 7, 2) := by decide +kernel
theorem dX12_happy_171 : decode cX12_happy 171 = .ok (.ifCond .eq 15, 3) := by decide +kernel
theorem dX12_happy_174 : decode cX12_happy 174 = .ok (.goto 8, 3) := by decide +kernel
theorem dX12_happy_177 : decode cX12_happy 177 = .ok (.iload 8, 2) := by decide +kernel
theorem dX12_happy_179 : decode cX12_happy 179 = .ok (.ifCond .eq 7, 3) := by decide +kernel
theorem dX12_happy_182 : decode cX12_happy 182 = .ok (.iconst 1, 1) := by decide +kernel
theorem dX12_happy_183 : decode cX12_happy 183 = .ok (.goto 4, 3) := by decide +kernel
theorem dX12_happy_186 : decode cX12_happy 186 = .ok (.iconst 0, 1) := by decide +kernel
theorem dX12_happy_187 : decode cX12_happy 187 = .ok (.iadd, 1) := by decide +kernel
theorem dX12_happy_188 : decode cX12_happy 188 = .ok (.istore_n 3, 1) := by decide +kernel
theorem dX12_happy_189 : decode cX12_happy 189 = .ok (.iinc 4 1, 3) := by decide +kernel
theorem dX12_happy_192 : decode cX12_happy 192 = .ok (.goto (-163), 3) := by decide +kernel
theorem dX12_happy_195 : decode cX12_happy 195 = .ok (.iload_n 2, 1) := by decide +kernel
theorem dX12_happy_196 : decode cX12_happy 196 = .ok (.ifCond .ne 10, 3) := by decide +kernel
theorem dX12_happy_199 : decode cX12_happy 199 = .ok (.aload_n 0, 1) := by decide +kernel
theorem dX12_happy_200 : decode cX12_happy 200 = .ok (.invokevirtual 544, 3) := by decide +kernel
theorem dX12_happy_203 : decode cX12_happy 203 = .ok (.goto 4, 3) := by decide +kernel
theorem dX12_happy_206 : decode cX12_happy 206 = .ok (.iload_n 3, 1) := by decide +kernel
theorem dX12_happy_207 : decode cX12_happy 207 = .ok (.ireturn, 1) := by decide +kernel
theorem dX12_streetLine_0 : decode cX12_streetLine 0 = .ok (.lload_n 1, 1) := by decide +kernel
theorem dX12_streetLine_1 : decode cX12_streetLine 1 = .ok (.ldc2_w 183, 3) := by decide +kernel
theorem dX12_streetLine_4 : decode cX12_streetLine 4 = .ok (.lcmp, 1) := by decide +kernel
theorem dX12_streetLine_5 : decode cX12_streetLine 5 = .ok (.ifCond .eq 48, 3) := by decide +kernel
theorem dX12_streetLine_8 : decode cX12_streetLine 8 = .ok (.lload_n 1, 1) := by decide +kernel
theorem dX12_streetLine_9 : decode cX12_streetLine 9 = .ok (.ldc2_w 185, 3) := by decide +kernel
theorem dX12_streetLine_12 : decode cX12_streetLine 12 = .ok (.lcmp, 1) := by decide +kernel
theorem dX12_streetLine_13 : decode cX12_streetLine 13 = .ok (.ifCond .eq 40, 3) := by decide +kernel
theorem dX12_streetLine_16 : decode cX12_streetLine 16 = .ok (.lload_n 1, 1) := by decide +kernel
theorem dX12_streetLine_17 : decode cX12_streetLine 17 = .ok (.ldc2_w 187, 3) := by decide +kernel
theorem dX12_streetLine_20 : decode cX12_streetLine 20 = .ok (.lcmp, 1) := by decide +kernel
theorem dX12_streetLine_21 : decode cX12_streetLine 21 = .ok (.ifCond .eq 32, 3) := by decide +kernel
theorem dX12_streetLine_24 : decode cX12_streetLine 24 = .ok (.lload_n 1, 1) := by decide +kernel
theorem dX12_streetLine_25 : decode cX12_streetLine 25 = .ok (.ldc2_w 189, 3) := by decide +kernel
theorem dX12_streetLine_28 : decode cX12_streetLine 28 = .ok (.lcmp, 1) := by decide +kernel
theorem dX12_streetLine_29 : decode cX12_streetLine 29 = .ok (.ifCond .eq 24, 3) := by decide +kernel
theorem dX12_streetLine_32 : decode cX12_streetLine 32 = .ok (.lload_n 1, 1) := by decide +kernel
theorem dX12_streetLine_33 : decode cX12_streetLine 33 = .ok (.ldc2_w 191, 3) := by decide +kernel
theorem dX12_streetLine_36 : decode cX12_streetLine 36 = .ok (.lcmp, 1) := by decide +kernel
theorem dX12_streetLine_37 : decode cX12_streetLine 37 = .ok (.ifCond .eq 16, 3) := by decide +kernel
theorem dX12_streetLine_40 : decode cX12_streetLine 40 = .ok (.lload_n 1, 1) := by decide +kernel
theorem dX12_streetLine_41 : decode cX12_streetLine 41 = .ok (.ldc2_w 193, 3) := by decide +kernel
theorem dX12_streetLine_44 : decode cX12_streetLine 44 = .ok (.lcmp, 1) := by decide +kernel
theorem dX12_streetLine_45 : decode cX12_streetLine 45 = .ok (.ifCond .eq 8, 3) := by decide +kernel
theorem dX12_streetLine_48 : decode cX12_streetLine 48 = .ok (.aload_n 0, 1) := by decide +kernel
theorem dX12_streetLine_49 : decode cX12_streetLine 49 = .ok (.invokevirtual 152, 3) := by decide +kernel
theorem dX12_streetLine_52 : decode cX12_streetLine 52 = .ok (.ireturn, 1) := by decide +kernel
theorem dX12_streetLine_53 : decode cX12_streetLine 53 = .ok (.lload_n 1, 1) := by decide +kernel
theorem dX12_streetLine_54 : decode cX12_streetLine 54 = .ok (.ldc2_w 193, 3) := by decide +kernel
theorem dX12_streetLine_57 : decode cX12_streetLine 57 = .ok (.lcmp, 1) := by decide +kernel
theorem dX12_streetLine_58 : decode cX12_streetLine 58 = .ok (.ifCond .ne 11, 3) := by decide +kernel
theorem dX12_streetLine_61 : decode cX12_streetLine 61 = .ok (.aload_n 0, 1) := by decide +kernel
theorem dX12_streetLine_62 : decode cX12_streetLine 62 = .ok (.iconst 2, 1) := by decide +kernel
theorem dX12_streetLine_63 : decode cX12_streetLine 63 = .ok (.bipush 6, 2) := by decide +kernel
theorem dX12_streetLine_65 : decode cX12_streetLine 65 = .ok (.iload_n 3, 1) := by decide +kernel
theorem dX12_streetLine_66 : decode cX12_streetLine 66 = .ok (.invokevirtual 195, 3) := by decide +kernel
theorem dX12_streetLine_69 : decode cX12_streetLine 69 = .ok (.aload_n 0, 1) := by decide +kernel
theorem dX12_streetLine_70 : decode cX12_streetLine 70 = .ok (.invokevirtual 164, 3) := by decide +kernel
theorem dX12_streetLine_73 : decode cX12_streetLine 73 = .ok (.lload_n 1, 1) := by decide +kernel
theorem dX12_streetLine_74 : decode cX12_streetLine 74 = .ok (.ldc2_w 193, 3) := by decide +kernel
theorem dX12_streetLine_77 : decode cX12_streetLine 77 = .ok (.lcmp, 1) := by decide +kernel
theorem dX12_streetLine_78 : decode cX12_streetLine 78 = .ok (.ifCond .ne 8, 3) := by decide +kernel
theorem dX12_streetLine_81 : decode cX12_streetLine 81 = .ok (.aload_n 0, 1) := by decide +kernel
theorem dX12_streetLine_82 : decode cX12_streetLine 82 = .ok (.invokevirtual 199, 3) := by decide +kernel
theorem dX12_streetLine_85 : decode cX12_streetLine 85 = .ok (.ireturn, 1) := by decide +kernel
theorem dX12_streetLine_86 : decode cX12_streetLine 86 = .ok (.lload_n 1, 1) := by decide +kernel
theorem dX12_streetLine_87 : decode cX12_streetLine 87 = .ok (.ldc2_w 183, 3) := by decide +kernel
theorem dX12_streetLine_90 : decode cX12_streetLine 90 = .ok (.lcmp, 1) := by decide +kernel
theorem dX12_streetLine_91 : decode cX12_streetLine 91 = .ok (.ifCond .eq 11, 3) := by decide +kernel
theorem dX12_streetLine_94 : decode cX12_streetLine 94 = .ok (.lload_n 1, 1) := by decide +kernel
theorem dX12_streetLine_95 : decode cX12_streetLine 95 = .ok (.ldc2_w 185, 3) := by decide +kernel
theorem dX12_streetLine_98 : decode cX12_streetLine 98 = .ok (.lcmp, 1) := by decide +kernel
theorem dX12_streetLine_99 : decode cX12_streetLine 99 = .ok (.ifCond .ne 61, 3) := by decide +kernel
theorem dX12_streetLine_102 : decode cX12_streetLine 102 = .ok (.aload_n 0, 1) := by decide +kernel
theorem dX12_streetLine_103 : decode cX12_streetLine 103 = .ok (.iconst 0, 1) := by decide +kernel
theorem dX12_streetLine_104 : decode cX12_streetLine 104 = .ok (.iconst 1, 1) := by decide +kernel
theorem dX12_streetLine_105 : decode cX12_streetLine 105 = .ok (.lload_n 1, 1) := by decide +kernel
theorem dX12_streetLine_106 : decode cX12_streetLine 106 = .ok (.ldc2_w 183, 3) := by decide +kernel
theorem dX12_streetLine_109 : decode cX12_streetLine 109 = .ok (.lcmp, 1) := by decide +kernel
theorem dX12_streetLine_110 : decode cX12_streetLine 110 = .ok (.ifCond .ne 8, 3) := by decide +kernel
theorem dX12_streetLine_113 : decode cX12_streetLine 113 = .ok (.bipush 40, 2) := by decide +kernel
theorem dX12_streetLine_115 : decode cX12_streetLine 115 = .ok (.goto 4, 3) := by decide +kernel
theorem dX12_streetLine_118 : decode cX12_streetLine 118 = .ok (.iconst 4, 1) := by decide +kernel
theorem dX12_streetLine_119 : decode cX12_streetLine 119 = .ok (.invokevirtual 167, 3) := by decide +kernel
theorem dX12_streetLine_122 : decode cX12_streetLine 122 = .ok (.istore 4, 2) := by decide +kernel
theorem dX12_streetLine_124 : decode cX12_streetLine 124 = .ok (.aload_n 0, 1) := by decide +kernel
theorem dX12_streetLine_125 : decode cX12_streetLine 125 = .ok (.getfield 38, 3) := by decide +kernel
theorem dX12_streetLine_128 : decode cX12_streetLine 128 = .ok (.lload_n 1, 1) := by decide +kernel
theorem dX12_streetLine_129 : decode cX12_streetLine 129 = .ok (.ldc2_w 183, 3) := by decide +kernel
theorem dX12_streetLine_132 : decode cX12_streetLine 132 = .ok (.lcmp, 1) := by decide +kernel
theorem dX12_streetLine_133 : decode cX12_streetLine 133 = .ok (.ifCond .ne 7, 3) := by decide +kernel
theorem dX12_streetLine_136 : decode cX12_streetLine 136 = .ok (.iconst 0, 1) := by decide +kernel
theorem dX12_streetLine_137 : decode cX12_streetLine 137 = .ok (.goto 4, 3) := by decide +kernel
theorem dX12_streetLine_140 : decode cX12_streetLine 140 = .ok (.iconst 1, 1) := by decide +kernel
theorem dX12_streetLine_141 : decode cX12_streetLine 141 = .ok (.iload 4, 2) := by decide +kernel
theorem dX12_streetLine_143 : decode cX12_streetLine 143 = .ok (.ifCond .eq 12, 3) := by decide +kernel
theorem dX12_streetLine_146 : decode cX12_streetLine 146 = .ok (.aload_n 0, 1) := by decide +kernel
theorem dX12_streetLine_147 : decode cX12_streetLine 147 = .ok (.getfield 41, 3) := by decide +kernel
theorem dX12_streetLine_150 : decode cX12_streetLine 150 = .ok (.iconst 0, 1) := by decide +kernel
theorem dX12_streetLine_151 : decode cX12_streetLine 151 = .ok (.iaload, 1) := by decide +kernel
theorem dX12_streetLine_152 : decode cX12_streetLine 152 = .ok (.goto 4, 3) := by decide +kernel
theorem dX12_streetLine_155 : decode cX12_streetLine 155 = .ok (.iconst 1, 1) := by decide +kernel
theorem dX12_streetLine_156 : decode cX12_streetLine 156 = .ok (.iastore, 1) := by decide +kernel
theorem dX12_streetLine_157 : decode cX12_streetLine 157 = .ok (.goto 229, 3) := by decide +kernel
theorem dX12_streetLine_160 : decode cX12_streetLine 160 = .ok (.lload_n 1, 1) := by decide +kernel
theorem dX12_streetLine_161 : decode cX12_streetLine 161 = .ok (.ldc2_w 187, 3) := by decide +kernel
theorem dX12_streetLine_164 : decode cX12_streetLine 164 = .ok (.lcmp, 1) := by decide +kernel
theorem dX12_streetLine_165 : decode cX12_streetLine 165 = .ok (.ifCond .ne 64, 3) := by decide +kernel
theorem dX12_streetLine_168 : decode cX12_streetLine 168 = .ok (.aload_n 0, 1) := by decide +kernel
theorem dX12_streetLine_169 : decode cX12_streetLine 169 = .ok (.iconst 0, 1) := by decide +kernel
theorem dX12_streetLine_170 : decode cX12_streetLine 170 = .ok (.iconst 3, 1) := by decide +kernel
theorem dX12_streetLine_171 : decode cX12_streetLine 171 = .ok (.invokevirtual 202, 3) := by decide +kernel
theorem dX12_streetLine_174 : decode cX12_streetLine 174 = .ok (.ifCond .eq 18, 3) := by decide +kernel
theorem dX12_streetLine_177 : decode cX12_streetLine 177 = .ok (.aload_n 0, 1) := by decide +kernel
theorem dX12_streetLine_178 : decode cX12_streetLine 178 = .ok (.iconst 1, 1) := by decide +kernel
theorem dX12_streetLine_179 : decode cX12_streetLine 179 = .ok (.iconst 0, 1) := by decide +kernel
theorem dX12_streetLine_180 : decode cX12_streetLine 180 = .ok (.bipush 99, 2) := by decide +kernel
theorem dX12_streetLine_182 : decode cX12_streetLine 182 = .ok (.invokevirtual 167, 3) := by decide +kernel
theorem dX12_streetLine_185 : decode cX12_streetLine 185 = .ok (.ifCond .eq 7, 3) := by decide +kernel
theorem dX12_streetLine_188 : decode cX12_streetLine 188 = .ok (.iconst 1, 1) := by decide +kernel
theorem dX12_streetLine_189 : decode cX12_streetLine 189 = .ok (.goto 4, 3) := by decide +kernel
theorem dX12_streetLine_192 : decode cX12_streetLine 192 = .ok (.iconst 0, 1) := by decide +kernel
theorem dX12_streetLine_193 : decode cX12_streetLine 193 = .ok (.istore 4, 2) := by decide +kernel
theorem dX12_streetLine_195 : decode cX12_streetLine 195 = .ok (.iload 4, 2) := by decide +kernel
theorem dX12_streetLine_197 : decode cX12_streetLine 197 = .ok (.ifCond .eq 189, 3) := by decide +kernel
theorem dX12_streetLine_200 : decode cX12_streetLine 200 = .ok (.aload_n 0, 1) := by decide +kernel
theorem dX12_streetLine_201 : decode cX12_streetLine 201 = .ok (.getfield 160, 3) := by decide +kernel
theorem dX12_streetLine_204 : decode cX12_streetLine 204 = .ok (.ifCond .eq 182, 3) := by decide +kernel
theorem dX12_streetLine_207 : decode cX12_streetLine 207 = .ok (.aload_n 0, 1) := by decide +kernel
theorem dX12_streetLine_208 : decode cX12_streetLine 208 = .ok (.getfield 38, 3) := by decide +kernel
theorem dX12_streetLine_211 : decode cX12_streetLine 211 = .ok (.iconst 3, 1) := by decide +kernel
theorem dX12_streetLine_212 : decode cX12_streetLine 212 = .ok (.aload_n 0, 1) := by decide +kernel
theorem dX12_streetLine_213 : decode cX12_streetLine 213 = .ok (.getfield 41, 3) := by decide +kernel
theorem dX12_streetLine_216 : decode cX12_streetLine 216 = .ok (.iconst 0, 1) := by decide +kernel
theorem dX12_streetLine_217 : decode cX12_streetLine 217 = .ok (.iaload, 1) := by decide +kernel
theorem dX12_streetLine_218 : decode cX12_streetLine 218 = .ok (.iadd, 1) := by decide +kernel
theorem dX12_streetLine_219 : decode cX12_streetLine 219 = .ok (.aload_n 0, 1) := by decide +kernel
theorem dX12_streetLine_220 : decode cX12_streetLine 220 = .ok (.getfield 41, 3) := by decide +kernel
theorem dX12_streetLine_223 : decode cX12_streetLine 223 = .ok (.iconst 1, 1) := by decide +kernel
theorem dX12_streetLine_224 : decode cX12_streetLine 224 = .ok (.iaload, 1) := by decide +kernel
theorem dX12_streetLine_225 : decode cX12_streetLine 225 = .ok (.iastore, 1) := by decide +kernel
theorem dX12_streetLine_226 : decode cX12_streetLine 226 = .ok (.goto 160, 3) := by decide +kernel
theorem dX12_streetLine_229 : decode cX12_streetLine 229 = .ok (.lload_n 1, 1) := by decide +kernel
theorem dX12_streetLine_230 : decode cX12_streetLine 230 = .ok (.ldc2_w 189, 3) := by decide +kernel
theorem dX12_streetLine_233 : decode cX12_streetLine 233 = .ok (.lcmp, 1) := by decide +kernel
theorem dX12_streetLine_234 : decode cX12_streetLine 234 = .ok (.ifCond .ne 80, 3) := by decide +kernel
theorem dX12_streetLine_237 : decode cX12_streetLine 237 = .ok (.aload_n 0, 1) := by decide +kernel
theorem dX12_streetLine_238 : decode cX12_streetLine 238 = .ok (.iconst 0, 1) := by decide +kernel
theorem dX12_streetLine_239 : decode cX12_streetLine 239 = .ok (.iconst 0, 1) := by decide +kernel
theorem dX12_streetLine_240 : decode cX12_streetLine 240 = .ok (.invokevirtual 180, 3) := by decide +kernel
theorem dX12_streetLine_243 : decode cX12_streetLine 243 = .ok (.ifCond .eq 32, 3) := by decide +kernel
theorem dX12_streetLine_246 : decode cX12_streetLine 246 = .ok (.aload_n 0, 1) := by decide +kernel
theorem dX12_streetLine_247 : decode cX12_streetLine 247 = .ok (.iconst 1, 1) := by decide +kernel
theorem dX12_streetLine_248 : decode cX12_streetLine 248 = .ok (.aload_n 0, 1) := by decide +kernel
theorem dX12_streetLine_249 : decode cX12_streetLine 249 = .ok (.getfield 41, 3) := by decide +kernel
theorem dX12_streetLine_252 : decode cX12_streetLine 252 = .ok (.iconst 0, 1) := by decide +kernel
theorem dX12_streetLine_253 : decode cX12_streetLine 253 = .ok (.iaload, 1) := by decide +kernel
theorem dX12_streetLine_254 : decode cX12_streetLine 254 = .ok (.invokevirtual 180, 3) := by decide +kernel
theorem dX12_streetLine_257 : decode cX12_streetLine 257 = .ok (.ifCond .eq 18, 3) := by decide +kernel
theorem dX12_streetLine_260 : decode cX12_streetLine 260 = .ok (.aload_n 0, 1) := by decide +kernel
theorem dX12_streetLine_261 : decode cX12_streetLine 261 = .ok (.iconst 2, 1) := by decide +kernel
theorem dX12_streetLine_262 : decode cX12_streetLine 262 = .ok (.iconst 0, 1) := by decide +kernel
theorem dX12_streetLine_263 : decode cX12_streetLine 263 = .ok (.bipush 9, 2) := by decide +kernel
theorem dX12_streetLine_265 : decode cX12_streetLine 265 = .ok (.invokevirtual 167, 3) := by decide +kernel
theorem dX12_streetLine_268 : decode cX12_streetLine 268 = .ok (.ifCond .eq 7, 3) := by decide +kernel
theorem dX12_streetLine_271 : decode cX12_streetLine 271 = .ok (.iconst 1, 1) := by decide +kernel
theorem dX12_streetLine_272 : decode cX12_streetLine 272 = .ok (.goto 4, 3) := by decide +kernel
theorem dX12_streetLine_275 : decode cX12_streetLine 275 = .ok (.iconst 0, 1) := by decide +kernel
theorem dX12_streetLine_276 : decode cX12_streetLine 276 = .ok (.istore 4, 2) := by decide +kernel
theorem dX12_streetLine_278 : decode cX12_streetLine 278 = .ok (.aload_n 0, 1) := by decide +kernel
theorem dX12_streetLine_279 : decode cX12_streetLine 279 = .ok (.bipush 31, 2) := by decide +kernel
theorem dX12_streetLine_281 : decode cX12_streetLine 281 = .ok (.aload_n 0, 1) := by decide +kernel
theorem dX12_streetLine_282 : decode cX12_streetLine 282 = .ok (.getfield 41, 3) := by decide +kernel
theorem dX12_streetLine_285 : decode cX12_streetLine 285 = .ok (.iconst 0, 1) := by decide +kernel
theorem dX12_streetLine_286 : decode cX12_streetLine 286 = .ok (.iaload, 1) := by decide +kernel
theorem dX12_streetLine_287 : decode cX12_streetLine 287 = .ok (.iload 4, 2) := by decide +kernel
theorem dX12_streetLine_289 : decode cX12_streetLine 289 = .ok (.ifCond .eq 12, 3) := by decide +kernel
theorem dX12_streetLine_292 : decode cX12_streetLine 292 = .ok (.aload_n 0, 1) := by decide +kernel
theorem dX12_streetLine_293 : decode cX12_streetLine 293 = .ok (.getfield 41, 3) := by decide +kernel
theorem dX12_streetLine_296 : decode cX12_streetLine 296 = .ok (.iconst 1, 1) := by decide +kernel
theorem dX12_streetLine_297 : decode cX12_streetLine 297 = .ok (.iaload, 1) := by decide +kernel
theorem dX12_streetLine_298 : decode cX12_streetLine 298 = .ok (.goto 4, 3) := by decide +kernel
theorem dX12_streetLine_301 : decode cX12_streetLine 301 = .ok (.iconst (-1), 1) := by decide +kernel
theorem dX12_streetLine_302 : decode cX12_streetLine 302 = .ok (.aload_n 0, 1) := by decide +kernel
theorem dX12_streetLine_303 : decode cX12_streetLine 303 = .ok (.getfield 41, 3) := by decide +kernel
theorem dX12_streetLine_306 : decode cX12_streetLine 306 = .ok (.iconst 2, 1) := by decide +kernel
theorem dX12_streetLine_307 : decode cX12_streetLine 307 = .ok (.iaload, 1) := by decide +kernel
theorem dX12_streetLine_308 : decode cX12_streetLine 308 = .ok (.invokevirtual 205, 3) := by decide +kernel
theorem dX12_streetLine_311 : decode cX12_streetLine 311 = .ok (.goto 75, 3) := by decide +kernel
theorem dX12_streetLine_314 : decode cX12_streetLine 314 = .ok (.aload_n 0, 1) := by decide +kernel
theorem dX12_streetLine_315 : decode cX12_streetLine 315 = .ok (.iconst 0, 1) := by decide +kernel
theorem dX12_streetLine_316 : decode cX12_streetLine 316 = .ok (.iconst 3, 1) := by decide +kernel
theorem dX12_streetLine_317 : decode cX12_streetLine 317 = .ok (.invokevirtual 202, 3) := by decide +kernel
theorem dX12_streetLine_320 : decode cX12_streetLine 320 = .ok (.ifCond .eq 30, 3) := by decide +kernel
theorem dX12_streetLine_323 : decode cX12_streetLine 323 = .ok (.aload_n 0, 1) := by decide +kernel
theorem dX12_streetLine_324 : decode cX12_streetLine 324 = .ok (.iconst 1, 1) := by decide +kernel
theorem dX12_streetLine_325 : decode cX12_streetLine 325 = .ok (.iconst 0, 1) := by decide +kernel
theorem dX12_streetLine_326 : decode cX12_streetLine 326 = .ok (.invokevirtual 180, 3) := by decide +kernel
theorem dX12_streetLine_329 : decode cX12_streetLine 329 = .ok (.ifCond .eq 21, 3) := by decide +kernel
theorem dX12_streetLine_332 : decode cX12_streetLine 332 = .ok (.aload_n 0, 1) := by decide +kernel
theorem dX12_streetLine_333 : decode cX12_streetLine 333 = .ok (.iconst 2, 1) := by decide +kernel
theorem dX12_streetLine_334 : decode cX12_streetLine 334 = .ok (.aload_n 0, 1) := by decide +kernel
theorem dX12_streetLine_335 : decode cX12_streetLine 335 = .ok (.getfield 41, 3) := by decide +kernel
theorem dX12_streetLine_338 : decode cX12_streetLine 338 = .ok (.iconst 1, 1) := by decide +kernel
theorem dX12_streetLine_339 : decode cX12_streetLine 339 = .ok (.iaload, 1) := by decide +kernel
theorem dX12_streetLine_340 : decode cX12_streetLine 340 = .ok (.invokevirtual 180, 3) := by decide +kernel
theorem dX12_streetLine_343 : decode cX12_streetLine 343 = .ok (.ifCond .eq 7, 3) := by decide +kernel
theorem dX12_streetLine_346 : decode cX12_streetLine 346 = .ok (.iconst 1, 1) := by decide +kernel
theorem dX12_streetLine_347 : decode cX12_streetLine 347 = .ok (.goto 4, 3) := by decide +kernel
theorem dX12_streetLine_350 : decode cX12_streetLine 350 = .ok (.iconst 0, 1) := by decide +kernel
theorem dX12_streetLine_351 : decode cX12_streetLine 351 = .ok (.istore 4, 2) := by decide +kernel
theorem dX12_streetLine_353 : decode cX12_streetLine 353 = .ok (.aload_n 0, 1) := by decide +kernel
theorem dX12_streetLine_354 : decode cX12_streetLine 354 = .ok (.bipush 71, 2) := by decide +kernel
theorem dX12_streetLine_356 : decode cX12_streetLine 356 = .ok (.aload_n 0, 1) := by decide +kernel
theorem dX12_streetLine_357 : decode cX12_streetLine 357 = .ok (.getfield 41, 3) := by decide +kernel
theorem dX12_streetLine_360 : decode cX12_streetLine 360 = .ok (.iconst 1, 1) := by decide +kernel
theorem dX12_streetLine_361 : decode cX12_streetLine 361 = .ok (.iaload, 1) := by decide +kernel
theorem dX12_streetLine_362 : decode cX12_streetLine 362 = .ok (.iload 4, 2) := by decide +kernel
theorem dX12_streetLine_364 : decode cX12_streetLine 364 = .ok (.ifCond .eq 12, 3) := by decide +kernel
theorem dX12_streetLine_367 : decode cX12_streetLine 367 = .ok (.aload_n 0, 1) := by decide +kernel
theorem dX12_streetLine_368 : decode cX12_streetLine 368 = .ok (.getfield 41, 3) := by decide +kernel
theorem dX12_streetLine_371 : decode cX12_streetLine 371 = .ok (.iconst 2, 1) := by decide +kernel
theorem dX12_streetLine_372 : decode cX12_streetLine 372 = .ok (.iaload, 1) := by decide +kernel
theorem dX12_streetLine_373 : decode cX12_streetLine 373 = .ok (.goto 4, 3) := by decide +kernel
theorem dX12_streetLine_376 : decode cX12_streetLine 376 = .ok (.iconst (-1), 1) := by decide +kernel
theorem dX12_streetLine_377 : decode cX12_streetLine 377 = .ok (.aload_n 0, 1) := by decide +kernel
theorem dX12_streetLine_378 : decode cX12_streetLine 378 = .ok (.getfield 41, 3) := by decide +kernel
theorem dX12_streetLine_381 : decode cX12_streetLine 381 = .ok (.iconst 0, 1) := by decide +kernel
theorem dX12_streetLine_382 : decode cX12_streetLine 382 = .ok (.iaload, 1) := by decide +kernel
theorem dX12_streetLine_383 : decode cX12_streetLine 383 = .ok (.invokevirtual 205, 3) := by decide +kernel
theorem dX12_streetLine_386 : decode cX12_streetLine 386 = .ok (.iload 4, 2) := by decide +kernel
theorem dX12_streetLine_388 : decode cX12_streetLine 388 = .ok (.ireturn, 1) := by decide +kernel
theorem dX12_doesDeed_0 : decode cX12_doesDeed 0 = .ok (.aload_n 0, 1) := by decide +kernel
theorem dX12_doesDeed_1 : decode cX12_doesDeed 1 = .ok (.aload_n 0, 1) := by decide +kernel
theorem dX12_doesDeed_2 : decode cX12_doesDeed 2 = .ok (.iload_n 1, 1) := by decide +kernel
theorem dX12_doesDeed_3 : decode cX12_doesDeed 3 = .ok (.iconst 0, 1) := by decide +kernel
theorem dX12_doesDeed_4 : decode cX12_doesDeed 4 = .ok (.invokevirtual 310, 3) := by decide +kernel
theorem dX12_doesDeed_7 : decode cX12_doesDeed 7 = .ok (.aload_n 0, 1) := by decide +kernel
theorem dX12_doesDeed_8 : decode cX12_doesDeed 8 = .ok (.iload_n 1, 1) := by decide +kernel
theorem dX12_doesDeed_9 : decode cX12_doesDeed 9 = .ok (.iconst 1, 1) := by decide +kernel
theorem dX12_doesDeed_10 : decode cX12_doesDeed 10 = .ok (.invokevirtual 310, 3) := by decide +kernel
theorem dX12_doesDeed_13 : decode cX12_doesDeed 13 = .ok (.aload_n 0, 1) := by decide +kernel
theorem dX12_doesDeed_14 : decode cX12_doesDeed 14 = .ok (.iload_n 1, 1) := by decide +kernel
theorem dX12_doesDeed_15 : decode cX12_doesDeed 15 = .ok (.iconst 2, 1) := by decide +kernel
theorem dX12_doesDeed_16 : decode cX12_doesDeed 16 = .ok (.invokevirtual 310, 3) := by decide +kernel
theorem dX12_doesDeed_19 : decode cX12_doesDeed 19 = .ok (.aload_n 0, 1) := by decide +kernel
theorem dX12_doesDeed_20 : decode cX12_doesDeed 20 = .ok (.iload_n 1, 1) := by decide +kernel
theorem dX12_doesDeed_21 : decode cX12_doesDeed 21 = .ok (.iconst 3, 1) := by decide +kernel
theorem dX12_doesDeed_22 : decode cX12_doesDeed 22 = .ok (.invokevirtual 310, 3) := by decide +kernel
theorem dX12_doesDeed_25 : decode cX12_doesDeed 25 = .ok (.invokevirtual 346, 3) := by decide +kernel
theorem dX12_doesDeed_28 : decode cX12_doesDeed 28 = .ok (.ireturn, 1) := by decide +kernel
theorem dX12_run_0 : decode cX12_run 0 = .ok (.aload_n 0, 1) := by decide +kernel
theorem dX12_run_1 : decode cX12_run 1 = .ok (.iconst 0, 1) := by decide +kernel
theorem dX12_run_2 : decode cX12_run 2 = .ok (.putfield 100, 3) := by decide +kernel
theorem dX12_run_5 : decode cX12_run 5 = .ok (.aload_n 0, 1) := by decide +kernel
theorem dX12_run_6 : decode cX12_run 6 = .ok (.iload_n 1, 1) := by decide +kernel
theorem dX12_run_7 : decode cX12_run 7 = .ok (.invokevirtual 298, 3) := by decide +kernel
theorem dX12_run_10 : decode cX12_run 10 = .ok (.ifCond .eq 19, 3) := by decide +kernel
theorem dX12_run_13 : decode cX12_run 13 = .ok (.aload_n 0, 1) := by decide +kernel
theorem dX12_run_14 : decode cX12_run 14 = .ok (.iload_n 2, 1) := by decide +kernel
theorem dX12_run_15 : decode cX12_run 15 = .ok (.invokevirtual 316, 3) := by decide +kernel
theorem dX12_run_18 : decode cX12_run 18 = .ok (.ifCond .eq 11, 3) := by decide +kernel
theorem dX12_run_21 : decode cX12_run 21 = .ok (.aload_n 0, 1) := by decide +kernel
theorem dX12_run_22 : decode cX12_run 22 = .ok (.iload_n 3, 1) := by decide +kernel
theorem dX12_run_23 : decode cX12_run 23 = .ok (.invokevirtual 319, 3) := by decide +kernel
theorem dX12_run_26 : decode cX12_run 26 = .ok (.ifCond .ne 5, 3) := by decide +kernel
theorem dX12_run_29 : decode cX12_run 29 = .ok (.iconst (-1), 1) := by decide +kernel
theorem dX12_run_30 : decode cX12_run 30 = .ok (.ireturn, 1) := by decide +kernel
theorem dX12_run_31 : decode cX12_run 31 = .ok (.aload_n 0, 1) := by decide +kernel
theorem dX12_run_32 : decode cX12_run 32 = .ok (.iload_n 2, 1) := by decide +kernel
theorem dX12_run_33 : decode cX12_run 33 = .ok (.iload_n 3, 1) := by decide +kernel
theorem dX12_run_34 : decode cX12_run 34 = .ok (.invokevirtual 382, 3) := by decide +kernel
theorem dX12_run_37 : decode cX12_run 37 = .ok (.istore 5, 2) := by decide +kernel
theorem dX12_run_39 : decode cX12_run 39 = .ok (.iload 5, 2) := by decide +kernel
theorem dX12_run_41 : decode cX12_run 41 = .ok (.iconst (-1), 1) := by decide +kernel
theorem dX12_run_42 : decode cX12_run 42 = .ok (.if_icmp .eq 8, 3) := by decide +kernel
theorem dX12_run_45 : decode cX12_run 45 = .ok (.iload 4, 2) := by decide +kernel
theorem dX12_run_47 : decode cX12_run 47 = .ok (.ifCond .ne 8, 3) := by decide +kernel
theorem dX12_run_50 : decode cX12_run 50 = .ok (.iload 5, 2) := by decide +kernel
theorem dX12_run_52 : decode cX12_run 52 = .ok (.goto 11, 3) := by decide +kernel
theorem dX12_run_55 : decode cX12_run 55 = .ok (.aload_n 0, 1) := by decide +kernel
theorem dX12_run_56 : decode cX12_run 56 = .ok (.iload_n 2, 1) := by decide +kernel
theorem dX12_run_57 : decode cX12_run 57 = .ok (.iload_n 3, 1) := by decide +kernel
theorem dX12_run_58 : decode cX12_run 58 = .ok (.iload 5, 2) := by decide +kernel
theorem dX12_run_60 : decode cX12_run 60 = .ok (.invokevirtual 378, 3) := by decide +kernel
theorem dX12_run_63 : decode cX12_run 63 = .ok (.ireturn, 1) := by decide +kernel
theorem dX12_costOf_0 : decode cX12_costOf 0 = .ok (.aload_n 0, 1) := by decide +kernel
theorem dX12_costOf_1 : decode cX12_costOf 1 = .ok (.iload_n 1, 1) := by decide +kernel
theorem dX12_costOf_2 : decode cX12_costOf 2 = .ok (.invokevirtual 385, 3) := by decide +kernel
theorem dX12_costOf_5 : decode cX12_costOf 5 = .ok (.aload_n 0, 1) := by decide +kernel
theorem dX12_costOf_6 : decode cX12_costOf 6 = .ok (.getfield 69, 3) := by decide +kernel
theorem dX12_costOf_9 : decode cX12_costOf 9 = .ok (.iload_n 2, 1) := by decide +kernel
theorem dX12_costOf_10 : decode cX12_costOf 10 = .ok (.iaload, 1) := by decide +kernel
theorem dX12_costOf_11 : decode cX12_costOf 11 = .ok (.ireturn, 1) := by decide +kernel
theorem dX12_planOf_0 : decode cX12_planOf 0 = .ok (.aload_n 0, 1) := by decide +kernel
theorem dX12_planOf_1 : decode cX12_planOf 1 = .ok (.iload_n 1, 1) := by decide +kernel
theorem dX12_planOf_2 : decode cX12_planOf 2 = .ok (.invokevirtual 385, 3) := by decide +kernel
theorem dX12_planOf_5 : decode cX12_planOf 5 = .ok (.aload_n 0, 1) := by decide +kernel
theorem dX12_planOf_6 : decode cX12_planOf 6 = .ok (.iconst 0, 1) := by decide +kernel
theorem dX12_planOf_7 : decode cX12_planOf 7 = .ok (.putfield 397, 3) := by decide +kernel
theorem dX12_planOf_10 : decode cX12_planOf 10 = .ok (.iconst 0, 1) := by decide +kernel
theorem dX12_planOf_11 : decode cX12_planOf 11 = .ok (.istore_n 2, 1) := by decide +kernel
theorem dX12_planOf_12 : decode cX12_planOf 12 = .ok (.iconst 1, 1) := by decide +kernel
theorem dX12_planOf_13 : decode cX12_planOf 13 = .ok (.istore_n 3, 1) := by decide +kernel
theorem dX12_planOf_14 : decode cX12_planOf 14 = .ok (.iload_n 3, 1) := by decide +kernel
theorem dX12_planOf_15 : decode cX12_planOf 15 = .ok (.iconst 1, 1) := by decide +kernel
theorem dX12_planOf_16 : decode cX12_planOf 16 = .ok (.aload_n 0, 1) := by decide +kernel
theorem dX12_planOf_17 : decode cX12_planOf 17 = .ok (.getfield 289, 3) := by decide +kernel
theorem dX12_planOf_20 : decode cX12_planOf 20 = .ok (.ishl, 1) := by decide +kernel
theorem dX12_planOf_21 : decode cX12_planOf 21 = .ok (.if_icmp .ge 100, 3) := by decide +kernel
theorem dX12_planOf_24 : decode cX12_planOf 24 = .ok (.aload_n 0, 1) := by decide +kernel
theorem dX12_planOf_25 : decode cX12_planOf 25 = .ok (.getfield 69, 3) := by decide +kernel
theorem dX12_planOf_28 : decode cX12_planOf 28 = .ok (.iload_n 3, 1) := by decide +kernel
theorem dX12_planOf_29 : decode cX12_planOf 29 = .ok (.iaload, 1) := by decide +kernel
theorem dX12_planOf_30 : decode cX12_planOf 30 = .ok (.aload_n 0, 1) := by decide +kernel
theorem dX12_planOf_31 : decode cX12_planOf 31 = .ok (.iconst 3, 1) := by decide +kernel
theorem dX12_planOf_32 : decode cX12_planOf 32 = .ok (.iload_n 1, 1) := by decide +kernel
theorem dX12_planOf_33 : decode cX12_planOf 33 = .ok (.iadd, 1) := by decide +kernel
theorem dX12_planOf_34 : decode cX12_planOf 34 = .ok (.invokevirtual 279, 3) := by decide +kernel
theorem dX12_planOf_37 : decode cX12_planOf 37 = .ok (.if_icmp .gt 18, 3) := by decide +kernel
theorem dX12_planOf_40 : decode cX12_planOf 40 = .ok (.aload_n 0, 1) := by decide +kernel
theorem dX12_planOf_41 : decode cX12_planOf 41 = .ok (.iload_n 3, 1) := by decide +kernel
theorem dX12_planOf_42 : decode cX12_planOf 42 = .ok (.invokevirtual 400, 3) := by decide +kernel
theorem dX12_planOf_45 : decode cX12_planOf 45 = .ok (.aload_n 0, 1) := by decide +kernel
theorem dX12_planOf_46 : decode cX12_planOf 46 = .ok (.getfield 69, 3) := by decide +kernel
theorem dX12_planOf_49 : decode cX12_planOf 49 = .ok (.iload_n 3, 1) := by decide +kernel
theorem dX12_planOf_50 : decode cX12_planOf 50 = .ok (.iaload, 1) := by decide +kernel
theorem dX12_planOf_51 : decode cX12_planOf 51 = .ok (.isub, 1) := by decide +kernel
theorem dX12_planOf_52 : decode cX12_planOf 52 = .ok (.goto 4, 3) := by decide +kernel
theorem dX12_planOf_55 : decode cX12_planOf 55 = .ok (.iconst (-1), 1) := by decide +kernel
theorem dX12_planOf_56 : decode cX12_planOf 56 = .ok (.istore 4, 2) := by decide +kernel
theorem dX12_planOf_58 : decode cX12_planOf 58 = .ok (.iload 4, 2) := by decide +kernel
theorem dX12_planOf_60 : decode cX12_planOf 60 = .ok (.iload_n 2, 1) := by decide +kernel
theorem dX12_planOf_61 : decode cX12_planOf 61 = .ok (.if_icmp .gt 23, 3) := by decide +kernel
theorem dX12_planOf_64 : decode cX12_planOf 64 = .ok (.iload 4, 2) := by decide +kernel
theorem dX12_planOf_66 : decode cX12_planOf 66 = .ok (.iload_n 2, 1) := by decide +kernel
theorem dX12_planOf_67 : decode cX12_planOf 67 = .ok (.if_icmp .ne 21, 3) := by decide +kernel
theorem dX12_planOf_70 : decode cX12_planOf 70 = .ok (.iload_n 3, 1) := by decide +kernel
theorem dX12_planOf_71 : decode cX12_planOf 71 = .ok (.invokestatic 403, 3) := by decide +kernel
theorem dX12_planOf_74 : decode cX12_planOf 74 = .ok (.aload_n 0, 1) := by decide +kernel
theorem dX12_planOf_75 : decode cX12_planOf 75 = .ok (.getfield 397, 3) := by decide +kernel
theorem dX12_planOf_78 : decode cX12_planOf 78 = .ok (.invokestatic 403, 3) := by decide +kernel
theorem dX12_planOf_81 : decode cX12_planOf 81 = .ok (.if_icmp .ge 7, 3) := by decide +kernel
theorem dX12_planOf_84 : decode cX12_planOf 84 = .ok (.iconst 1, 1) := by decide +kernel
theorem dX12_planOf_85 : decode cX12_planOf 85 = .ok (.goto 4, 3) := by decide +kernel
theorem dX12_planOf_88 : decode cX12_planOf 88 = .ok (.iconst 0, 1) := by decide +kernel
theorem dX12_planOf_89 : decode cX12_planOf 89 = .ok (.istore 5, 2) := by decide +kernel
theorem dX12_planOf_91 : decode cX12_planOf 91 = .ok (.aload_n 0, 1) := by decide +kernel
theorem dX12_planOf_92 : decode cX12_planOf 92 = .ok (.iload 5, 2) := by decide +kernel
theorem dX12_planOf_94 : decode cX12_planOf 94 = .ok (.ifCond .eq 7, 3) := by decide +kernel
theorem dX12_planOf_97 : decode cX12_planOf 97 = .ok (.iload_n 3, 1) := by decide +kernel
theorem dX12_planOf_98 : decode cX12_planOf 98 = .ok (.goto 7, 3) := by decide +kernel
theorem dX12_planOf_101 : decode cX12_planOf 101 = .ok (.aload_n 0, 1) := by decide +kernel
theorem dX12_planOf_102 : decode cX12_planOf 102 = .ok (.getfield 397, 3) := by decide +kernel
theorem dX12_planOf_105 : decode cX12_planOf 105 = .ok (.putfield 397, 3) := by decide +kernel
theorem dX12_planOf_108 : decode cX12_planOf 108 = .ok (.iload_n 2, 1) := by decide +kernel
theorem dX12_planOf_109 : decode cX12_planOf 109 = .ok (.iload 4, 2) := by decide +kernel
theorem dX12_planOf_111 : decode cX12_planOf 111 = .ok (.invokestatic 173, 3) := by decide +kernel
theorem dX12_planOf_114 : decode cX12_planOf 114 = .ok (.istore_n 2, 1) := by decide +kernel
theorem dX12_planOf_115 : decode cX12_planOf 115 = .ok (.iinc 3 1, 3) := by decide +kernel
theorem dX12_planOf_118 : decode cX12_planOf 118 = .ok (.goto (-104), 3) := by decide +kernel
theorem dX12_planOf_121 : decode cX12_planOf 121 = .ok (.iload_n 2, 1) := by decide +kernel
theorem dX12_planOf_122 : decode cX12_planOf 122 = .ok (.ireturn, 1) := by decide +kernel
theorem dX12_drawDeed_0 : decode cX12_drawDeed 0 = .ok (.aload_n 0, 1) := by decide +kernel
theorem dX12_drawDeed_1 : decode cX12_drawDeed 1 = .ok (.bipush 8, 2) := by decide +kernel
theorem dX12_drawDeed_3 : decode cX12_drawDeed 3 = .ok (.invokevirtual 520, 3) := by decide +kernel
theorem dX12_drawDeed_6 : decode cX12_drawDeed 6 = .ok (.istore_n 1, 1) := by decide +kernel
theorem dX12_drawDeed_7 : decode cX12_drawDeed 7 = .ok (.iload_n 1, 1) := by decide +kernel
theorem dX12_drawDeed_8 : decode cX12_drawDeed 8 = .ok (.bipush 7, 2) := by decide +kernel
theorem dX12_drawDeed_10 : decode cX12_drawDeed 10 = .ok (.if_icmp .ne 37, 3) := by decide +kernel
theorem dX12_drawDeed_13 : decode cX12_drawDeed 13 = .ok (.aload_n 0, 1) := by decide +kernel
theorem dX12_drawDeed_14 : decode cX12_drawDeed 14 = .ok (.iconst 2, 1) := by decide +kernel
theorem dX12_drawDeed_15 : decode cX12_drawDeed 15 = .ok (.invokevirtual 520, 3) := by decide +kernel
theorem dX12_drawDeed_18 : decode cX12_drawDeed 18 = .ok (.ifCond .ne 7, 3) := by decide +kernel
theorem dX12_drawDeed_21 : decode cX12_drawDeed 21 = .ok (.iconst 5, 1) := by decide +kernel
theorem dX12_drawDeed_22 : decode cX12_drawDeed 22 = .ok (.goto 5, 3) := by decide +kernel
theorem dX12_drawDeed_25 : decode cX12_drawDeed 25 = .ok (.bipush 6, 2) := by decide +kernel
theorem dX12_drawDeed_27 : decode cX12_drawDeed 27 = .ok (.istore_n 2, 1) := by decide +kernel
theorem dX12_drawDeed_28 : decode cX12_drawDeed 28 = .ok (.aload_n 0, 1) := by decide +kernel
theorem dX12_drawDeed_29 : decode cX12_drawDeed 29 = .ok (.iload_n 2, 1) := by decide +kernel
theorem dX12_drawDeed_30 : decode cX12_drawDeed 30 = .ok (.aload_n 0, 1) := by decide +kernel
theorem dX12_drawDeed_31 : decode cX12_drawDeed 31 = .ok (.aload_n 0, 1) := by decide +kernel
theorem dX12_drawDeed_32 : decode cX12_drawDeed 32 = .ok (.getfield 283, 3) := by decide +kernel
theorem dX12_drawDeed_35 : decode cX12_drawDeed 35 = .ok (.invokevirtual 520, 3) := by decide +kernel
theorem dX12_drawDeed_38 : decode cX12_drawDeed 38 = .ok (.iconst (-1), 1) := by decide +kernel
theorem dX12_drawDeed_39 : decode cX12_drawDeed 39 = .ok (.iconst (-1), 1) := by decide +kernel
theorem dX12_drawDeed_40 : decode cX12_drawDeed 40 = .ok (.invokevirtual 346, 3) := by decide +kernel
theorem dX12_drawDeed_43 : decode cX12_drawDeed 43 = .ok (.pop, 1) := by decide +kernel
theorem dX12_drawDeed_44 : decode cX12_drawDeed 44 = .ok (.goto 105, 3) := by decide +kernel
theorem dX12_drawDeed_47 : decode cX12_drawDeed 47 = .ok (.iload_n 1, 1) := by decide +kernel
theorem dX12_drawDeed_48 : decode cX12_drawDeed 48 = .ok (.bipush 6, 2) := by decide +kernel
theorem dX12_drawDeed_50 : decode cX12_drawDeed 50 = .ok (.if_icmp .ge 58, 3) := by decide +kernel
theorem dX12_drawDeed_53 : decode cX12_drawDeed 53 = .ok (.aload_n 0, 1) := by decide +kernel
theorem dX12_drawDeed_54 : decode cX12_drawDeed 54 = .ok (.aload_n 0, 1) := by decide +kernel
theorem dX12_drawDeed_55 : decode cX12_drawDeed 55 = .ok (.getfield 286, 3) := by decide +kernel
theorem dX12_drawDeed_58 : decode cX12_drawDeed 58 = .ok (.invokevirtual 520, 3) := by decide +kernel
theorem dX12_drawDeed_61 : decode cX12_drawDeed 61 = .ok (.istore_n 2, 1) := by decide +kernel
theorem dX12_drawDeed_62 : decode cX12_drawDeed 62 = .ok (.aload_n 0, 1) := by decide +kernel
theorem dX12_drawDeed_63 : decode cX12_drawDeed 63 = .ok (.iload_n 1, 1) := by decide +kernel
theorem dX12_drawDeed_64 : decode cX12_drawDeed 64 = .ok (.iconst 3, 1) := by decide +kernel
theorem dX12_drawDeed_65 : decode cX12_drawDeed 65 = .ok (.if_icmp .ge 7, 3) := by decide +kernel
theorem dX12_drawDeed_68 : decode cX12_drawDeed 68 = .ok (.iconst 0, 1) := by decide +kernel
theorem dX12_drawDeed_69 : decode cX12_drawDeed 69 = .ok (.goto 22, 3) := by decide +kernel
theorem dX12_drawDeed_72 : decode cX12_drawDeed 72 = .ok (.iload_n 1, 1) := by decide +kernel
theorem dX12_drawDeed_73 : decode cX12_drawDeed 73 = .ok (.iconst 3, 1) := by decide +kernel
theorem dX12_drawDeed_74 : decode cX12_drawDeed 74 = .ok (.if_icmp .ne 7, 3) := by decide +kernel
theorem dX12_drawDeed_77 : decode cX12_drawDeed 77 = .ok (.iconst 3, 1) := by decide +kernel
theorem dX12_drawDeed_78 : decode cX12_drawDeed 78 = .ok (.goto 13, 3) := by decide +kernel
theorem dX12_drawDeed_81 : decode cX12_drawDeed 81 = .ok (.iload_n 1, 1) := by decide +kernel
theorem dX12_drawDeed_82 : decode cX12_drawDeed 82 = .ok (.iconst 4, 1) := by decide +kernel
theorem dX12_drawDeed_83 : decode cX12_drawDeed 83 = .ok (.if_icmp .ne 7, 3) := by decide +kernel
theorem dX12_drawDeed_86 : decode cX12_drawDeed 86 = .ok (.iconst 2, 1) := by decide +kernel
theorem dX12_drawDeed_87 : decode cX12_drawDeed 87 = .ok (.goto 4, 3) := by decide +kernel
theorem dX12_drawDeed_90 : decode cX12_drawDeed 90 = .ok (.iconst 1, 1) := by decide +kernel
theorem dX12_drawDeed_91 : decode cX12_drawDeed 91 = .ok (.iload_n 2, 1) := by decide +kernel
theorem dX12_drawDeed_92 : decode cX12_drawDeed 92 = .ok (.aload_n 0, 1) := by decide +kernel
theorem dX12_drawDeed_93 : decode cX12_drawDeed 93 = .ok (.aload_n 0, 1) := by decide +kernel
theorem dX12_drawDeed_94 : decode cX12_drawDeed 94 = .ok (.getfield 283, 3) := by decide +kernel
theorem dX12_drawDeed_97 : decode cX12_drawDeed 97 = .ok (.invokevirtual 520, 3) := by decide +kernel
theorem dX12_drawDeed_100 : decode cX12_drawDeed 100 = .ok (.iconst (-1), 1) := by decide +kernel
theorem dX12_drawDeed_101 : decode cX12_drawDeed 101 = .ok (.invokevirtual 346, 3) := by decide +kernel
theorem dX12_drawDeed_104 : decode cX12_drawDeed 104 = .ok (.pop, 1) := by decide +kernel
theorem dX12_drawDeed_105 : decode cX12_drawDeed 105 = .ok (.goto 44, 3) := by decide +kernel
theorem dX12_drawDeed_108 : decode cX12_drawDeed 108 = .ok (.aload_n 0, 1) := by decide +kernel
theorem dX12_drawDeed_109 : decode cX12_drawDeed 109 = .ok (.getfield 289, 3) := by decide +kernel
theorem dX12_drawDeed_112 : decode cX12_drawDeed 112 = .ok (.ifCond .le 37, 3) := by decide +kernel
theorem dX12_drawDeed_115 : decode cX12_drawDeed 115 = .ok (.aload_n 0, 1) := by decide +kernel
theorem dX12_drawDeed_116 : decode cX12_drawDeed 116 = .ok (.aload_n 0, 1) := by decide +kernel
theorem dX12_drawDeed_117 : decode cX12_drawDeed 117 = .ok (.getfield 286, 3) := by decide +kernel
theorem dX12_drawDeed_120 : decode cX12_drawDeed 120 = .ok (.invokevirtual 520, 3) := by decide +kernel
theorem dX12_drawDeed_123 : decode cX12_drawDeed 123 = .ok (.istore_n 2, 1) := by decide +kernel
theorem dX12_drawDeed_124 : decode cX12_drawDeed 124 = .ok (.aload_n 0, 1) := by decide +kernel
theorem dX12_drawDeed_125 : decode cX12_drawDeed 125 = .ok (.aload_n 0, 1) := by decide +kernel
theorem dX12_drawDeed_126 : decode cX12_drawDeed 126 = .ok (.getfield 289, 3) := by decide +kernel
theorem dX12_drawDeed_129 : decode cX12_drawDeed 129 = .ok (.invokevirtual 520, 3) := by decide +kernel
theorem dX12_drawDeed_132 : decode cX12_drawDeed 132 = .ok (.istore_n 3, 1) := by decide +kernel
theorem dX12_drawDeed_133 : decode cX12_drawDeed 133 = .ok (.aload_n 0, 1) := by decide +kernel
theorem dX12_drawDeed_134 : decode cX12_drawDeed 134 = .ok (.iconst 4, 1) := by decide +kernel
theorem dX12_drawDeed_135 : decode cX12_drawDeed 135 = .ok (.iload_n 2, 1) := by decide +kernel
theorem dX12_drawDeed_136 : decode cX12_drawDeed 136 = .ok (.iload_n 3, 1) := by decide +kernel
theorem dX12_drawDeed_137 : decode cX12_drawDeed 137 = .ok (.aload_n 0, 1) := by decide +kernel
theorem dX12_drawDeed_138 : decode cX12_drawDeed 138 = .ok (.aload_n 0, 1) := by decide +kernel
theorem dX12_drawDeed_139 : decode cX12_drawDeed 139 = .ok (.getfield 283, 3) := by decide +kernel
theorem dX12_drawDeed_142 : decode cX12_drawDeed 142 = .ok (.invokevirtual 520, 3) := by decide +kernel
theorem dX12_drawDeed_145 : decode cX12_drawDeed 145 = .ok (.invokevirtual 346, 3) := by decide +kernel
theorem dX12_drawDeed_148 : decode cX12_drawDeed 148 = .ok (.pop, 1) := by decide +kernel
theorem dX12_drawDeed_149 : decode cX12_drawDeed 149 = .ok (.return_, 1) := by decide +kernel
theorem dX12_rankCost_0 : decode cX12_rankCost 0 = .ok (.aload_n 0, 1) := by decide +kernel
theorem dX12_rankCost_1 : decode cX12_rankCost 1 = .ok (.iload_n 1, 1) := by decide +kernel
theorem dX12_rankCost_2 : decode cX12_rankCost 2 = .ok (.iload_n 2, 1) := by decide +kernel
theorem dX12_rankCost_3 : decode cX12_rankCost 3 = .ok (.invokevirtual 382, 3) := by decide +kernel
theorem dX12_rankCost_6 : decode cX12_rankCost 6 = .ok (.istore_n 3, 1) := by decide +kernel
theorem dX12_rankCost_7 : decode cX12_rankCost 7 = .ok (.iload_n 3, 1) := by decide +kernel
theorem dX12_rankCost_8 : decode cX12_rankCost 8 = .ok (.iconst (-1), 1) := by decide +kernel
theorem dX12_rankCost_9 : decode cX12_rankCost 9 = .ok (.if_icmp .ne 9, 3) := by decide +kernel
theorem dX12_rankCost_12 : decode cX12_rankCost 12 = .ok (.ldc_w 371, 3) := by decide +kernel
theorem dX12_rankCost_15 : decode cX12_rankCost 15 = .ok (.goto 10, 3) := by decide +kernel
theorem dX12_rankCost_18 : decode cX12_rankCost 18 = .ok (.aload_n 0, 1) := by decide +kernel
theorem dX12_rankCost_19 : decode cX12_rankCost 19 = .ok (.iload_n 1, 1) := by decide +kernel
theorem dX12_rankCost_20 : decode cX12_rankCost 20 = .ok (.iload_n 2, 1) := by decide +kernel
theorem dX12_rankCost_21 : decode cX12_rankCost 21 = .ok (.iload_n 3, 1) := by decide +kernel
theorem dX12_rankCost_22 : decode cX12_rankCost 22 = .ok (.invokevirtual 378, 3) := by decide +kernel
theorem dX12_rankCost_25 : decode cX12_rankCost 25 = .ok (.ireturn, 1) := by decide +kernel
theorem dX12_lineOf_0 : decode cX12_lineOf 0 = .ok (.iload_n 1, 1) := by decide +kernel
theorem dX12_lineOf_1 : decode cX12_lineOf 1 = .ok (.tableswitch 51 0 2 #[27, 35, 43], 27) := by decide +kernel
theorem dX12_lineOf_28 : decode cX12_lineOf 28 = .ok (.aload_n 0, 1) := by decide +kernel
theorem dX12_lineOf_29 : decode cX12_lineOf 29 = .ok (.lload_n 2, 1) := by decide +kernel
theorem dX12_lineOf_30 : decode cX12_lineOf 30 = .ok (.iload 4, 2) := by decide +kernel
theorem dX12_lineOf_32 : decode cX12_lineOf 32 = .ok (.invokevirtual 238, 3) := by decide +kernel
theorem dX12_lineOf_35 : decode cX12_lineOf 35 = .ok (.ireturn, 1) := by decide +kernel
theorem dX12_lineOf_36 : decode cX12_lineOf 36 = .ok (.aload_n 0, 1) := by decide +kernel
theorem dX12_lineOf_37 : decode cX12_lineOf 37 = .ok (.lload_n 2, 1) := by decide +kernel
theorem dX12_lineOf_38 : decode cX12_lineOf 38 = .ok (.iload 4, 2) := by decide +kernel
theorem dX12_lineOf_40 : decode cX12_lineOf 40 = .ok (.invokevirtual 242, 3) := by decide +kernel
theorem dX12_lineOf_43 : decode cX12_lineOf 43 = .ok (.ireturn, 1) := by decide +kernel
theorem dX12_lineOf_44 : decode cX12_lineOf 44 = .ok (.aload_n 0, 1) := by decide +kernel
theorem dX12_lineOf_45 : decode cX12_lineOf 45 = .ok (.lload_n 2, 1) := by decide +kernel
theorem dX12_lineOf_46 : decode cX12_lineOf 46 = .ok (.iload 4, 2) := by decide +kernel
theorem dX12_lineOf_48 : decode cX12_lineOf 48 = .ok (.invokevirtual 245, 3) := by decide +kernel
theorem dX12_lineOf_51 : decode cX12_lineOf 51 = .ok (.ireturn, 1) := by decide +kernel
theorem dX12_lineOf_52 : decode cX12_lineOf 52 = .ok (.aload_n 0, 1) := by decide +kernel
theorem dX12_lineOf_53 : decode cX12_lineOf 53 = .ok (.lload_n 2, 1) := by decide +kernel
theorem dX12_lineOf_54 : decode cX12_lineOf 54 = .ok (.invokevirtual 248, 3) := by decide +kernel
theorem dX12_lineOf_57 : decode cX12_lineOf 57 = .ok (.ireturn, 1) := by decide +kernel
theorem dX12_play_0 : decode cX12_play 0 = .ok (.aload_n 0, 1) := by decide +kernel
theorem dX12_play_1 : decode cX12_play 1 = .ok (.invokevirtual 350, 3) := by decide +kernel
theorem dX12_play_4 : decode cX12_play 4 = .ok (.iconst 0, 1) := by decide +kernel
theorem dX12_play_5 : decode cX12_play 5 = .ok (.istore_n 2, 1) := by decide +kernel
theorem dX12_play_6 : decode cX12_play 6 = .ok (.iload_n 2, 1) := by decide +kernel
theorem dX12_play_7 : decode cX12_play 7 = .ok (.iload_n 1, 1) := by decide +kernel
theorem dX12_play_8 : decode cX12_play 8 = .ok (.if_icmp .ge 17, 3) := by decide +kernel
theorem dX12_play_11 : decode cX12_play 11 = .ok (.aload_n 0, 1) := by decide +kernel
theorem dX12_play_12 : decode cX12_play 12 = .ok (.iload_n 2, 1) := by decide +kernel
theorem dX12_play_13 : decode cX12_play 13 = .ok (.invokevirtual 353, 3) := by decide +kernel
theorem dX12_play_16 : decode cX12_play 16 = .ok (.ifCond .eq 9, 3) := by decide +kernel
theorem dX12_play_19 : decode cX12_play 19 = .ok (.iinc 2 1, 3) := by decide +kernel
theorem dX12_play_22 : decode cX12_play 22 = .ok (.goto (-16), 3) := by decide +kernel
theorem dX12_play_25 : decode cX12_play 25 = .ok (.iload_n 2, 1) := by decide +kernel
theorem dX12_play_26 : decode cX12_play 26 = .ok (.ireturn, 1) := by decide +kernel
theorem dX12_beginOf_0 : decode cX12_beginOf 0 = .ok (.aload_n 0, 1) := by decide +kernel
theorem dX12_beginOf_1 : decode cX12_beginOf 1 = .ok (.iload_n 1, 1) := by decide +kernel
theorem dX12_beginOf_2 : decode cX12_beginOf 2 = .ok (.iload_n 2, 1) := by decide +kernel
theorem dX12_beginOf_3 : decode cX12_beginOf 3 = .ok (.invokevirtual 388, 3) := by decide +kernel
theorem dX12_beginOf_6 : decode cX12_beginOf 6 = .ok (.istore 4, 2) := by decide +kernel
theorem dX12_beginOf_8 : decode cX12_beginOf 8 = .ok (.iconst 0, 1) := by decide +kernel
theorem dX12_beginOf_9 : decode cX12_beginOf 9 = .ok (.istore 5, 2) := by decide +kernel
theorem dX12_beginOf_11 : decode cX12_beginOf 11 = .ok (.iload 5, 2) := by decide +kernel
theorem dX12_beginOf_13 : decode cX12_beginOf 13 = .ok (.iload_n 3, 1) := by decide +kernel
theorem dX12_beginOf_14 : decode cX12_beginOf 14 = .ok (.if_icmp .gt 91, 3) := by decide +kernel
theorem dX12_beginOf_17 : decode cX12_beginOf 17 = .ok (.iconst 0, 1) := by decide +kernel
theorem dX12_beginOf_18 : decode cX12_beginOf 18 = .ok (.istore 6, 2) := by decide +kernel
theorem dX12_beginOf_20 : decode cX12_beginOf 20 = .ok (.iload 6, 2) := by decide +kernel
theorem dX12_beginOf_22 : decode cX12_beginOf 22 = .ok (.aload_n 0, 1) := by decide +kernel
theorem dX12_beginOf_23 : decode cX12_beginOf 23 = .ok (.getfield 283, 3) := by decide +kernel
theorem dX12_beginOf_26 : decode cX12_beginOf 26 = .ok (.if_icmp .ge 73, 3) := by decide +kernel
theorem dX12_beginOf_29 : decode cX12_beginOf 29 = .ok (.iload_n 2, 1) := by decide +kernel
theorem dX12_beginOf_30 : decode cX12_beginOf 30 = .ok (.iload 5, 2) := by decide +kernel
theorem dX12_beginOf_32 : decode cX12_beginOf 32 = .ok (.invokestatic 104, 3) := by decide +kernel
theorem dX12_beginOf_35 : decode cX12_beginOf 35 = .ok (.ifCond .eq 64, 3) := by decide +kernel
theorem dX12_beginOf_38 : decode cX12_beginOf 38 = .ok (.aload_n 0, 1) := by decide +kernel
theorem dX12_beginOf_39 : decode cX12_beginOf 39 = .ok (.getfield 66, 3) := by decide +kernel
theorem dX12_beginOf_42 : decode cX12_beginOf 42 = .ok (.iload 5, 2) := by decide +kernel
theorem dX12_beginOf_44 : decode cX12_beginOf 44 = .ok (.iaload, 1) := by decide +kernel
theorem dX12_beginOf_45 : decode cX12_beginOf 45 = .ok (.iconst (-1), 1) := by decide +kernel
theorem dX12_beginOf_46 : decode cX12_beginOf 46 = .ok (.if_icmp .ne 53, 3) := by decide +kernel
theorem dX12_beginOf_49 : decode cX12_beginOf 49 = .ok (.aload_n 0, 1) := by decide +kernel
theorem dX12_beginOf_50 : decode cX12_beginOf 50 = .ok (.getfield 66, 3) := by decide +kernel
theorem dX12_beginOf_53 : decode cX12_beginOf 53 = .ok (.iload 5, 2) := by decide +kernel
theorem dX12_beginOf_55 : decode cX12_beginOf 55 = .ok (.iload 6, 2) := by decide +kernel
theorem dX12_beginOf_57 : decode cX12_beginOf 57 = .ok (.iastore, 1) := by decide +kernel
theorem dX12_beginOf_58 : decode cX12_beginOf 58 = .ok (.aload_n 0, 1) := by decide +kernel
theorem dX12_beginOf_59 : decode cX12_beginOf 59 = .ok (.getfield 66, 3) := by decide +kernel
theorem dX12_beginOf_62 : decode cX12_beginOf 62 = .ok (.iload 5, 2) := by decide +kernel
theorem dX12_beginOf_64 : decode cX12_beginOf 64 = .ok (.aload_n 0, 1) := by decide +kernel
theorem dX12_beginOf_65 : decode cX12_beginOf 65 = .ok (.iload 5, 2) := by decide +kernel
theorem dX12_beginOf_67 : decode cX12_beginOf 67 = .ok (.iload 6, 2) := by decide +kernel
theorem dX12_beginOf_69 : decode cX12_beginOf 69 = .ok (.invokevirtual 325, 3) := by decide +kernel
theorem dX12_beginOf_72 : decode cX12_beginOf 72 = .ok (.ifCond .eq 19, 3) := by decide +kernel
theorem dX12_beginOf_75 : decode cX12_beginOf 75 = .ok (.aload_n 0, 1) := by decide +kernel
theorem dX12_beginOf_76 : decode cX12_beginOf 76 = .ok (.iload_n 1, 1) := by decide +kernel
theorem dX12_beginOf_77 : decode cX12_beginOf 77 = .ok (.iload_n 2, 1) := by decide +kernel
theorem dX12_beginOf_78 : decode cX12_beginOf 78 = .ok (.invokevirtual 388, 3) := by decide +kernel
theorem dX12_beginOf_81 : decode cX12_beginOf 81 = .ok (.iload 4, 2) := by decide +kernel
theorem dX12_beginOf_83 : decode cX12_beginOf 83 = .ok (.if_icmp .ne 8, 3) := by decide +kernel
theorem dX12_beginOf_86 : decode cX12_beginOf 86 = .ok (.iload 6, 2) := by decide +kernel
theorem dX12_beginOf_88 : decode cX12_beginOf 88 = .ok (.goto 4, 3) := by decide +kernel
theorem dX12_beginOf_91 : decode cX12_beginOf 91 = .ok (.iconst (-1), 1) := by decide +kernel
theorem dX12_beginOf_92 : decode cX12_beginOf 92 = .ok (.iastore, 1) := by decide +kernel
theorem dX12_beginOf_93 : decode cX12_beginOf 93 = .ok (.iinc 6 1, 3) := by decide +kernel
theorem dX12_beginOf_96 : decode cX12_beginOf 96 = .ok (.goto (-76), 3) := by decide +kernel
theorem dX12_beginOf_99 : decode cX12_beginOf 99 = .ok (.iinc 5 1, 3) := by decide +kernel
theorem dX12_beginOf_102 : decode cX12_beginOf 102 = .ok (.goto (-91), 3) := by decide +kernel
theorem dX12_beginOf_105 : decode cX12_beginOf 105 = .ok (.aload_n 0, 1) := by decide +kernel
theorem dX12_beginOf_106 : decode cX12_beginOf 106 = .ok (.getfield 66, 3) := by decide +kernel
theorem dX12_beginOf_109 : decode cX12_beginOf 109 = .ok (.iload_n 3, 1) := by decide +kernel
theorem dX12_beginOf_110 : decode cX12_beginOf 110 = .ok (.iaload, 1) := by decide +kernel
theorem dX12_beginOf_111 : decode cX12_beginOf 111 = .ok (.ireturn, 1) := by decide +kernel
theorem dX12_plan_0 : decode cX12_plan 0 = .ok (.aload_n 0, 1) := by decide +kernel
theorem dX12_plan_1 : decode cX12_plan 1 = .ok (.iconst 0, 1) := by decide +kernel
theorem dX12_plan_2 : decode cX12_plan 2 = .ok (.putfield 100, 3) := by decide +kernel
theorem dX12_plan_5 : decode cX12_plan 5 = .ok (.aload_n 0, 1) := by decide +kernel
theorem dX12_plan_6 : decode cX12_plan 6 = .ok (.iload_n 1, 1) := by decide +kernel
theorem dX12_plan_7 : decode cX12_plan 7 = .ok (.invokevirtual 298, 3) := by decide +kernel
theorem dX12_plan_10 : decode cX12_plan 10 = .ok (.ifCond .eq 11, 3) := by decide +kernel
theorem dX12_plan_13 : decode cX12_plan 13 = .ok (.aload_n 0, 1) := by decide +kernel
theorem dX12_plan_14 : decode cX12_plan 14 = .ok (.iload_n 2, 1) := by decide +kernel
theorem dX12_plan_15 : decode cX12_plan 15 = .ok (.invokevirtual 316, 3) := by decide +kernel
theorem dX12_plan_18 : decode cX12_plan 18 = .ok (.ifCond .ne 5, 3) := by decide +kernel
theorem dX12_plan_21 : decode cX12_plan 21 = .ok (.iconst (-1), 1) := by decide +kernel
theorem dX12_plan_22 : decode cX12_plan 22 = .ok (.ireturn, 1) := by decide +kernel
theorem dX12_plan_23 : decode cX12_plan 23 = .ok (.aload_n 0, 1) := by decide +kernel
theorem dX12_plan_24 : decode cX12_plan 24 = .ok (.iload_n 2, 1) := by decide +kernel
theorem dX12_plan_25 : decode cX12_plan 25 = .ok (.invokevirtual 406, 3) := by decide +kernel
theorem dX12_plan_28 : decode cX12_plan 28 = .ok (.istore 4, 2) := by decide +kernel
theorem dX12_plan_30 : decode cX12_plan 30 = .ok (.iload_n 3, 1) := by decide +kernel
theorem dX12_plan_31 : decode cX12_plan 31 = .ok (.ifCond .eq 8, 3) := by decide +kernel
theorem dX12_plan_34 : decode cX12_plan 34 = .ok (.iload 4, 2) := by decide +kernel
theorem dX12_plan_36 : decode cX12_plan 36 = .ok (.goto 7, 3) := by decide +kernel
theorem dX12_plan_39 : decode cX12_plan 39 = .ok (.aload_n 0, 1) := by decide +kernel
theorem dX12_plan_40 : decode cX12_plan 40 = .ok (.getfield 397, 3) := by decide +kernel
theorem dX12_plan_43 : decode cX12_plan 43 = .ok (.ireturn, 1) := by decide +kernel
theorem dX12_drawn_0 : decode cX12_drawn 0 = .ok (.aload_n 0, 1) := by decide +kernel
theorem dX12_drawn_1 : decode cX12_drawn 1 = .ok (.iconst 0, 1) := by decide +kernel
theorem dX12_drawn_2 : decode cX12_drawn 2 = .ok (.putfield 100, 3) := by decide +kernel
theorem dX12_drawn_5 : decode cX12_drawn 5 = .ok (.iload_n 3, 1) := by decide +kernel
theorem dX12_drawn_6 : decode cX12_drawn 6 = .ok (.iconst 0, 1) := by decide +kernel
theorem dX12_drawn_7 : decode cX12_drawn 7 = .ok (.bipush 60, 2) := by decide +kernel
theorem dX12_drawn_9 : decode cX12_drawn 9 = .ok (.invokestatic 112, 3) := by decide +kernel
theorem dX12_drawn_12 : decode cX12_drawn 12 = .ok (.ifCond .eq 11, 3) := by decide +kernel
theorem dX12_drawn_15 : decode cX12_drawn 15 = .ok (.aload_n 0, 1) := by decide +kernel
theorem dX12_drawn_16 : decode cX12_drawn 16 = .ok (.iload_n 1, 1) := by decide +kernel
theorem dX12_drawn_17 : decode cX12_drawn 17 = .ok (.invokevirtual 298, 3) := by decide +kernel
theorem dX12_drawn_20 : decode cX12_drawn 20 = .ok (.ifCond .ne 6, 3) := by decide +kernel
theorem dX12_drawn_23 : decode cX12_drawn 23 = .ok (.bipush (-2), 2) := by decide +kernel
theorem dX12_drawn_25 : decode cX12_drawn 25 = .ok (.ireturn, 1) := by decide +kernel
theorem dX12_drawn_26 : decode cX12_drawn 26 = .ok (.aload_n 0, 1) := by decide +kernel
theorem dX12_drawn_27 : decode cX12_drawn 27 = .ok (.iload_n 2, 1) := by decide +kernel
theorem dX12_drawn_28 : decode cX12_drawn 28 = .ok (.putfield 516, 3) := by decide +kernel
theorem dX12_drawn_31 : decode cX12_drawn 31 = .ok (.aload_n 0, 1) := by decide +kernel
theorem dX12_drawn_32 : decode cX12_drawn 32 = .ok (.invokevirtual 350, 3) := by decide +kernel
theorem dX12_drawn_35 : decode cX12_drawn 35 = .ok (.iconst 0, 1) := by decide +kernel
theorem dX12_drawn_36 : decode cX12_drawn 36 = .ok (.istore 5, 2) := by decide +kernel
theorem dX12_drawn_38 : decode cX12_drawn 38 = .ok (.iload 5, 2) := by decide +kernel
theorem dX12_drawn_40 : decode cX12_drawn 40 = .ok (.iload_n 3, 1) := by decide +kernel
theorem dX12_drawn_41 : decode cX12_drawn 41 = .ok (.if_icmp .ge 13, 3) := by decide +kernel
theorem dX12_drawn_44 : decode cX12_drawn 44 = .ok (.aload_n 0, 1) := by decide +kernel
theorem dX12_drawn_45 : decode cX12_drawn 45 = .ok (.invokevirtual 523, 3) := by decide +kernel
theorem dX12_drawn_48 : decode cX12_drawn 48 = .ok (.iinc 5 1, 3) := by decide +kernel
theorem dX12_drawn_51 : decode cX12_drawn 51 = .ok (.goto (-13), 3) := by decide +kernel
theorem dX12_drawn_54 : decode cX12_drawn 54 = .ok (.aload_n 0, 1) := by decide +kernel
theorem dX12_drawn_55 : decode cX12_drawn 55 = .ok (.iload 4, 2) := by decide +kernel
theorem dX12_drawn_57 : decode cX12_drawn 57 = .ok (.invokevirtual 368, 3) := by decide +kernel
theorem dX12_drawn_60 : decode cX12_drawn 60 = .ok (.ireturn, 1) := by decide +kernel
theorem dX12_gift_0 : decode cX12_gift 0 = .ok (.aload_n 0, 1) := by decide +kernel
theorem dX12_gift_1 : decode cX12_gift 1 = .ok (.iconst 0, 1) := by decide +kernel
theorem dX12_gift_2 : decode cX12_gift 2 = .ok (.putfield 100, 3) := by decide +kernel
theorem dX12_gift_5 : decode cX12_gift 5 = .ok (.aload_n 0, 1) := by decide +kernel
theorem dX12_gift_6 : decode cX12_gift 6 = .ok (.iload_n 1, 1) := by decide +kernel
theorem dX12_gift_7 : decode cX12_gift 7 = .ok (.invokevirtual 298, 3) := by decide +kernel
theorem dX12_gift_10 : decode cX12_gift 10 = .ok (.ifCond .eq 19, 3) := by decide +kernel
theorem dX12_gift_13 : decode cX12_gift 13 = .ok (.aload_n 0, 1) := by decide +kernel
theorem dX12_gift_14 : decode cX12_gift 14 = .ok (.iload_n 2, 1) := by decide +kernel
theorem dX12_gift_15 : decode cX12_gift 15 = .ok (.invokevirtual 316, 3) := by decide +kernel
theorem dX12_gift_18 : decode cX12_gift 18 = .ok (.ifCond .eq 11, 3) := by decide +kernel
theorem dX12_gift_21 : decode cX12_gift 21 = .ok (.aload_n 0, 1) := by decide +kernel
theorem dX12_gift_22 : decode cX12_gift 22 = .ok (.iload_n 3, 1) := by decide +kernel
theorem dX12_gift_23 : decode cX12_gift 23 = .ok (.invokevirtual 391, 3) := by decide +kernel
theorem dX12_gift_26 : decode cX12_gift 26 = .ok (.ifCond .ne 5, 3) := by decide +kernel
theorem dX12_gift_29 : decode cX12_gift 29 = .ok (.iconst (-1), 1) := by decide +kernel
theorem dX12_gift_30 : decode cX12_gift 30 = .ok (.ireturn, 1) := by decide +kernel
theorem dX12_gift_31 : decode cX12_gift 31 = .ok (.iconst (-1), 1) := by decide +kernel
theorem dX12_gift_32 : decode cX12_gift 32 = .ok (.istore 5, 2) := by decide +kernel
theorem dX12_gift_34 : decode cX12_gift 34 = .ok (.ldc_w 371, 3) := by decide +kernel
theorem dX12_gift_37 : decode cX12_gift 37 = .ok (.istore 6, 2) := by decide +kernel
theorem dX12_gift_39 : decode cX12_gift 39 = .ok (.iconst 0, 1) := by decide +kernel
theorem dX12_gift_40 : decode cX12_gift 40 = .ok (.istore 7, 2) := by decide +kernel
theorem dX12_gift_42 : decode cX12_gift 42 = .ok (.iload 7, 2) := by decide +kernel
theorem dX12_gift_44 : decode cX12_gift 44 = .ok (.aload_n 0, 1) := by decide +kernel
theorem dX12_gift_45 : decode cX12_gift 45 = .ok (.getfield 283, 3) := by decide +kernel
theorem dX12_gift_48 : decode cX12_gift 48 = .ok (.if_icmp .ge 74, 3) := by decide +kernel
theorem dX12_gift_51 : decode cX12_gift 51 = .ok (.aload_n 0, 1) := by decide +kernel
theorem dX12_gift_52 : decode cX12_gift 52 = .ok (.getfield 50, 3) := by decide +kernel
theorem dX12_gift_55 : decode cX12_gift 55 = .ok (.iload 7, 2) := by decide +kernel
theorem dX12_gift_57 : decode cX12_gift 57 = .ok (.iaload, 1) := by decide +kernel
theorem dX12_gift_58 : decode cX12_gift 58 = .ok (.istore 8, 2) := by decide +kernel
theorem dX12_gift_60 : decode cX12_gift 60 = .ok (.iload 8, 2) := by decide +kernel
theorem dX12_gift_62 : decode cX12_gift 62 = .ok (.iload_n 2, 1) := by decide +kernel
theorem dX12_gift_63 : decode cX12_gift 63 = .ok (.if_icmp .eq 53, 3) := by decide +kernel
theorem dX12_gift_66 : decode cX12_gift 66 = .ok (.aload_n 0, 1) := by decide +kernel
theorem dX12_gift_67 : decode cX12_gift 67 = .ok (.getfield 50, 3) := by decide +kernel
theorem dX12_gift_70 : decode cX12_gift 70 = .ok (.iload 7, 2) := by decide +kernel
theorem dX12_gift_72 : decode cX12_gift 72 = .ok (.iload_n 2, 1) := by decide +kernel
theorem dX12_gift_73 : decode cX12_gift 73 = .ok (.iastore, 1) := by decide +kernel
theorem dX12_gift_74 : decode cX12_gift 74 = .ok (.aload_n 0, 1) := by decide +kernel
theorem dX12_gift_75 : decode cX12_gift 75 = .ok (.iload_n 2, 1) := by decide +kernel
theorem dX12_gift_76 : decode cX12_gift 76 = .ok (.iload_n 3, 1) := by decide +kernel
theorem dX12_gift_77 : decode cX12_gift 77 = .ok (.invokevirtual 388, 3) := by decide +kernel
theorem dX12_gift_80 : decode cX12_gift 80 = .ok (.istore 9, 2) := by decide +kernel
theorem dX12_gift_82 : decode cX12_gift 82 = .ok (.aload_n 0, 1) := by decide +kernel
theorem dX12_gift_83 : decode cX12_gift 83 = .ok (.getfield 50, 3) := by decide +kernel
theorem dX12_gift_86 : decode cX12_gift 86 = .ok (.iload 7, 2) := by decide +kernel
theorem dX12_gift_88 : decode cX12_gift 88 = .ok (.iload 8, 2) := by decide +kernel
theorem dX12_gift_90 : decode cX12_gift 90 = .ok (.iastore, 1) := by decide +kernel
theorem dX12_gift_91 : decode cX12_gift 91 = .ok (.iload 9, 2) := by decide +kernel
theorem dX12_gift_93 : decode cX12_gift 93 = .ok (.iload 6, 2) := by decide +kernel
theorem dX12_gift_95 : decode cX12_gift 95 = .ok (.if_icmp .ge 8, 3) := by decide +kernel
theorem dX12_gift_98 : decode cX12_gift 98 = .ok (.iload 7, 2) := by decide +kernel
theorem dX12_gift_100 : decode cX12_gift 100 = .ok (.goto 5, 3) := by decide +kernel
theorem dX12_gift_103 : decode cX12_gift 103 = .ok (.iload 5, 2) := by decide +kernel
theorem dX12_gift_105 : decode cX12_gift 105 = .ok (.istore 5, 2) := by decide +kernel
theorem dX12_gift_107 : decode cX12_gift 107 = .ok (.iload 6, 2) := by decide +kernel
theorem dX12_gift_109 : decode cX12_gift 109 = .ok (.iload 9, 2) := by decide +kernel
theorem dX12_gift_111 : decode cX12_gift 111 = .ok (.invokestatic 375, 3) := by decide +kernel
theorem dX12_gift_114 : decode cX12_gift 114 = .ok (.istore 6, 2) := by decide +kernel
theorem dX12_gift_116 : decode cX12_gift 116 = .ok (.iinc 7 1, 3) := by decide +kernel
theorem dX12_gift_119 : decode cX12_gift 119 = .ok (.goto (-77), 3) := by decide +kernel
theorem dX12_gift_122 : decode cX12_gift 122 = .ok (.iload 5, 2) := by decide +kernel
theorem dX12_gift_124 : decode cX12_gift 124 = .ok (.iconst (-1), 1) := by decide +kernel
theorem dX12_gift_125 : decode cX12_gift 125 = .ok (.if_icmp .eq 8, 3) := by decide +kernel
theorem dX12_gift_128 : decode cX12_gift 128 = .ok (.iload 4, 2) := by decide +kernel
theorem dX12_gift_130 : decode cX12_gift 130 = .ok (.ifCond .ne 8, 3) := by decide +kernel
theorem dX12_gift_133 : decode cX12_gift 133 = .ok (.iload 5, 2) := by decide +kernel
theorem dX12_gift_135 : decode cX12_gift 135 = .ok (.goto 5, 3) := by decide +kernel
theorem dX12_gift_138 : decode cX12_gift 138 = .ok (.iload 6, 2) := by decide +kernel
theorem dX12_gift_140 : decode cX12_gift 140 = .ok (.ireturn, 1) := by decide +kernel
theorem dX12_missed_0 : decode cX12_missed 0 = .ok (.aload_n 0, 1) := by decide +kernel
theorem dX12_missed_1 : decode cX12_missed 1 = .ok (.iconst 0, 1) := by decide +kernel
theorem dX12_missed_2 : decode cX12_missed 2 = .ok (.putfield 100, 3) := by decide +kernel
theorem dX12_missed_5 : decode cX12_missed 5 = .ok (.aload_n 0, 1) := by decide +kernel
theorem dX12_missed_6 : decode cX12_missed 6 = .ok (.iload_n 1, 1) := by decide +kernel
theorem dX12_missed_7 : decode cX12_missed 7 = .ok (.invokevirtual 298, 3) := by decide +kernel
theorem dX12_missed_10 : decode cX12_missed 10 = .ok (.ifCond .eq 19, 3) := by decide +kernel
theorem dX12_missed_13 : decode cX12_missed 13 = .ok (.aload_n 0, 1) := by decide +kernel
theorem dX12_missed_14 : decode cX12_missed 14 = .ok (.iload_n 2, 1) := by decide +kernel
theorem dX12_missed_15 : decode cX12_missed 15 = .ok (.invokevirtual 316, 3) := by decide +kernel
theorem dX12_missed_18 : decode cX12_missed 18 = .ok (.ifCond .eq 11, 3) := by decide +kernel
theorem dX12_missed_21 : decode cX12_missed 21 = .ok (.aload_n 0, 1) := by decide +kernel
theorem dX12_missed_22 : decode cX12_missed 22 = .ok (.iload_n 3, 1) := by decide +kernel
theorem dX12_missed_23 : decode cX12_missed 23 = .ok (.invokevirtual 322, 3) := by decide +kernel
theorem dX12_missed_26 : decode cX12_missed 26 = .ok (.ifCond .ne 5, 3) := by decide +kernel
theorem dX12_missed_29 : decode cX12_missed 29 = .ok (.iconst (-1), 1) := by decide +kernel
theorem dX12_missed_30 : decode cX12_missed 30 = .ok (.ireturn, 1) := by decide +kernel
theorem dX12_missed_31 : decode cX12_missed 31 = .ok (.aload_n 0, 1) := by decide +kernel
theorem dX12_missed_32 : decode cX12_missed 32 = .ok (.iload_n 2, 1) := by decide +kernel
theorem dX12_missed_33 : decode cX12_missed 33 = .ok (.invokevirtual 406, 3) := by decide +kernel
theorem dX12_missed_36 : decode cX12_missed 36 = .ok (.istore 4, 2) := by decide +kernel
theorem dX12_missed_38 : decode cX12_missed 38 = .ok (.aload_n 0, 1) := by decide +kernel
theorem dX12_missed_39 : decode cX12_missed 39 = .ok (.iload_n 3, 1) := by decide +kernel
theorem dX12_missed_40 : decode cX12_missed 40 = .ok (.putfield 292, 3) := by decide +kernel
theorem dX12_missed_43 : decode cX12_missed 43 = .ok (.iload 4, 2) := by decide +kernel
theorem dX12_missed_45 : decode cX12_missed 45 = .ok (.aload_n 0, 1) := by decide +kernel
theorem dX12_missed_46 : decode cX12_missed 46 = .ok (.iload_n 2, 1) := by decide +kernel
theorem dX12_missed_47 : decode cX12_missed 47 = .ok (.invokevirtual 406, 3) := by decide +kernel
theorem dX12_missed_50 : decode cX12_missed 50 = .ok (.isub, 1) := by decide +kernel
theorem dX12_missed_51 : decode cX12_missed 51 = .ok (.ireturn, 1) := by decide +kernel
theorem dX12_left_0 : decode cX12_left 0 = .ok (.aload_n 0, 1) := by decide +kernel
theorem dX12_left_1 : decode cX12_left 1 = .ok (.iconst 0, 1) := by decide +kernel
theorem dX12_left_2 : decode cX12_left 2 = .ok (.putfield 100, 3) := by decide +kernel
theorem dX12_left_5 : decode cX12_left 5 = .ok (.aload_n 0, 1) := by decide +kernel
theorem dX12_left_6 : decode cX12_left 6 = .ok (.iload_n 1, 1) := by decide +kernel
theorem dX12_left_7 : decode cX12_left 7 = .ok (.invokevirtual 298, 3) := by decide +kernel
theorem dX12_left_10 : decode cX12_left 10 = .ok (.ifCond .eq 27, 3) := by decide +kernel
theorem dX12_left_13 : decode cX12_left 13 = .ok (.aload_n 0, 1) := by decide +kernel
theorem dX12_left_14 : decode cX12_left 14 = .ok (.iload_n 2, 1) := by decide +kernel
theorem dX12_left_15 : decode cX12_left 15 = .ok (.invokevirtual 316, 3) := by decide +kernel
theorem dX12_left_18 : decode cX12_left 18 = .ok (.ifCond .eq 19, 3) := by decide +kernel
theorem dX12_left_21 : decode cX12_left 21 = .ok (.aload_n 0, 1) := by decide +kernel
theorem dX12_left_22 : decode cX12_left 22 = .ok (.iconst 3, 1) := by decide +kernel
theorem dX12_left_23 : decode cX12_left 23 = .ok (.iload_n 2, 1) := by decide +kernel
theorem dX12_left_24 : decode cX12_left 24 = .ok (.iadd, 1) := by decide +kernel
theorem dX12_left_25 : decode cX12_left 25 = .ok (.invokevirtual 279, 3) := by decide +kernel
theorem dX12_left_28 : decode cX12_left 28 = .ok (.aload_n 0, 1) := by decide +kernel
theorem dX12_left_29 : decode cX12_left 29 = .ok (.iload_n 2, 1) := by decide +kernel
theorem dX12_left_30 : decode cX12_left 30 = .ok (.invokevirtual 406, 3) := by decide +kernel
theorem dX12_left_33 : decode cX12_left 33 = .ok (.iadd, 1) := by decide +kernel
theorem dX12_left_34 : decode cX12_left 34 = .ok (.goto 4, 3) := by decide +kernel
theorem dX12_left_37 : decode cX12_left 37 = .ok (.iconst (-1), 1) := by decide +kernel
theorem dX12_left_38 : decode cX12_left 38 = .ok (.ireturn, 1) := by decide +kernel
theorem dX12_ranked_0 : decode cX12_ranked 0 = .ok (.aload_n 0, 1) := by decide +kernel
theorem dX12_ranked_1 : decode cX12_ranked 1 = .ok (.iconst 0, 1) := by decide +kernel
theorem dX12_ranked_2 : decode cX12_ranked 2 = .ok (.putfield 100, 3) := by decide +kernel
theorem dX12_ranked_5 : decode cX12_ranked 5 = .ok (.aload_n 0, 1) := by decide +kernel
theorem dX12_ranked_6 : decode cX12_ranked 6 = .ok (.iload_n 1, 1) := by decide +kernel
theorem dX12_ranked_7 : decode cX12_ranked 7 = .ok (.invokevirtual 298, 3) := by decide +kernel
theorem dX12_ranked_10 : decode cX12_ranked 10 = .ok (.ifCond .eq 11, 3) := by decide +kernel
theorem dX12_ranked_13 : decode cX12_ranked 13 = .ok (.aload_n 0, 1) := by decide +kernel
theorem dX12_ranked_14 : decode cX12_ranked 14 = .ok (.iload_n 2, 1) := by decide +kernel
theorem dX12_ranked_15 : decode cX12_ranked 15 = .ok (.invokevirtual 316, 3) := by decide +kernel
theorem dX12_ranked_18 : decode cX12_ranked 18 = .ok (.ifCond .ne 5, 3) := by decide +kernel
theorem dX12_ranked_21 : decode cX12_ranked 21 = .ok (.iconst (-1), 1) := by decide +kernel
theorem dX12_ranked_22 : decode cX12_ranked 22 = .ok (.ireturn, 1) := by decide +kernel
theorem dX12_ranked_23 : decode cX12_ranked 23 = .ok (.iconst 0, 1) := by decide +kernel
theorem dX12_ranked_24 : decode cX12_ranked 24 = .ok (.istore 4, 2) := by decide +kernel
theorem dX12_ranked_26 : decode cX12_ranked 26 = .ok (.iload 4, 2) := by decide +kernel
theorem dX12_ranked_28 : decode cX12_ranked 28 = .ok (.aload_n 0, 1) := by decide +kernel
theorem dX12_ranked_29 : decode cX12_ranked 29 = .ok (.getfield 289, 3) := by decide +kernel
theorem dX12_ranked_32 : decode cX12_ranked 32 = .ok (.if_icmp .ge 96, 3) := by decide +kernel
theorem dX12_ranked_35 : decode cX12_ranked 35 = .ok (.aload_n 0, 1) := by decide +kernel
theorem dX12_ranked_36 : decode cX12_ranked 36 = .ok (.iload_n 2, 1) := by decide +kernel
theorem dX12_ranked_37 : decode cX12_ranked 37 = .ok (.iload 4, 2) := by decide +kernel
theorem dX12_ranked_39 : decode cX12_ranked 39 = .ok (.invokevirtual 530, 3) := by decide +kernel
theorem dX12_ranked_42 : decode cX12_ranked 42 = .ok (.istore 5, 2) := by decide +kernel
theorem dX12_ranked_44 : decode cX12_ranked 44 = .ok (.iconst 0, 1) := by decide +kernel
theorem dX12_ranked_45 : decode cX12_ranked 45 = .ok (.istore 6, 2) := by decide +kernel
theorem dX12_ranked_47 : decode cX12_ranked 47 = .ok (.iconst 0, 1) := by decide +kernel
theorem dX12_ranked_48 : decode cX12_ranked 48 = .ok (.istore 7, 2) := by decide +kernel
theorem dX12_ranked_50 : decode cX12_ranked 50 = .ok (.iload 7, 2) := by decide +kernel
theorem dX12_ranked_52 : decode cX12_ranked 52 = .ok (.aload_n 0, 1) := by decide +kernel
theorem dX12_ranked_53 : decode cX12_ranked 53 = .ok (.getfield 289, 3) := by decide +kernel
theorem dX12_ranked_56 : decode cX12_ranked 56 = .ok (.if_icmp .ge 49, 3) := by decide +kernel
theorem dX12_ranked_59 : decode cX12_ranked 59 = .ok (.aload_n 0, 1) := by decide +kernel
theorem dX12_ranked_60 : decode cX12_ranked 60 = .ok (.iload_n 2, 1) := by decide +kernel
theorem dX12_ranked_61 : decode cX12_ranked 61 = .ok (.iload 7, 2) := by decide +kernel
theorem dX12_ranked_63 : decode cX12_ranked 63 = .ok (.invokevirtual 530, 3) := by decide +kernel
theorem dX12_ranked_66 : decode cX12_ranked 66 = .ok (.istore 8, 2) := by decide +kernel
theorem dX12_ranked_68 : decode cX12_ranked 68 = .ok (.iload 6, 2) := by decide +kernel
theorem dX12_ranked_70 : decode cX12_ranked 70 = .ok (.iload 8, 2) := by decide +kernel
theorem dX12_ranked_72 : decode cX12_ranked 72 = .ok (.iload 5, 2) := by decide +kernel
theorem dX12_ranked_74 : decode cX12_ranked 74 = .ok (.if_icmp .lt 17, 3) := by decide +kernel
theorem dX12_ranked_77 : decode cX12_ranked 77 = .ok (.iload 8, 2) := by decide +kernel
theorem dX12_ranked_79 : decode cX12_ranked 79 = .ok (.iload 5, 2) := by decide +kernel
theorem dX12_ranked_81 : decode cX12_ranked 81 = .ok (.if_icmp .ne 14, 3) := by decide +kernel
theorem dX12_ranked_84 : decode cX12_ranked 84 = .ok (.iload 7, 2) := by decide +kernel
theorem dX12_ranked_86 : decode cX12_ranked 86 = .ok (.iload 4, 2) := by decide +kernel
theorem dX12_ranked_88 : decode cX12_ranked 88 = .ok (.if_icmp .ge 7, 3) := by decide +kernel
theorem dX12_ranked_91 : decode cX12_ranked 91 = .ok (.iconst 1, 1) := by decide +kernel
theorem dX12_ranked_92 : decode cX12_ranked 92 = .ok (.goto 4, 3) := by decide +kernel
theorem dX12_ranked_95 : decode cX12_ranked 95 = .ok (.iconst 0, 1) := by decide +kernel
theorem dX12_ranked_96 : decode cX12_ranked 96 = .ok (.iadd, 1) := by decide +kernel
theorem dX12_ranked_97 : decode cX12_ranked 97 = .ok (.istore 6, 2) := by decide +kernel
theorem dX12_ranked_99 : decode cX12_ranked 99 = .ok (.iinc 7 1, 3) := by decide +kernel
theorem dX12_ranked_102 : decode cX12_ranked 102 = .ok (.goto (-52), 3) := by decide +kernel
theorem dX12_ranked_105 : decode cX12_ranked 105 = .ok (.iload 5, 2) := by decide +kernel
theorem dX12_ranked_107 : decode cX12_ranked 107 = .ok (.ldc_w 371, 3) := by decide +kernel
theorem dX12_ranked_110 : decode cX12_ranked 110 = .ok (.if_icmp .ge 12, 3) := by decide +kernel
theorem dX12_ranked_113 : decode cX12_ranked 113 = .ok (.iload 6, 2) := by decide +kernel
theorem dX12_ranked_115 : decode cX12_ranked 115 = .ok (.iload_n 3, 1) := by decide +kernel
theorem dX12_ranked_116 : decode cX12_ranked 116 = .ok (.if_icmp .ne 6, 3) := by decide +kernel
theorem dX12_ranked_119 : decode cX12_ranked 119 = .ok (.iload 4, 2) := by decide +kernel
theorem dX12_ranked_121 : decode cX12_ranked 121 = .ok (.ireturn, 1) := by decide +kernel
theorem dX12_ranked_122 : decode cX12_ranked 122 = .ok (.iinc 4 1, 3) := by decide +kernel
theorem dX12_ranked_125 : decode cX12_ranked 125 = .ok (.goto (-99), 3) := by decide +kernel
theorem dX12_ranked_128 : decode cX12_ranked 128 = .ok (.iconst (-1), 1) := by decide +kernel
theorem dX12_ranked_129 : decode cX12_ranked 129 = .ok (.ireturn, 1) := by decide +kernel
theorem dX12_lines_0 : decode cX12_lines 0 = .ok (.iconst 1, 1) := by decide +kernel
theorem dX12_lines_1 : decode cX12_lines 1 = .ok (.istore_n 2, 1) := by decide +kernel
theorem dX12_lines_2 : decode cX12_lines 2 = .ok (.iload_n 2, 1) := by decide +kernel
theorem dX12_lines_3 : decode cX12_lines 3 = .ok (.ifCond .eq 71, 3) := by decide +kernel
theorem dX12_lines_6 : decode cX12_lines 6 = .ok (.aload_n 0, 1) := by decide +kernel
theorem dX12_lines_7 : decode cX12_lines 7 = .ok (.getfield 137, 3) := by decide +kernel
theorem dX12_lines_10 : decode cX12_lines 10 = .ok (.ifCond .eq 64, 3) := by decide +kernel
theorem dX12_lines_13 : decode cX12_lines 13 = .ok (.aload_n 0, 1) := by decide +kernel
theorem dX12_lines_14 : decode cX12_lines 14 = .ok (.getfield 130, 3) := by decide +kernel
theorem dX12_lines_17 : decode cX12_lines 17 = .ok (.istore_n 3, 1) := by decide +kernel
theorem dX12_lines_18 : decode cX12_lines 18 = .ok (.aload_n 0, 1) := by decide +kernel
theorem dX12_lines_19 : decode cX12_lines 19 = .ok (.iconst 1, 1) := by decide +kernel
theorem dX12_lines_20 : decode cX12_lines 20 = .ok (.putfield 160, 3) := by decide +kernel
theorem dX12_lines_23 : decode cX12_lines 23 = .ok (.aload_n 0, 1) := by decide +kernel
theorem dX12_lines_24 : decode cX12_lines 24 = .ok (.iload_n 1, 1) := by decide +kernel
theorem dX12_lines_25 : decode cX12_lines 25 = .ok (.aload_n 0, 1) := by decide +kernel
theorem dX12_lines_26 : decode cX12_lines 26 = .ok (.getfield 137, 3) := by decide +kernel
theorem dX12_lines_29 : decode cX12_lines 29 = .ok (.iconst 2, 1) := by decide +kernel
theorem dX12_lines_30 : decode cX12_lines 30 = .ok (.if_icmp .ne 10, 3) := by decide +kernel
theorem dX12_lines_33 : decode cX12_lines 33 = .ok (.aload_n 0, 1) := by decide +kernel
theorem dX12_lines_34 : decode cX12_lines 34 = .ok (.getfield 133, 3) := by decide +kernel
theorem dX12_lines_37 : decode cX12_lines 37 = .ok (.goto 4, 3) := by decide +kernel
theorem dX12_lines_40 : decode cX12_lines 40 = .ok (.lconst 0, 1) := by decide +kernel
theorem dX12_lines_41 : decode cX12_lines 41 = .ok (.iload_n 3, 1) := by decide +kernel
theorem dX12_lines_42 : decode cX12_lines 42 = .ok (.invokevirtual 252, 3) := by decide +kernel
theorem dX12_lines_45 : decode cX12_lines 45 = .ok (.istore_n 2, 1) := by decide +kernel
theorem dX12_lines_46 : decode cX12_lines 46 = .ok (.iload_n 2, 1) := by decide +kernel
theorem dX12_lines_47 : decode cX12_lines 47 = .ok (.ifCond .eq 16, 3) := by decide +kernel
theorem dX12_lines_50 : decode cX12_lines 50 = .ok (.aload_n 0, 1) := by decide +kernel
theorem dX12_lines_51 : decode cX12_lines 51 = .ok (.getfield 137, 3) := by decide +kernel
theorem dX12_lines_54 : decode cX12_lines 54 = .ok (.iconst 4, 1) := by decide +kernel
theorem dX12_lines_55 : decode cX12_lines 55 = .ok (.if_icmp .eq 8, 3) := by decide +kernel
theorem dX12_lines_58 : decode cX12_lines 58 = .ok (.aload_n 0, 1) := by decide +kernel
theorem dX12_lines_59 : decode cX12_lines 59 = .ok (.invokevirtual 152, 3) := by decide +kernel
theorem dX12_lines_62 : decode cX12_lines 62 = .ok (.istore_n 2, 1) := by decide +kernel
theorem dX12_lines_63 : decode cX12_lines 63 = .ok (.iload_n 2, 1) := by decide +kernel
theorem dX12_lines_64 : decode cX12_lines 64 = .ok (.ifCond .eq 7, 3) := by decide +kernel
theorem dX12_lines_67 : decode cX12_lines 67 = .ok (.aload_n 0, 1) := by decide +kernel
theorem dX12_lines_68 : decode cX12_lines 68 = .ok (.invokevirtual 164, 3) := by decide +kernel
theorem dX12_lines_71 : decode cX12_lines 71 = .ok (.goto (-69), 3) := by decide +kernel
theorem dX12_lines_74 : decode cX12_lines 74 = .ok (.iload_n 2, 1) := by decide +kernel
theorem dX12_lines_75 : decode cX12_lines 75 = .ok (.ireturn, 1) := by decide +kernel
theorem dX12_till_0 : decode cX12_till 0 = .ok (.aload_n 0, 1) := by decide +kernel
theorem dX12_till_1 : decode cX12_till 1 = .ok (.iconst 0, 1) := by decide +kernel
theorem dX12_till_2 : decode cX12_till 2 = .ok (.putfield 100, 3) := by decide +kernel
theorem dX12_till_5 : decode cX12_till 5 = .ok (.aload_n 0, 1) := by decide +kernel
theorem dX12_till_6 : decode cX12_till 6 = .ok (.iload_n 1, 1) := by decide +kernel
theorem dX12_till_7 : decode cX12_till 7 = .ok (.iload_n 2, 1) := by decide +kernel
theorem dX12_till_8 : decode cX12_till 8 = .ok (.invokevirtual 356, 3) := by decide +kernel
theorem dX12_till_11 : decode cX12_till 11 = .ok (.ifCond .eq 14, 3) := by decide +kernel
theorem dX12_till_14 : decode cX12_till 14 = .ok (.aload_n 0, 1) := by decide +kernel
theorem dX12_till_15 : decode cX12_till 15 = .ok (.aload_n 0, 1) := by decide +kernel
theorem dX12_till_16 : decode cX12_till 16 = .ok (.invokevirtual 307, 3) := by decide +kernel
theorem dX12_till_19 : decode cX12_till 19 = .ok (.invokevirtual 359, 3) := by decide +kernel
theorem dX12_till_22 : decode cX12_till 22 = .ok (.goto 4, 3) := by decide +kernel
theorem dX12_till_25 : decode cX12_till 25 = .ok (.iconst (-1), 1) := by decide +kernel
theorem dX12_till_26 : decode cX12_till 26 = .ok (.ireturn, 1) := by decide +kernel
theorem dX12_state_0 : decode cX12_state 0 = .ok (.aload_n 0, 1) := by decide +kernel
theorem dX12_state_1 : decode cX12_state 1 = .ok (.iconst 0, 1) := by decide +kernel
theorem dX12_state_2 : decode cX12_state 2 = .ok (.putfield 100, 3) := by decide +kernel
theorem dX12_state_5 : decode cX12_state 5 = .ok (.aload_n 0, 1) := by decide +kernel
theorem dX12_state_6 : decode cX12_state 6 = .ok (.iload_n 1, 1) := by decide +kernel
theorem dX12_state_7 : decode cX12_state 7 = .ok (.iload_n 2, 1) := by decide +kernel
theorem dX12_state_8 : decode cX12_state 8 = .ok (.invokevirtual 356, 3) := by decide +kernel
theorem dX12_state_11 : decode cX12_state 11 = .ok (.ifCond .eq 33, 3) := by decide +kernel
theorem dX12_state_14 : decode cX12_state 14 = .ok (.iload_n 3, 1) := by decide +kernel
theorem dX12_state_15 : decode cX12_state 15 = .ok (.iconst 0, 1) := by decide +kernel
theorem dX12_state_16 : decode cX12_state 16 = .ok (.aload_n 0, 1) := by decide +kernel
theorem dX12_state_17 : decode cX12_state 17 = .ok (.invokevirtual 307, 3) := by decide +kernel
theorem dX12_state_20 : decode cX12_state 20 = .ok (.invokestatic 112, 3) := by decide +kernel
theorem dX12_state_23 : decode cX12_state 23 = .ok (.ifCond .eq 21, 3) := by decide +kernel
theorem dX12_state_26 : decode cX12_state 26 = .ok (.aload_n 0, 1) := by decide +kernel
theorem dX12_state_27 : decode cX12_state 27 = .ok (.iload_n 3, 1) := by decide +kernel
theorem dX12_state_28 : decode cX12_state 28 = .ok (.invokevirtual 359, 3) := by decide +kernel
theorem dX12_state_31 : decode cX12_state 31 = .ok (.iload_n 3, 1) := by decide +kernel
theorem dX12_state_32 : decode cX12_state 32 = .ok (.if_icmp .ne 12, 3) := by decide +kernel
theorem dX12_state_35 : decode cX12_state 35 = .ok (.aload_n 0, 1) := by decide +kernel
theorem dX12_state_36 : decode cX12_state 36 = .ok (.iload 4, 2) := by decide +kernel
theorem dX12_state_38 : decode cX12_state 38 = .ok (.invokevirtual 368, 3) := by decide +kernel
theorem dX12_state_41 : decode cX12_state 41 = .ok (.goto 5, 3) := by decide +kernel
theorem dX12_state_44 : decode cX12_state 44 = .ok (.bipush (-2), 2) := by decide +kernel
theorem dX12_state_46 : decode cX12_state 46 = .ok (.ireturn, 1) := by decide +kernel
theorem dX12_errands_0 : decode cX12_errands 0 = .ok (.aload_n 0, 1) := by decide +kernel
theorem dX12_errands_1 : decode cX12_errands 1 = .ok (.iconst 0, 1) := by decide +kernel
theorem dX12_errands_2 : decode cX12_errands 2 = .ok (.putfield 100, 3) := by decide +kernel
theorem dX12_errands_5 : decode cX12_errands 5 = .ok (.aload_n 0, 1) := by decide +kernel
theorem dX12_errands_6 : decode cX12_errands 6 = .ok (.iload_n 1, 1) := by decide +kernel
theorem dX12_errands_7 : decode cX12_errands 7 = .ok (.invokevirtual 298, 3) := by decide +kernel
theorem dX12_errands_10 : decode cX12_errands 10 = .ok (.ifCond .eq 34, 3) := by decide +kernel
theorem dX12_errands_13 : decode cX12_errands 13 = .ok (.aload_n 0, 1) := by decide +kernel
theorem dX12_errands_14 : decode cX12_errands 14 = .ok (.iload_n 2, 1) := by decide +kernel
theorem dX12_errands_15 : decode cX12_errands 15 = .ok (.invokevirtual 316, 3) := by decide +kernel
theorem dX12_errands_18 : decode cX12_errands 18 = .ok (.ifCond .eq 26, 3) := by decide +kernel
theorem dX12_errands_21 : decode cX12_errands 21 = .ok (.aload_n 0, 1) := by decide +kernel
theorem dX12_errands_22 : decode cX12_errands 22 = .ok (.iload_n 3, 1) := by decide +kernel
theorem dX12_errands_23 : decode cX12_errands 23 = .ok (.invokevirtual 391, 3) := by decide +kernel
theorem dX12_errands_26 : decode cX12_errands 26 = .ok (.ifCond .eq 18, 3) := by decide +kernel
theorem dX12_errands_29 : decode cX12_errands 29 = .ok (.iload 4, 2) := by decide +kernel
theorem dX12_errands_31 : decode cX12_errands 31 = .ok (.iconst (-1), 1) := by decide +kernel
theorem dX12_errands_32 : decode cX12_errands 32 = .ok (.aload_n 0, 1) := by decide +kernel
theorem dX12_errands_33 : decode cX12_errands 33 = .ok (.getfield 289, 3) := by decide +kernel
theorem dX12_errands_36 : decode cX12_errands 36 = .ok (.iconst 1, 1) := by decide +kernel
theorem dX12_errands_37 : decode cX12_errands 37 = .ok (.isub, 1) := by decide +kernel
theorem dX12_errands_38 : decode cX12_errands 38 = .ok (.invokestatic 112, 3) := by decide +kernel
theorem dX12_errands_41 : decode cX12_errands 41 = .ok (.ifCond .ne 5, 3) := by decide +kernel
theorem dX12_errands_44 : decode cX12_errands 44 = .ok (.iconst (-1), 1) := by decide +kernel
theorem dX12_errands_45 : decode cX12_errands 45 = .ok (.ireturn, 1) := by decide +kernel
theorem dX12_errands_46 : decode cX12_errands 46 = .ok (.aload_n 0, 1) := by decide +kernel
theorem dX12_errands_47 : decode cX12_errands 47 = .ok (.iload_n 2, 1) := by decide +kernel
theorem dX12_errands_48 : decode cX12_errands 48 = .ok (.iload_n 3, 1) := by decide +kernel
theorem dX12_errands_49 : decode cX12_errands 49 = .ok (.invokevirtual 388, 3) := by decide +kernel
theorem dX12_errands_52 : decode cX12_errands 52 = .ok (.istore 5, 2) := by decide +kernel
theorem dX12_errands_54 : decode cX12_errands 54 = .ok (.iload 5, 2) := by decide +kernel
theorem dX12_errands_56 : decode cX12_errands 56 = .ok (.ldc_w 371, 3) := by decide +kernel
theorem dX12_errands_59 : decode cX12_errands 59 = .ok (.if_icmp .lt 7, 3) := by decide +kernel
theorem dX12_errands_62 : decode cX12_errands 62 = .ok (.iconst (-1), 1) := by decide +kernel
theorem dX12_errands_63 : decode cX12_errands 63 = .ok (.goto 22, 3) := by decide +kernel
theorem dX12_errands_66 : decode cX12_errands 66 = .ok (.iload 4, 2) := by decide +kernel
theorem dX12_errands_68 : decode cX12_errands 68 = .ok (.iconst (-1), 1) := by decide +kernel
theorem dX12_errands_69 : decode cX12_errands 69 = .ok (.if_icmp .ne 8, 3) := by decide +kernel
theorem dX12_errands_72 : decode cX12_errands 72 = .ok (.iload 5, 2) := by decide +kernel
theorem dX12_errands_74 : decode cX12_errands 74 = .ok (.goto 11, 3) := by decide +kernel
theorem dX12_errands_77 : decode cX12_errands 77 = .ok (.aload_n 0, 1) := by decide +kernel
theorem dX12_errands_78 : decode cX12_errands 78 = .ok (.iload_n 2, 1) := by decide +kernel
theorem dX12_errands_79 : decode cX12_errands 79 = .ok (.iload_n 3, 1) := by decide +kernel
theorem dX12_errands_80 : decode cX12_errands 80 = .ok (.iload 4, 2) := by decide +kernel
theorem dX12_errands_82 : decode cX12_errands 82 = .ok (.invokevirtual 394, 3) := by decide +kernel
theorem dX12_errands_85 : decode cX12_errands 85 = .ok (.ireturn, 1) := by decide +kernel
theorem dX12_after_0 : decode cX12_after 0 = .ok (.aload_n 0, 1) := by decide +kernel
theorem dX12_after_1 : decode cX12_after 1 = .ok (.iconst 0, 1) := by decide +kernel
theorem dX12_after_2 : decode cX12_after 2 = .ok (.putfield 100, 3) := by decide +kernel
theorem dX12_after_5 : decode cX12_after 5 = .ok (.aload_n 0, 1) := by decide +kernel
theorem dX12_after_6 : decode cX12_after 6 = .ok (.iload_n 1, 1) := by decide +kernel
theorem dX12_after_7 : decode cX12_after 7 = .ok (.iload_n 2, 1) := by decide +kernel
theorem dX12_after_8 : decode cX12_after 8 = .ok (.invokevirtual 356, 3) := by decide +kernel
theorem dX12_after_11 : decode cX12_after 11 = .ok (.ifCond .eq 12, 3) := by decide +kernel
theorem dX12_after_14 : decode cX12_after 14 = .ok (.iload_n 3, 1) := by decide +kernel
theorem dX12_after_15 : decode cX12_after 15 = .ok (.iconst 0, 1) := by decide +kernel
theorem dX12_after_16 : decode cX12_after 16 = .ok (.iconst 4, 1) := by decide +kernel
theorem dX12_after_17 : decode cX12_after 17 = .ok (.invokestatic 112, 3) := by decide +kernel
theorem dX12_after_20 : decode cX12_after 20 = .ok (.ifCond .ne 6, 3) := by decide +kernel
theorem dX12_after_23 : decode cX12_after 23 = .ok (.bipush (-2), 2) := by decide +kernel
theorem dX12_after_25 : decode cX12_after 25 = .ok (.ireturn, 1) := by decide +kernel
theorem dX12_after_26 : decode cX12_after 26 = .ok (.aload_n 0, 1) := by decide +kernel
theorem dX12_after_27 : decode cX12_after 27 = .ok (.aload_n 0, 1) := by decide +kernel
theorem dX12_after_28 : decode cX12_after 28 = .ok (.invokevirtual 307, 3) := by decide +kernel
theorem dX12_after_31 : decode cX12_after 31 = .ok (.invokevirtual 359, 3) := by decide +kernel
theorem dX12_after_34 : decode cX12_after 34 = .ok (.pop, 1) := by decide +kernel
theorem dX12_after_35 : decode cX12_after 35 = .ok (.aload_n 0, 1) := by decide +kernel
theorem dX12_after_36 : decode cX12_after 36 = .ok (.invokevirtual 535, 3) := by decide +kernel
theorem dX12_after_39 : decode cX12_after 39 = .ok (.istore 4, 2) := by decide +kernel
theorem dX12_after_41 : decode cX12_after 41 = .ok (.iload_n 3, 1) := by decide +kernel
theorem dX12_after_42 : decode cX12_after 42 = .ok (.tableswitch 48 0 3 #[30, 35, 40, 45], 30) := by decide +kernel
theorem dX12_after_72 : decode cX12_after 72 = .ok (.aload_n 0, 1) := by decide +kernel
theorem dX12_after_73 : decode cX12_after 73 = .ok (.getfield 313, 3) := by decide +kernel
theorem dX12_after_76 : decode cX12_after 76 = .ok (.ireturn, 1) := by decide +kernel
theorem dX12_after_77 : decode cX12_after 77 = .ok (.aload_n 0, 1) := by decide +kernel
theorem dX12_after_78 : decode cX12_after 78 = .ok (.invokevirtual 538, 3) := by decide +kernel
theorem dX12_after_81 : decode cX12_after 81 = .ok (.ireturn, 1) := by decide +kernel
theorem dX12_after_82 : decode cX12_after 82 = .ok (.aload_n 0, 1) := by decide +kernel
theorem dX12_after_83 : decode cX12_after 83 = .ok (.invokevirtual 541, 3) := by decide +kernel
theorem dX12_after_86 : decode cX12_after 86 = .ok (.ireturn, 1) := by decide +kernel
theorem dX12_after_87 : decode cX12_after 87 = .ok (.iload 4, 2) := by decide +kernel
theorem dX12_after_89 : decode cX12_after 89 = .ok (.ireturn, 1) := by decide +kernel
theorem dX12_after_90 : decode cX12_after 90 = .ok (.iload 4, 2) := by decide +kernel
theorem dX12_after_92 : decode cX12_after 92 = .ok (.iconst (-1), 1) := by decide +kernel
theorem dX12_after_93 : decode cX12_after 93 = .ok (.if_icmp .ne 7, 3) := by decide +kernel
theorem dX12_after_96 : decode cX12_after 96 = .ok (.iconst 0, 1) := by decide +kernel
theorem dX12_after_97 : decode cX12_after 97 = .ok (.goto 10, 3) := by decide +kernel
theorem dX12_after_100 : decode cX12_after 100 = .ok (.aload_n 0, 1) := by decide +kernel
theorem dX12_after_101 : decode cX12_after 101 = .ok (.getfield 63, 3) := by decide +kernel
theorem dX12_after_104 : decode cX12_after 104 = .ok (.iload 4, 2) := by decide +kernel
theorem dX12_after_106 : decode cX12_after 106 = .ok (.iaload, 1) := by decide +kernel
theorem dX12_after_107 : decode cX12_after 107 = .ok (.ireturn, 1) := by decide +kernel
theorem dX12_readText_0 : decode cX12_readText 0 = .ok (.aload_n 0, 1) := by decide +kernel
theorem dX12_readText_1 : decode cX12_readText 1 = .ok (.iload_n 1, 1) := by decide +kernel
theorem dX12_readText_2 : decode cX12_readText 2 = .ok (.invokevirtual 256, 3) := by decide +kernel
theorem dX12_readText_5 : decode cX12_readText 5 = .ok (.aload_n 0, 1) := by decide +kernel
theorem dX12_readText_6 : decode cX12_readText 6 = .ok (.iconst (-1), 1) := by decide +kernel
theorem dX12_readText_7 : decode cX12_readText 7 = .ok (.putfield 170, 3) := by decide +kernel
theorem dX12_readText_10 : decode cX12_readText 10 = .ok (.aload_n 0, 1) := by decide +kernel
theorem dX12_readText_11 : decode cX12_readText 11 = .ok (.iconst (-1), 1) := by decide +kernel
theorem dX12_readText_12 : decode cX12_readText 12 = .ok (.putfield 177, 3) := by decide +kernel
theorem dX12_readText_15 : decode cX12_readText 15 = .ok (.aload_n 0, 1) := by decide +kernel
theorem dX12_readText_16 : decode cX12_readText 16 = .ok (.iconst 0, 1) := by decide +kernel
theorem dX12_readText_17 : decode cX12_readText 17 = .ok (.putfield 120, 3) := by decide +kernel
theorem dX12_readText_20 : decode cX12_readText 20 = .ok (.aload_n 0, 1) := by decide +kernel
theorem dX12_readText_21 : decode cX12_readText 21 = .ok (.iconst 0, 1) := by decide +kernel
theorem dX12_readText_22 : decode cX12_readText 22 = .ok (.putfield 146, 3) := by decide +kernel
theorem dX12_readText_25 : decode cX12_readText 25 = .ok (.aload_n 0, 1) := by decide +kernel
theorem dX12_readText_26 : decode cX12_readText 26 = .ok (.invokevirtual 164, 3) := by decide +kernel
theorem dX12_readText_29 : decode cX12_readText 29 = .ok (.aload_n 0, 1) := by decide +kernel
theorem dX12_readText_30 : decode cX12_readText 30 = .ok (.iload_n 1, 1) := by decide +kernel
theorem dX12_readText_31 : decode cX12_readText 31 = .ok (.invokevirtual 259, 3) := by decide +kernel
theorem dX12_readText_34 : decode cX12_readText 34 = .ok (.istore_n 2, 1) := by decide +kernel
theorem dX12_readText_35 : decode cX12_readText 35 = .ok (.iload_n 1, 1) := by decide +kernel
theorem dX12_readText_36 : decode cX12_readText 36 = .ok (.ifCond .ne 37, 3) := by decide +kernel
theorem dX12_readText_39 : decode cX12_readText 39 = .ok (.aload_n 0, 1) := by decide +kernel
theorem dX12_readText_40 : decode cX12_readText 40 = .ok (.getfield 170, 3) := by decide +kernel
theorem dX12_readText_43 : decode cX12_readText 43 = .ok (.aload_n 0, 1) := by decide +kernel
theorem dX12_readText_44 : decode cX12_readText 44 = .ok (.getfield 38, 3) := by decide +kernel
theorem dX12_readText_47 : decode cX12_readText 47 = .ok (.iconst 0, 1) := by decide +kernel
theorem dX12_readText_48 : decode cX12_readText 48 = .ok (.iaload, 1) := by decide +kernel
theorem dX12_readText_49 : decode cX12_readText 49 = .ok (.if_icmp .ge 16, 3) := by decide +kernel
theorem dX12_readText_52 : decode cX12_readText 52 = .ok (.aload_n 0, 1) := by decide +kernel
theorem dX12_readText_53 : decode cX12_readText 53 = .ok (.getfield 177, 3) := by decide +kernel
theorem dX12_readText_56 : decode cX12_readText 56 = .ok (.aload_n 0, 1) := by decide +kernel
theorem dX12_readText_57 : decode cX12_readText 57 = .ok (.getfield 38, 3) := by decide +kernel
theorem dX12_readText_60 : decode cX12_readText 60 = .ok (.iconst 1, 1) := by decide +kernel
theorem dX12_readText_61 : decode cX12_readText 61 = .ok (.iaload, 1) := by decide +kernel
theorem dX12_readText_62 : decode cX12_readText 62 = .ok (.if_icmp .lt 7, 3) := by decide +kernel
theorem dX12_readText_65 : decode cX12_readText 65 = .ok (.iconst 1, 1) := by decide +kernel
theorem dX12_readText_66 : decode cX12_readText 66 = .ok (.goto 30, 3) := by decide +kernel
theorem dX12_readText_69 : decode cX12_readText 69 = .ok (.iconst 0, 1) := by decide +kernel
theorem dX12_readText_70 : decode cX12_readText 70 = .ok (.goto 26, 3) := by decide +kernel
theorem dX12_readText_73 : decode cX12_readText 73 = .ok (.iload_n 1, 1) := by decide +kernel
theorem dX12_readText_74 : decode cX12_readText 74 = .ok (.iconst 3, 1) := by decide +kernel
theorem dX12_readText_75 : decode cX12_readText 75 = .ok (.if_icmp .ne 20, 3) := by decide +kernel
theorem dX12_readText_78 : decode cX12_readText 78 = .ok (.aload_n 0, 1) := by decide +kernel
theorem dX12_readText_79 : decode cX12_readText 79 = .ok (.getfield 177, 3) := by decide +kernel
theorem dX12_readText_82 : decode cX12_readText 82 = .ok (.aload_n 0, 1) := by decide +kernel
theorem dX12_readText_83 : decode cX12_readText 83 = .ok (.getfield 38, 3) := by decide +kernel
theorem dX12_readText_86 : decode cX12_readText 86 = .ok (.iconst 0, 1) := by decide +kernel
theorem dX12_readText_87 : decode cX12_readText 87 = .ok (.iaload, 1) := by decide +kernel
theorem dX12_readText_88 : decode cX12_readText 88 = .ok (.if_icmp .lt 7, 3) := by decide +kernel
theorem dX12_readText_91 : decode cX12_readText 91 = .ok (.iconst 1, 1) := by decide +kernel
theorem dX12_readText_92 : decode cX12_readText 92 = .ok (.goto 4, 3) := by decide +kernel
theorem dX12_readText_95 : decode cX12_readText 95 = .ok (.iconst 0, 1) := by decide +kernel
theorem dX12_readText_96 : decode cX12_readText 96 = .ok (.istore_n 3, 1) := by decide +kernel
theorem dX12_readText_97 : decode cX12_readText 97 = .ok (.iload_n 2, 1) := by decide +kernel
theorem dX12_readText_98 : decode cX12_readText 98 = .ok (.ifCond .eq 23, 3) := by decide +kernel
theorem dX12_readText_101 : decode cX12_readText 101 = .ok (.aload_n 0, 1) := by decide +kernel
theorem dX12_readText_102 : decode cX12_readText 102 = .ok (.getfield 146, 3) := by decide +kernel
theorem dX12_readText_105 : decode cX12_readText 105 = .ok (.ifCond .ne 16, 3) := by decide +kernel
theorem dX12_readText_108 : decode cX12_readText 108 = .ok (.iload_n 3, 1) := by decide +kernel
theorem dX12_readText_109 : decode cX12_readText 109 = .ok (.ifCond .eq 12, 3) := by decide +kernel
theorem dX12_readText_112 : decode cX12_readText 112 = .ok (.aload_n 0, 1) := by decide +kernel
theorem dX12_readText_113 : decode cX12_readText 113 = .ok (.iconst 4, 1) := by decide +kernel
theorem dX12_readText_114 : decode cX12_readText 114 = .ok (.aload_n 0, 1) := by decide +kernel
theorem dX12_readText_115 : decode cX12_readText 115 = .ok (.getfield 130, 3) := by decide +kernel
theorem dX12_readText_118 : decode cX12_readText 118 = .ok (.invokevirtual 156, 3) := by decide +kernel
theorem dX12_readText_121 : decode cX12_readText 121 = .ok (.aload_n 0, 1) := by decide +kernel
theorem dX12_readText_122 : decode cX12_readText 122 = .ok (.getfield 17, 3) := by decide +kernel
theorem dX12_readText_125 : decode cX12_readText 125 = .ok (.iconst 0, 1) := by decide +kernel
theorem dX12_readText_126 : decode cX12_readText 126 = .ok (.iload_n 2, 1) := by decide +kernel
theorem dX12_readText_127 : decode cX12_readText 127 = .ok (.ifCond .eq 10, 3) := by decide +kernel
theorem dX12_readText_130 : decode cX12_readText 130 = .ok (.aload_n 0, 1) := by decide +kernel
theorem dX12_readText_131 : decode cX12_readText 131 = .ok (.getfield 146, 3) := by decide +kernel
theorem dX12_readText_134 : decode cX12_readText 134 = .ok (.goto 4, 3) := by decide +kernel
theorem dX12_readText_137 : decode cX12_readText 137 = .ok (.iconst 1, 1) := by decide +kernel
theorem dX12_readText_138 : decode cX12_readText 138 = .ok (.iastore, 1) := by decide +kernel
theorem dX12_readText_139 : decode cX12_readText 139 = .ok (.aload_n 0, 1) := by decide +kernel
theorem dX12_readText_140 : decode cX12_readText 140 = .ok (.getfield 20, 3) := by decide +kernel
theorem dX12_readText_143 : decode cX12_readText 143 = .ok (.iconst 0, 1) := by decide +kernel
theorem dX12_readText_144 : decode cX12_readText 144 = .ok (.iload_n 2, 1) := by decide +kernel
theorem dX12_readText_145 : decode cX12_readText 145 = .ok (.ifCond .ne 10, 3) := by decide +kernel
theorem dX12_readText_148 : decode cX12_readText 148 = .ok (.aload_n 0, 1) := by decide +kernel
theorem dX12_readText_149 : decode cX12_readText 149 = .ok (.getfield 143, 3) := by decide +kernel
theorem dX12_readText_152 : decode cX12_readText 152 = .ok (.goto 18, 3) := by decide +kernel
theorem dX12_readText_155 : decode cX12_readText 155 = .ok (.aload_n 0, 1) := by decide +kernel
theorem dX12_readText_156 : decode cX12_readText 156 = .ok (.getfield 146, 3) := by decide +kernel
theorem dX12_readText_159 : decode cX12_readText 159 = .ok (.ifCond .le 10, 3) := by decide +kernel
theorem dX12_readText_162 : decode cX12_readText 162 = .ok (.aload_n 0, 1) := by decide +kernel
theorem dX12_readText_163 : decode cX12_readText 163 = .ok (.getfield 149, 3) := by decide +kernel
theorem dX12_readText_166 : decode cX12_readText 166 = .ok (.goto 4, 3) := by decide +kernel
theorem dX12_readText_169 : decode cX12_readText 169 = .ok (.iconst (-1), 1) := by decide +kernel
theorem dX12_readText_170 : decode cX12_readText 170 = .ok (.iastore, 1) := by decide +kernel
theorem dX12_readText_171 : decode cX12_readText 171 = .ok (.aload_n 0, 1) := by decide +kernel
theorem dX12_readText_172 : decode cX12_readText 172 = .ok (.getfield 17, 3) := by decide +kernel
theorem dX12_readText_175 : decode cX12_readText 175 = .ok (.iconst 0, 1) := by decide +kernel
theorem dX12_readText_176 : decode cX12_readText 176 = .ok (.iaload, 1) := by decide +kernel
theorem dX12_readText_177 : decode cX12_readText 177 = .ok (.ifCond .ne 7, 3) := by decide +kernel
theorem dX12_readText_180 : decode cX12_readText 180 = .ok (.iconst 1, 1) := by decide +kernel
theorem dX12_readText_181 : decode cX12_readText 181 = .ok (.goto 4, 3) := by decide +kernel
theorem dX12_readText_184 : decode cX12_readText 184 = .ok (.iconst 0, 1) := by decide +kernel
theorem dX12_readText_185 : decode cX12_readText 185 = .ok (.ireturn, 1) := by decide +kernel
theorem dX12_text_0 : decode cX12_text 0 = .ok (.aload_n 0, 1) := by decide +kernel
theorem dX12_text_1 : decode cX12_text 1 = .ok (.iconst 0, 1) := by decide +kernel
theorem dX12_text_2 : decode cX12_text 2 = .ok (.putfield 100, 3) := by decide +kernel
theorem dX12_text_5 : decode cX12_text 5 = .ok (.aload_n 0, 1) := by decide +kernel
theorem dX12_text_6 : decode cX12_text 6 = .ok (.aload_n 0, 1) := by decide +kernel
theorem dX12_text_7 : decode cX12_text 7 = .ok (.getfield 13, 3) := by decide +kernel
theorem dX12_text_10 : decode cX12_text 10 = .ok (.iconst 0, 1) := by decide +kernel
theorem dX12_text_11 : decode cX12_text 11 = .ok (.iaload, 1) := by decide +kernel
theorem dX12_text_12 : decode cX12_text 12 = .ok (.putfield 123, 3) := by decide +kernel
theorem dX12_text_15 : decode cX12_text 15 = .ok (.aload_n 0, 1) := by decide +kernel
theorem dX12_text_16 : decode cX12_text 16 = .ok (.getfield 13, 3) := by decide +kernel
theorem dX12_text_19 : decode cX12_text 19 = .ok (.iconst 0, 1) := by decide +kernel
theorem dX12_text_20 : decode cX12_text 20 = .ok (.iconst 0, 1) := by decide +kernel
theorem dX12_text_21 : decode cX12_text 21 = .ok (.iastore, 1) := by decide +kernel
theorem dX12_text_22 : decode cX12_text 22 = .ok (.aload_n 0, 1) := by decide +kernel
theorem dX12_text_23 : decode cX12_text 23 = .ok (.getfield 17, 3) := by decide +kernel
theorem dX12_text_26 : decode cX12_text 26 = .ok (.iconst 0, 1) := by decide +kernel
theorem dX12_text_27 : decode cX12_text 27 = .ok (.iconst 0, 1) := by decide +kernel
theorem dX12_text_28 : decode cX12_text 28 = .ok (.iastore, 1) := by decide +kernel
theorem dX12_text_29 : decode cX12_text 29 = .ok (.aload_n 0, 1) := by decide +kernel
theorem dX12_text_30 : decode cX12_text 30 = .ok (.getfield 20, 3) := by decide +kernel
theorem dX12_text_33 : decode cX12_text 33 = .ok (.iconst 0, 1) := by decide +kernel
theorem dX12_text_34 : decode cX12_text 34 = .ok (.iconst (-1), 1) := by decide +kernel
theorem dX12_text_35 : decode cX12_text 35 = .ok (.iastore, 1) := by decide +kernel
theorem dX12_text_36 : decode cX12_text 36 = .ok (.iload_n 1, 1) := by decide +kernel
theorem dX12_text_37 : decode cX12_text 37 = .ok (.iconst 0, 1) := by decide +kernel
theorem dX12_text_38 : decode cX12_text 38 = .ok (.iconst 3, 1) := by decide +kernel
theorem dX12_text_39 : decode cX12_text 39 = .ok (.invokestatic 112, 3) := by decide +kernel
theorem dX12_text_42 : decode cX12_text 42 = .ok (.ifCond .eq 30, 3) := by decide +kernel
theorem dX12_text_45 : decode cX12_text 45 = .ok (.iload_n 2, 1) := by decide +kernel
theorem dX12_text_46 : decode cX12_text 46 = .ok (.iconst (-1), 1) := by decide +kernel
theorem dX12_text_47 : decode cX12_text 47 = .ok (.if_icmp .ne 16, 3) := by decide +kernel
theorem dX12_text_50 : decode cX12_text 50 = .ok (.aload_n 0, 1) := by decide +kernel
theorem dX12_text_51 : decode cX12_text 51 = .ok (.getfield 23, 3) := by decide +kernel
theorem dX12_text_54 : decode cX12_text 54 = .ok (.iload_n 1, 1) := by decide +kernel
theorem dX12_text_55 : decode cX12_text 55 = .ok (.iaload, 1) := by decide +kernel
theorem dX12_text_56 : decode cX12_text 56 = .ok (.iconst 2, 1) := by decide +kernel
theorem dX12_text_57 : decode cX12_text 57 = .ok (.if_icmp .ne 18, 3) := by decide +kernel
theorem dX12_text_60 : decode cX12_text 60 = .ok (.goto 12, 3) := by decide +kernel
theorem dX12_text_63 : decode cX12_text 63 = .ok (.aload_n 0, 1) := by decide +kernel
theorem dX12_text_64 : decode cX12_text 64 = .ok (.iload_n 1, 1) := by decide +kernel
theorem dX12_text_65 : decode cX12_text 65 = .ok (.iload_n 2, 1) := by decide +kernel
theorem dX12_text_66 : decode cX12_text 66 = .ok (.invokevirtual 267, 3) := by decide +kernel
theorem dX12_text_69 : decode cX12_text 69 = .ok (.ifCond .ne 6, 3) := by decide +kernel
theorem dX12_text_72 : decode cX12_text 72 = .ok (.bipush (-2), 2) := by decide +kernel
theorem dX12_text_74 : decode cX12_text 74 = .ok (.ireturn, 1) := by decide +kernel
theorem dX12_text_75 : decode cX12_text 75 = .ok (.aload_n 0, 1) := by decide +kernel
theorem dX12_text_76 : decode cX12_text 76 = .ok (.iload_n 1, 1) := by decide +kernel
theorem dX12_text_77 : decode cX12_text 77 = .ok (.invokevirtual 270, 3) := by decide +kernel
theorem dX12_text_80 : decode cX12_text 80 = .ok (.ifCond .ne 5, 3) := by decide +kernel
theorem dX12_text_83 : decode cX12_text 83 = .ok (.iconst (-1), 1) := by decide +kernel
theorem dX12_text_84 : decode cX12_text 84 = .ok (.ireturn, 1) := by decide +kernel
theorem dX12_text_85 : decode cX12_text 85 = .ok (.iload_n 2, 1) := by decide +kernel
theorem dX12_text_86 : decode cX12_text 86 = .ok (.iconst (-1), 1) := by decide +kernel
theorem dX12_text_87 : decode cX12_text 87 = .ok (.if_icmp .ne 12, 3) := by decide +kernel
theorem dX12_text_90 : decode cX12_text 90 = .ok (.aload_n 0, 1) := by decide +kernel
theorem dX12_text_91 : decode cX12_text 91 = .ok (.getfield 23, 3) := by decide +kernel
theorem dX12_text_94 : decode cX12_text 94 = .ok (.iload_n 1, 1) := by decide +kernel
theorem dX12_text_95 : decode cX12_text 95 = .ok (.iaload, 1) := by decide +kernel
theorem dX12_text_96 : decode cX12_text 96 = .ok (.goto 4, 3) := by decide +kernel
theorem dX12_text_99 : decode cX12_text 99 = .ok (.iload_n 2, 1) := by decide +kernel
theorem dX12_text_100 : decode cX12_text 100 = .ok (.istore_n 3, 1) := by decide +kernel
theorem dX12_text_101 : decode cX12_text 101 = .ok (.aload_n 0, 1) := by decide +kernel
theorem dX12_text_102 : decode cX12_text 102 = .ok (.getfield 23, 3) := by decide +kernel
theorem dX12_text_105 : decode cX12_text 105 = .ok (.iload_n 1, 1) := by decide +kernel
theorem dX12_text_106 : decode cX12_text 106 = .ok (.dup2, 1) := by decide +kernel
theorem dX12_text_107 : decode cX12_text 107 = .ok (.iaload, 1) := by decide +kernel
theorem dX12_text_108 : decode cX12_text 108 = .ok (.iload_n 2, 1) := by decide +kernel
theorem dX12_text_109 : decode cX12_text 109 = .ok (.iconst (-1), 1) := by decide +kernel
theorem dX12_text_110 : decode cX12_text 110 = .ok (.if_icmp .ne 7, 3) := by decide +kernel
theorem dX12_text_113 : decode cX12_text 113 = .ok (.iconst 1, 1) := by decide +kernel
theorem dX12_text_114 : decode cX12_text 114 = .ok (.goto 4, 3) := by decide +kernel
theorem dX12_text_117 : decode cX12_text 117 = .ok (.iconst 0, 1) := by decide +kernel
theorem dX12_text_118 : decode cX12_text 118 = .ok (.iadd, 1) := by decide +kernel
theorem dX12_text_119 : decode cX12_text 119 = .ok (.iastore, 1) := by decide +kernel
theorem dX12_text_120 : decode cX12_text 120 = .ok (.aload_n 0, 1) := by decide +kernel
theorem dX12_text_121 : decode cX12_text 121 = .ok (.iload_n 1, 1) := by decide +kernel
theorem dX12_text_122 : decode cX12_text 122 = .ok (.iload_n 3, 1) := by decide +kernel
theorem dX12_text_123 : decode cX12_text 123 = .ok (.invokevirtual 273, 3) := by decide +kernel
theorem dX12_text_126 : decode cX12_text 126 = .ok (.iload_n 3, 1) := by decide +kernel
theorem dX12_text_127 : decode cX12_text 127 = .ok (.ireturn, 1) := by decide +kernel
