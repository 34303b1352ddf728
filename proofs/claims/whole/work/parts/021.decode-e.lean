theorem dX6_in_0 : decode cX6_in 0 = .ok (.iload_n 0, 1) := by decide +kernel
theorem dX6_in_1 : decode cX6_in 1 = .ok (.iload_n 1, 1) := by decide +kernel
theorem dX6_in_2 : decode cX6_in 2 = .ok (.if_icmp .lt 12, 3) := by decide +kernel
theorem dX6_in_5 : decode cX6_in 5 = .ok (.iload_n 0, 1) := by decide +kernel
theorem dX6_in_6 : decode cX6_in 6 = .ok (.iload_n 2, 1) := by decide +kernel
theorem dX6_in_7 : decode cX6_in 7 = .ok (.if_icmp .gt 7, 3) := by decide +kernel
theorem dX6_in_10 : decode cX6_in 10 = .ok (.iconst 1, 1) := by decide +kernel
theorem dX6_in_11 : decode cX6_in 11 = .ok (.goto 4, 3) := by decide +kernel
theorem dX6_in_14 : decode cX6_in 14 = .ok (.iconst 0, 1) := by decide +kernel
theorem dX6_in_15 : decode cX6_in 15 = .ok (.ireturn, 1) := by decide +kernel
theorem dX6_isPage_0 : decode cX6_isPage 0 = .ok (.iload_n 1, 1) := by decide +kernel
theorem dX6_isPage_1 : decode cX6_isPage 1 = .ok (.iconst 0, 1) := by decide +kernel
theorem dX6_isPage_2 : decode cX6_isPage 2 = .ok (.aload_n 0, 1) := by decide +kernel
theorem dX6_isPage_3 : decode cX6_isPage 3 = .ok (.getfield 99, 3) := by decide +kernel
theorem dX6_isPage_6 : decode cX6_isPage 6 = .ok (.iconst 1, 1) := by decide +kernel
theorem dX6_isPage_7 : decode cX6_isPage 7 = .ok (.isub, 1) := by decide +kernel
theorem dX6_isPage_8 : decode cX6_isPage 8 = .ok (.invokestatic 102, 3) := by decide +kernel
theorem dX6_isPage_11 : decode cX6_isPage 11 = .ok (.ireturn, 1) := by decide +kernel
theorem dX6_changes_0 : decode cX6_changes 0 = .ok (.aload_n 0, 1) := by decide +kernel
theorem dX6_changes_1 : decode cX6_changes 1 = .ok (.iconst 0, 1) := by decide +kernel
theorem dX6_changes_2 : decode cX6_changes 2 = .ok (.putfield 106, 3) := by decide +kernel
theorem dX6_changes_5 : decode cX6_changes 5 = .ok (.return_, 1) := by decide +kernel
theorem dX6_page_0 : decode cX6_page 0 = .ok (.aload_n 0, 1) := by decide +kernel
theorem dX6_page_1 : decode cX6_page 1 = .ok (.getfield 99, 3) := by decide +kernel
theorem dX6_page_4 : decode cX6_page 4 = .ok (.bipush 16, 2) := by decide +kernel
theorem dX6_page_6 : decode cX6_page 6 = .ok (.if_icmp .ne 5, 3) := by decide +kernel
theorem dX6_page_9 : decode cX6_page 9 = .ok (.iconst (-1), 1) := by decide +kernel
theorem dX6_page_10 : decode cX6_page 10 = .ok (.ireturn, 1) := by decide +kernel
theorem dX6_page_11 : decode cX6_page 11 = .ok (.aload_n 0, 1) := by decide +kernel
theorem dX6_page_12 : decode cX6_page 12 = .ok (.getfield 7, 3) := by decide +kernel
theorem dX6_page_15 : decode cX6_page 15 = .ok (.aload_n 0, 1) := by decide +kernel
theorem dX6_page_16 : decode cX6_page 16 = .ok (.getfield 99, 3) := by decide +kernel
theorem dX6_page_19 : decode cX6_page 19 = .ok (.iconst 0, 1) := by decide +kernel
theorem dX6_page_20 : decode cX6_page 20 = .ok (.iastore, 1) := by decide +kernel
theorem dX6_page_21 : decode cX6_page 21 = .ok (.aload_n 0, 1) := by decide +kernel
theorem dX6_page_22 : decode cX6_page 22 = .ok (.getfield 22, 3) := by decide +kernel
theorem dX6_page_25 : decode cX6_page 25 = .ok (.aload_n 0, 1) := by decide +kernel
theorem dX6_page_26 : decode cX6_page 26 = .ok (.getfield 99, 3) := by decide +kernel
theorem dX6_page_29 : decode cX6_page 29 = .ok (.iconst (-1), 1) := by decide +kernel
theorem dX6_page_30 : decode cX6_page 30 = .ok (.iastore, 1) := by decide +kernel
theorem dX6_page_31 : decode cX6_page 31 = .ok (.aload_n 0, 1) := by decide +kernel
theorem dX6_page_32 : decode cX6_page 32 = .ok (.dup, 1) := by decide +kernel
theorem dX6_page_33 : decode cX6_page 33 = .ok (.getfield 99, 3) := by decide +kernel
theorem dX6_page_36 : decode cX6_page 36 = .ok (.iconst 1, 1) := by decide +kernel
theorem dX6_page_37 : decode cX6_page 37 = .ok (.iadd, 1) := by decide +kernel
theorem dX6_page_38 : decode cX6_page 38 = .ok (.putfield 99, 3) := by decide +kernel
theorem dX6_page_41 : decode cX6_page 41 = .ok (.aload_n 0, 1) := by decide +kernel
theorem dX6_page_42 : decode cX6_page 42 = .ok (.invokevirtual 110, 3) := by decide +kernel
theorem dX6_page_45 : decode cX6_page 45 = .ok (.aload_n 0, 1) := by decide +kernel
theorem dX6_page_46 : decode cX6_page 46 = .ok (.getfield 99, 3) := by decide +kernel
theorem dX6_page_49 : decode cX6_page 49 = .ok (.iconst 1, 1) := by decide +kernel
theorem dX6_page_50 : decode cX6_page 50 = .ok (.isub, 1) := by decide +kernel
theorem dX6_page_51 : decode cX6_page 51 = .ok (.ireturn, 1) := by decide +kernel
theorem dX6_tell_0 : decode cX6_tell 0 = .ok (.aload_n 0, 1) := by decide +kernel
theorem dX6_tell_1 : decode cX6_tell 1 = .ok (.iload_n 1, 1) := by decide +kernel
theorem dX6_tell_2 : decode cX6_tell 2 = .ok (.invokevirtual 113, 3) := by decide +kernel
theorem dX6_tell_5 : decode cX6_tell 5 = .ok (.ifCond .eq 21, 3) := by decide +kernel
theorem dX6_tell_8 : decode cX6_tell 8 = .ok (.iload_n 2, 1) := by decide +kernel
theorem dX6_tell_9 : decode cX6_tell 9 = .ok (.iconst (-1), 1) := by decide +kernel
theorem dX6_tell_10 : decode cX6_tell 10 = .ok (.iconst 4, 1) := by decide +kernel
theorem dX6_tell_11 : decode cX6_tell 11 = .ok (.invokestatic 102, 3) := by decide +kernel
theorem dX6_tell_14 : decode cX6_tell 14 = .ok (.ifCond .eq 12, 3) := by decide +kernel
theorem dX6_tell_17 : decode cX6_tell 17 = .ok (.aload_n 0, 1) := by decide +kernel
theorem dX6_tell_18 : decode cX6_tell 18 = .ok (.getfield 7, 3) := by decide +kernel
theorem dX6_tell_21 : decode cX6_tell 21 = .ok (.iload_n 1, 1) := by decide +kernel
theorem dX6_tell_22 : decode cX6_tell 22 = .ok (.iaload, 1) := by decide +kernel
theorem dX6_tell_23 : decode cX6_tell 23 = .ok (.ifCond .ne 5, 3) := by decide +kernel
theorem dX6_tell_26 : decode cX6_tell 26 = .ok (.iconst 0, 1) := by decide +kernel
theorem dX6_tell_27 : decode cX6_tell 27 = .ok (.ireturn, 1) := by decide +kernel
theorem dX6_tell_28 : decode cX6_tell 28 = .ok (.aload_n 0, 1) := by decide +kernel
theorem dX6_tell_29 : decode cX6_tell 29 = .ok (.getfield 22, 3) := by decide +kernel
theorem dX6_tell_32 : decode cX6_tell 32 = .ok (.iload_n 1, 1) := by decide +kernel
theorem dX6_tell_33 : decode cX6_tell 33 = .ok (.iload_n 2, 1) := by decide +kernel
theorem dX6_tell_34 : decode cX6_tell 34 = .ok (.iastore, 1) := by decide +kernel
theorem dX6_tell_35 : decode cX6_tell 35 = .ok (.aload_n 0, 1) := by decide +kernel
theorem dX6_tell_36 : decode cX6_tell 36 = .ok (.invokevirtual 110, 3) := by decide +kernel
theorem dX6_tell_39 : decode cX6_tell 39 = .ok (.iconst 1, 1) := by decide +kernel
theorem dX6_tell_40 : decode cX6_tell 40 = .ok (.ireturn, 1) := by decide +kernel
theorem dX6_bounds_0 : decode cX6_bounds 0 = .ok (.iload_n 1, 1) := by decide +kernel
theorem dX6_bounds_1 : decode cX6_bounds 1 = .ok (.iconst 0, 1) := by decide +kernel
theorem dX6_bounds_2 : decode cX6_bounds 2 = .ok (.sipush 1000, 3) := by decide +kernel
theorem dX6_bounds_5 : decode cX6_bounds 5 = .ok (.invokestatic 102, 3) := by decide +kernel
theorem dX6_bounds_8 : decode cX6_bounds 8 = .ok (.ifCond .eq 25, 3) := by decide +kernel
theorem dX6_bounds_11 : decode cX6_bounds 11 = .ok (.iload_n 2, 1) := by decide +kernel
theorem dX6_bounds_12 : decode cX6_bounds 12 = .ok (.iconst 0, 1) := by decide +kernel
theorem dX6_bounds_13 : decode cX6_bounds 13 = .ok (.sipush 1000, 3) := by decide +kernel
theorem dX6_bounds_16 : decode cX6_bounds 16 = .ok (.invokestatic 102, 3) := by decide +kernel
theorem dX6_bounds_19 : decode cX6_bounds 19 = .ok (.ifCond .eq 14, 3) := by decide +kernel
theorem dX6_bounds_22 : decode cX6_bounds 22 = .ok (.iload_n 3, 1) := by decide +kernel
theorem dX6_bounds_23 : decode cX6_bounds 23 = .ok (.iconst 0, 1) := by decide +kernel
theorem dX6_bounds_24 : decode cX6_bounds 24 = .ok (.sipush 1000, 3) := by decide +kernel
theorem dX6_bounds_27 : decode cX6_bounds 27 = .ok (.invokestatic 102, 3) := by decide +kernel
theorem dX6_bounds_30 : decode cX6_bounds 30 = .ok (.ifCond .ne 5, 3) := by decide +kernel
theorem dX6_bounds_33 : decode cX6_bounds 33 = .ok (.iconst 0, 1) := by decide +kernel
theorem dX6_bounds_34 : decode cX6_bounds 34 = .ok (.ireturn, 1) := by decide +kernel
theorem dX6_bounds_35 : decode cX6_bounds 35 = .ok (.aload_n 0, 1) := by decide +kernel
theorem dX6_bounds_36 : decode cX6_bounds 36 = .ok (.iload_n 1, 1) := by decide +kernel
theorem dX6_bounds_37 : decode cX6_bounds 37 = .ok (.putfield 28, 3) := by decide +kernel
theorem dX6_bounds_40 : decode cX6_bounds 40 = .ok (.aload_n 0, 1) := by decide +kernel
theorem dX6_bounds_41 : decode cX6_bounds 41 = .ok (.iload_n 2, 1) := by decide +kernel
theorem dX6_bounds_42 : decode cX6_bounds 42 = .ok (.putfield 32, 3) := by decide +kernel
theorem dX6_bounds_45 : decode cX6_bounds 45 = .ok (.aload_n 0, 1) := by decide +kernel
theorem dX6_bounds_46 : decode cX6_bounds 46 = .ok (.iload_n 3, 1) := by decide +kernel
theorem dX6_bounds_47 : decode cX6_bounds 47 = .ok (.putfield 35, 3) := by decide +kernel
theorem dX6_bounds_50 : decode cX6_bounds 50 = .ok (.iconst 1, 1) := by decide +kernel
theorem dX6_bounds_51 : decode cX6_bounds 51 = .ok (.ireturn, 1) := by decide +kernel
theorem dX6_boxWith_0 : decode cX6_boxWith 0 = .ok (.iconst (-1), 1) := by decide +kernel
theorem dX6_boxWith_1 : decode cX6_boxWith 1 = .ok (.istore_n 3, 1) := by decide +kernel
theorem dX6_boxWith_2 : decode cX6_boxWith 2 = .ok (.bipush 8, 2) := by decide +kernel
theorem dX6_boxWith_4 : decode cX6_boxWith 4 = .ok (.iload_n 1, 1) := by decide +kernel
theorem dX6_boxWith_5 : decode cX6_boxWith 5 = .ok (.imul, 1) := by decide +kernel
theorem dX6_boxWith_6 : decode cX6_boxWith 6 = .ok (.istore 4, 2) := by decide +kernel
theorem dX6_boxWith_8 : decode cX6_boxWith 8 = .ok (.iload 4, 2) := by decide +kernel
theorem dX6_boxWith_10 : decode cX6_boxWith 10 = .ok (.bipush 8, 2) := by decide +kernel
theorem dX6_boxWith_12 : decode cX6_boxWith 12 = .ok (.iload_n 1, 1) := by decide +kernel
theorem dX6_boxWith_13 : decode cX6_boxWith 13 = .ok (.imul, 1) := by decide +kernel
theorem dX6_boxWith_14 : decode cX6_boxWith 14 = .ok (.aload_n 0, 1) := by decide +kernel
theorem dX6_boxWith_15 : decode cX6_boxWith 15 = .ok (.getfield 7, 3) := by decide +kernel
theorem dX6_boxWith_18 : decode cX6_boxWith 18 = .ok (.iload_n 1, 1) := by decide +kernel
theorem dX6_boxWith_19 : decode cX6_boxWith 19 = .ok (.iaload, 1) := by decide +kernel
theorem dX6_boxWith_20 : decode cX6_boxWith 20 = .ok (.iadd, 1) := by decide +kernel
theorem dX6_boxWith_21 : decode cX6_boxWith 21 = .ok (.if_icmp .ge 27, 3) := by decide +kernel
theorem dX6_boxWith_24 : decode cX6_boxWith 24 = .ok (.aload_n 0, 1) := by decide +kernel
theorem dX6_boxWith_25 : decode cX6_boxWith 25 = .ok (.getfield 19, 3) := by decide +kernel
theorem dX6_boxWith_28 : decode cX6_boxWith 28 = .ok (.iload 4, 2) := by decide +kernel
theorem dX6_boxWith_30 : decode cX6_boxWith 30 = .ok (.iaload, 1) := by decide +kernel
theorem dX6_boxWith_31 : decode cX6_boxWith 31 = .ok (.iload_n 2, 1) := by decide +kernel
theorem dX6_boxWith_32 : decode cX6_boxWith 32 = .ok (.if_icmp .ne 8, 3) := by decide +kernel
theorem dX6_boxWith_35 : decode cX6_boxWith 35 = .ok (.iload 4, 2) := by decide +kernel
theorem dX6_boxWith_37 : decode cX6_boxWith 37 = .ok (.goto 4, 3) := by decide +kernel
theorem dX6_boxWith_40 : decode cX6_boxWith 40 = .ok (.iload_n 3, 1) := by decide +kernel
theorem dX6_boxWith_41 : decode cX6_boxWith 41 = .ok (.istore_n 3, 1) := by decide +kernel
theorem dX6_boxWith_42 : decode cX6_boxWith 42 = .ok (.iinc 4 1, 3) := by decide +kernel
theorem dX6_boxWith_45 : decode cX6_boxWith 45 = .ok (.goto (-37), 3) := by decide +kernel
theorem dX6_boxWith_48 : decode cX6_boxWith 48 = .ok (.iload_n 3, 1) := by decide +kernel
theorem dX6_boxWith_49 : decode cX6_boxWith 49 = .ok (.ireturn, 1) := by decide +kernel
theorem dX6_middle_0 : decode cX6_middle 0 = .ok (.iconst 1, 1) := by decide +kernel
theorem dX6_middle_1 : decode cX6_middle 1 = .ok (.istore_n 2, 1) := by decide +kernel
theorem dX6_middle_2 : decode cX6_middle 2 = .ok (.iload_n 2, 1) := by decide +kernel
theorem dX6_middle_3 : decode cX6_middle 3 = .ok (.iload_n 1, 1) := by decide +kernel
theorem dX6_middle_4 : decode cX6_middle 4 = .ok (.if_icmp .ge 70, 3) := by decide +kernel
theorem dX6_middle_7 : decode cX6_middle 7 = .ok (.iload_n 2, 1) := by decide +kernel
theorem dX6_middle_8 : decode cX6_middle 8 = .ok (.istore_n 3, 1) := by decide +kernel
theorem dX6_middle_9 : decode cX6_middle 9 = .ok (.iload_n 3, 1) := by decide +kernel
theorem dX6_middle_10 : decode cX6_middle 10 = .ok (.ifCond .le 58, 3) := by decide +kernel
theorem dX6_middle_13 : decode cX6_middle 13 = .ok (.aload_n 0, 1) := by decide +kernel
theorem dX6_middle_14 : decode cX6_middle 14 = .ok (.getfield 90, 3) := by decide +kernel
theorem dX6_middle_17 : decode cX6_middle 17 = .ok (.iload_n 3, 1) := by decide +kernel
theorem dX6_middle_18 : decode cX6_middle 18 = .ok (.iconst 1, 1) := by decide +kernel
theorem dX6_middle_19 : decode cX6_middle 19 = .ok (.isub, 1) := by decide +kernel
theorem dX6_middle_20 : decode cX6_middle 20 = .ok (.iaload, 1) := by decide +kernel
theorem dX6_middle_21 : decode cX6_middle 21 = .ok (.aload_n 0, 1) := by decide +kernel
theorem dX6_middle_22 : decode cX6_middle 22 = .ok (.getfield 90, 3) := by decide +kernel
theorem dX6_middle_25 : decode cX6_middle 25 = .ok (.iload_n 3, 1) := by decide +kernel
theorem dX6_middle_26 : decode cX6_middle 26 = .ok (.iaload, 1) := by decide +kernel
theorem dX6_middle_27 : decode cX6_middle 27 = .ok (.if_icmp .le 41, 3) := by decide +kernel
theorem dX6_middle_30 : decode cX6_middle 30 = .ok (.aload_n 0, 1) := by decide +kernel
theorem dX6_middle_31 : decode cX6_middle 31 = .ok (.getfield 90, 3) := by decide +kernel
theorem dX6_middle_34 : decode cX6_middle 34 = .ok (.iload_n 3, 1) := by decide +kernel
theorem dX6_middle_35 : decode cX6_middle 35 = .ok (.iaload, 1) := by decide +kernel
theorem dX6_middle_36 : decode cX6_middle 36 = .ok (.istore 4, 2) := by decide +kernel
theorem dX6_middle_38 : decode cX6_middle 38 = .ok (.aload_n 0, 1) := by decide +kernel
theorem dX6_middle_39 : decode cX6_middle 39 = .ok (.getfield 90, 3) := by decide +kernel
theorem dX6_middle_42 : decode cX6_middle 42 = .ok (.iload_n 3, 1) := by decide +kernel
theorem dX6_middle_43 : decode cX6_middle 43 = .ok (.aload_n 0, 1) := by decide +kernel
theorem dX6_middle_44 : decode cX6_middle 44 = .ok (.getfield 90, 3) := by decide +kernel
theorem dX6_middle_47 : decode cX6_middle 47 = .ok (.iload_n 3, 1) := by decide +kernel
theorem dX6_middle_48 : decode cX6_middle 48 = .ok (.iconst 1, 1) := by decide +kernel
theorem dX6_middle_49 : decode cX6_middle 49 = .ok (.isub, 1) := by decide +kernel
theorem dX6_middle_50 : decode cX6_middle 50 = .ok (.iaload, 1) := by decide +kernel
theorem dX6_middle_51 : decode cX6_middle 51 = .ok (.iastore, 1) := by decide +kernel
theorem dX6_middle_52 : decode cX6_middle 52 = .ok (.aload_n 0, 1) := by decide +kernel
theorem dX6_middle_53 : decode cX6_middle 53 = .ok (.getfield 90, 3) := by decide +kernel
theorem dX6_middle_56 : decode cX6_middle 56 = .ok (.iload_n 3, 1) := by decide +kernel
theorem dX6_middle_57 : decode cX6_middle 57 = .ok (.iconst 1, 1) := by decide +kernel
theorem dX6_middle_58 : decode cX6_middle 58 = .ok (.isub, 1) := by decide +kernel
theorem dX6_middle_59 : decode cX6_middle 59 = .ok (.iload 4, 2) := by decide +kernel
theorem dX6_middle_61 : decode cX6_middle 61 = .ok (.iastore, 1) := by decide +kernel
theorem dX6_middle_62 : decode cX6_middle 62 = .ok (.iinc 3 (-1), 3) := by decide +kernel
theorem dX6_middle_65 : decode cX6_middle 65 = .ok (.goto (-56), 3) := by decide +kernel
theorem dX6_middle_68 : decode cX6_middle 68 = .ok (.iinc 2 1, 3) := by decide +kernel
theorem dX6_middle_71 : decode cX6_middle 71 = .ok (.goto (-69), 3) := by decide +kernel
theorem dX6_middle_74 : decode cX6_middle 74 = .ok (.aload_n 0, 1) := by decide +kernel
theorem dX6_middle_75 : decode cX6_middle 75 = .ok (.getfield 90, 3) := by decide +kernel
theorem dX6_middle_78 : decode cX6_middle 78 = .ok (.iload_n 1, 1) := by decide +kernel
theorem dX6_middle_79 : decode cX6_middle 79 = .ok (.iconst 1, 1) := by decide +kernel
theorem dX6_middle_80 : decode cX6_middle 80 = .ok (.isub, 1) := by decide +kernel
theorem dX6_middle_81 : decode cX6_middle 81 = .ok (.iconst 2, 1) := by decide +kernel
theorem dX6_middle_82 : decode cX6_middle 82 = .ok (.idiv, 1) := by decide +kernel
theorem dX6_middle_83 : decode cX6_middle 83 = .ok (.iaload, 1) := by decide +kernel
theorem dX6_middle_84 : decode cX6_middle 84 = .ok (.ireturn, 1) := by decide +kernel
theorem dX6_makes_0 : decode cX6_makes 0 = .ok (.aload_n 0, 1) := by decide +kernel
theorem dX6_makes_1 : decode cX6_makes 1 = .ok (.getfield 106, 3) := by decide +kernel
theorem dX6_makes_4 : decode cX6_makes 4 = .ok (.ifCond .eq 4, 3) := by decide +kernel
theorem dX6_makes_7 : decode cX6_makes 7 = .ok (.return_, 1) := by decide +kernel
theorem dX6_makes_8 : decode cX6_makes 8 = .ok (.aload_n 0, 1) := by decide +kernel
theorem dX6_makes_9 : decode cX6_makes 9 = .ok (.iconst 1, 1) := by decide +kernel
theorem dX6_makes_10 : decode cX6_makes 10 = .ok (.putfield 106, 3) := by decide +kernel
theorem dX6_makes_13 : decode cX6_makes 13 = .ok (.iconst 0, 1) := by decide +kernel
theorem dX6_makes_14 : decode cX6_makes 14 = .ok (.istore_n 1, 1) := by decide +kernel
theorem dX6_makes_15 : decode cX6_makes 15 = .ok (.iload_n 1, 1) := by decide +kernel
theorem dX6_makes_16 : decode cX6_makes 16 = .ok (.bipush 80, 2) := by decide +kernel
theorem dX6_makes_18 : decode cX6_makes 18 = .ok (.if_icmp .ge 16, 3) := by decide +kernel
theorem dX6_makes_21 : decode cX6_makes 21 = .ok (.aload_n 0, 1) := by decide +kernel
theorem dX6_makes_22 : decode cX6_makes 22 = .ok (.getfield 87, 3) := by decide +kernel
theorem dX6_makes_25 : decode cX6_makes 25 = .ok (.iload_n 1, 1) := by decide +kernel
theorem dX6_makes_26 : decode cX6_makes 26 = .ok (.iconst (-1), 1) := by decide +kernel
theorem dX6_makes_27 : decode cX6_makes 27 = .ok (.iastore, 1) := by decide +kernel
theorem dX6_makes_28 : decode cX6_makes 28 = .ok (.iinc 1 1, 3) := by decide +kernel
theorem dX6_makes_31 : decode cX6_makes 31 = .ok (.goto (-16), 3) := by decide +kernel
theorem dX6_makes_34 : decode cX6_makes 34 = .ok (.iconst 0, 1) := by decide +kernel
theorem dX6_makes_35 : decode cX6_makes 35 = .ok (.istore_n 1, 1) := by decide +kernel
theorem dX6_makes_36 : decode cX6_makes 36 = .ok (.iload_n 1, 1) := by decide +kernel
theorem dX6_makes_37 : decode cX6_makes 37 = .ok (.iconst 5, 1) := by decide +kernel
theorem dX6_makes_38 : decode cX6_makes 38 = .ok (.if_icmp .ge 92, 3) := by decide +kernel
theorem dX6_makes_41 : decode cX6_makes 41 = .ok (.aload_n 0, 1) := by decide +kernel
theorem dX6_makes_42 : decode cX6_makes 42 = .ok (.getfield 38, 3) := by decide +kernel
theorem dX6_makes_45 : decode cX6_makes 45 = .ok (.iload_n 1, 1) := by decide +kernel
theorem dX6_makes_46 : decode cX6_makes 46 = .ok (.iconst 0, 1) := by decide +kernel
theorem dX6_makes_47 : decode cX6_makes 47 = .ok (.iastore, 1) := by decide +kernel
theorem dX6_makes_48 : decode cX6_makes 48 = .ok (.aload_n 0, 1) := by decide +kernel
theorem dX6_makes_49 : decode cX6_makes 49 = .ok (.getfield 41, 3) := by decide +kernel
theorem dX6_makes_52 : decode cX6_makes 52 = .ok (.iload_n 1, 1) := by decide +kernel
theorem dX6_makes_53 : decode cX6_makes 53 = .ok (.iconst 0, 1) := by decide +kernel
theorem dX6_makes_54 : decode cX6_makes 54 = .ok (.iastore, 1) := by decide +kernel
theorem dX6_makes_55 : decode cX6_makes 55 = .ok (.iconst 0, 1) := by decide +kernel
theorem dX6_makes_56 : decode cX6_makes 56 = .ok (.istore_n 2, 1) := by decide +kernel
theorem dX6_makes_57 : decode cX6_makes 57 = .ok (.iload_n 2, 1) := by decide +kernel
theorem dX6_makes_58 : decode cX6_makes 58 = .ok (.aload_n 0, 1) := by decide +kernel
theorem dX6_makes_59 : decode cX6_makes 59 = .ok (.getfield 99, 3) := by decide +kernel
theorem dX6_makes_62 : decode cX6_makes 62 = .ok (.if_icmp .ge 33, 3) := by decide +kernel
theorem dX6_makes_65 : decode cX6_makes 65 = .ok (.aload_n 0, 1) := by decide +kernel
theorem dX6_makes_66 : decode cX6_makes 66 = .ok (.getfield 38, 3) := by decide +kernel
theorem dX6_makes_69 : decode cX6_makes 69 = .ok (.iload_n 1, 1) := by decide +kernel
theorem dX6_makes_70 : decode cX6_makes 70 = .ok (.dup2, 1) := by decide +kernel
theorem dX6_makes_71 : decode cX6_makes 71 = .ok (.iaload, 1) := by decide +kernel
theorem dX6_makes_72 : decode cX6_makes 72 = .ok (.aload_n 0, 1) := by decide +kernel
theorem dX6_makes_73 : decode cX6_makes 73 = .ok (.getfield 22, 3) := by decide +kernel
theorem dX6_makes_76 : decode cX6_makes 76 = .ok (.iload_n 2, 1) := by decide +kernel
theorem dX6_makes_77 : decode cX6_makes 77 = .ok (.iaload, 1) := by decide +kernel
theorem dX6_makes_78 : decode cX6_makes 78 = .ok (.iload_n 1, 1) := by decide +kernel
theorem dX6_makes_79 : decode cX6_makes 79 = .ok (.if_icmp .ne 7, 3) := by decide +kernel
theorem dX6_makes_82 : decode cX6_makes 82 = .ok (.iconst 1, 1) := by decide +kernel
theorem dX6_makes_83 : decode cX6_makes 83 = .ok (.goto 4, 3) := by decide +kernel
theorem dX6_makes_86 : decode cX6_makes 86 = .ok (.iconst 0, 1) := by decide +kernel
theorem dX6_makes_87 : decode cX6_makes 87 = .ok (.iadd, 1) := by decide +kernel
theorem dX6_makes_88 : decode cX6_makes 88 = .ok (.iastore, 1) := by decide +kernel
theorem dX6_makes_89 : decode cX6_makes 89 = .ok (.iinc 2 1, 3) := by decide +kernel
theorem dX6_makes_92 : decode cX6_makes 92 = .ok (.goto (-35), 3) := by decide +kernel
theorem dX6_makes_95 : decode cX6_makes 95 = .ok (.iconst 1, 1) := by decide +kernel
theorem dX6_makes_96 : decode cX6_makes 96 = .ok (.istore_n 2, 1) := by decide +kernel
theorem dX6_makes_97 : decode cX6_makes 97 = .ok (.iload_n 2, 1) := by decide +kernel
theorem dX6_makes_98 : decode cX6_makes 98 = .ok (.bipush 100, 2) := by decide +kernel
theorem dX6_makes_100 : decode cX6_makes 100 = .ok (.if_icmp .ge 24, 3) := by decide +kernel
theorem dX6_makes_103 : decode cX6_makes 103 = .ok (.aload_n 0, 1) := by decide +kernel
theorem dX6_makes_104 : decode cX6_makes 104 = .ok (.getfield 38, 3) := by decide +kernel
theorem dX6_makes_107 : decode cX6_makes 107 = .ok (.iload_n 1, 1) := by decide +kernel
theorem dX6_makes_108 : decode cX6_makes 108 = .ok (.iaload, 1) := by decide +kernel
theorem dX6_makes_109 : decode cX6_makes 109 = .ok (.ifCond .le 15, 3) := by decide +kernel
theorem dX6_makes_112 : decode cX6_makes 112 = .ok (.aload_n 0, 1) := by decide +kernel
theorem dX6_makes_113 : decode cX6_makes 113 = .ok (.iload_n 1, 1) := by decide +kernel
theorem dX6_makes_114 : decode cX6_makes 114 = .ok (.iload_n 2, 1) := by decide +kernel
theorem dX6_makes_115 : decode cX6_makes 115 = .ok (.invokevirtual 117, 3) := by decide +kernel
theorem dX6_makes_118 : decode cX6_makes 118 = .ok (.iinc 2 1, 3) := by decide +kernel
theorem dX6_makes_121 : decode cX6_makes 121 = .ok (.goto (-24), 3) := by decide +kernel
theorem dX6_makes_124 : decode cX6_makes 124 = .ok (.iinc 1 1, 3) := by decide +kernel
theorem dX6_makes_127 : decode cX6_makes 127 = .ok (.goto (-91), 3) := by decide +kernel
theorem dX6_makes_130 : decode cX6_makes 130 = .ok (.return_, 1) := by decide +kernel
theorem dX6_isKind_0 : decode cX6_isKind 0 = .ok (.aload_n 0, 1) := by decide +kernel
theorem dX6_isKind_1 : decode cX6_isKind 1 = .ok (.invokevirtual 129, 3) := by decide +kernel
theorem dX6_isKind_4 : decode cX6_isKind 4 = .ok (.iload_n 1, 1) := by decide +kernel
theorem dX6_isKind_5 : decode cX6_isKind 5 = .ok (.iconst 0, 1) := by decide +kernel
theorem dX6_isKind_6 : decode cX6_isKind 6 = .ok (.iconst 4, 1) := by decide +kernel
theorem dX6_isKind_7 : decode cX6_isKind 7 = .ok (.invokestatic 102, 3) := by decide +kernel
theorem dX6_isKind_10 : decode cX6_isKind 10 = .ok (.ifCond .eq 16, 3) := by decide +kernel
theorem dX6_isKind_13 : decode cX6_isKind 13 = .ok (.aload_n 0, 1) := by decide +kernel
theorem dX6_isKind_14 : decode cX6_isKind 14 = .ok (.getfield 38, 3) := by decide +kernel
theorem dX6_isKind_17 : decode cX6_isKind 17 = .ok (.iload_n 1, 1) := by decide +kernel
theorem dX6_isKind_18 : decode cX6_isKind 18 = .ok (.iaload, 1) := by decide +kernel
theorem dX6_isKind_19 : decode cX6_isKind 19 = .ok (.ifCond .le 7, 3) := by decide +kernel
theorem dX6_isKind_22 : decode cX6_isKind 22 = .ok (.iconst 1, 1) := by decide +kernel
theorem dX6_isKind_23 : decode cX6_isKind 23 = .ok (.goto 4, 3) := by decide +kernel
theorem dX6_isKind_26 : decode cX6_isKind 26 = .ok (.iconst 0, 1) := by decide +kernel
theorem dX6_isKind_27 : decode cX6_isKind 27 = .ok (.ireturn, 1) := by decide +kernel
theorem dX6_kind_0 : decode cX6_kind 0 = .ok (.aload_n 0, 1) := by decide +kernel
theorem dX6_kind_1 : decode cX6_kind 1 = .ok (.invokevirtual 129, 3) := by decide +kernel
theorem dX6_kind_4 : decode cX6_kind 4 = .ok (.iload_n 1, 1) := by decide +kernel
theorem dX6_kind_5 : decode cX6_kind 5 = .ok (.iconst 0, 1) := by decide +kernel
theorem dX6_kind_6 : decode cX6_kind 6 = .ok (.iconst 4, 1) := by decide +kernel
theorem dX6_kind_7 : decode cX6_kind 7 = .ok (.invokestatic 102, 3) := by decide +kernel
theorem dX6_kind_10 : decode cX6_kind 10 = .ok (.ifCond .ne 7, 3) := by decide +kernel
theorem dX6_kind_13 : decode cX6_kind 13 = .ok (.iconst (-1), 1) := by decide +kernel
theorem dX6_kind_14 : decode cX6_kind 14 = .ok (.goto 31, 3) := by decide +kernel
theorem dX6_kind_17 : decode cX6_kind 17 = .ok (.iload_n 2, 1) := by decide +kernel
theorem dX6_kind_18 : decode cX6_kind 18 = .ok (.ifCond .ne 12, 3) := by decide +kernel
theorem dX6_kind_21 : decode cX6_kind 21 = .ok (.aload_n 0, 1) := by decide +kernel
theorem dX6_kind_22 : decode cX6_kind 22 = .ok (.getfield 38, 3) := by decide +kernel
theorem dX6_kind_25 : decode cX6_kind 25 = .ok (.iload_n 1, 1) := by decide +kernel
theorem dX6_kind_26 : decode cX6_kind 26 = .ok (.iaload, 1) := by decide +kernel
theorem dX6_kind_27 : decode cX6_kind 27 = .ok (.goto 18, 3) := by decide +kernel
theorem dX6_kind_30 : decode cX6_kind 30 = .ok (.iload_n 2, 1) := by decide +kernel
theorem dX6_kind_31 : decode cX6_kind 31 = .ok (.iconst 1, 1) := by decide +kernel
theorem dX6_kind_32 : decode cX6_kind 32 = .ok (.if_icmp .ne 12, 3) := by decide +kernel
theorem dX6_kind_35 : decode cX6_kind 35 = .ok (.aload_n 0, 1) := by decide +kernel
theorem dX6_kind_36 : decode cX6_kind 36 = .ok (.getfield 41, 3) := by decide +kernel
theorem dX6_kind_39 : decode cX6_kind 39 = .ok (.iload_n 1, 1) := by decide +kernel
theorem dX6_kind_40 : decode cX6_kind 40 = .ok (.iaload, 1) := by decide +kernel
theorem dX6_kind_41 : decode cX6_kind 41 = .ok (.goto 4, 3) := by decide +kernel
theorem dX6_kind_44 : decode cX6_kind 44 = .ok (.iconst (-1), 1) := by decide +kernel
theorem dX6_kind_45 : decode cX6_kind 45 = .ok (.ireturn, 1) := by decide +kernel
theorem dX6_apart_0 : decode cX6_apart 0 = .ok (.iload_n 0, 1) := by decide +kernel
theorem dX6_apart_1 : decode cX6_apart 1 = .ok (.iload_n 1, 1) := by decide +kernel
theorem dX6_apart_2 : decode cX6_apart 2 = .ok (.if_icmp .le 9, 3) := by decide +kernel
theorem dX6_apart_5 : decode cX6_apart 5 = .ok (.iload_n 0, 1) := by decide +kernel
theorem dX6_apart_6 : decode cX6_apart 6 = .ok (.iload_n 1, 1) := by decide +kernel
theorem dX6_apart_7 : decode cX6_apart 7 = .ok (.isub, 1) := by decide +kernel
theorem dX6_apart_8 : decode cX6_apart 8 = .ok (.goto 6, 3) := by decide +kernel
theorem dX6_apart_11 : decode cX6_apart 11 = .ok (.iload_n 1, 1) := by decide +kernel
theorem dX6_apart_12 : decode cX6_apart 12 = .ok (.iload_n 0, 1) := by decide +kernel
theorem dX6_apart_13 : decode cX6_apart 13 = .ok (.isub, 1) := by decide +kernel
theorem dX6_apart_14 : decode cX6_apart 14 = .ok (.ireturn, 1) := by decide +kernel
theorem dX6_lays_0 : decode cX6_lays 0 = .ok (.aload_n 0, 1) := by decide +kernel
theorem dX6_lays_1 : decode cX6_lays 1 = .ok (.getfield 25, 3) := by decide +kernel
theorem dX6_lays_4 : decode cX6_lays 4 = .ok (.iconst 1, 1) := by decide +kernel
theorem dX6_lays_5 : decode cX6_lays 5 = .ok (.iaload, 1) := by decide +kernel
theorem dX6_lays_6 : decode cX6_lays 6 = .ok (.aload_n 0, 1) := by decide +kernel
theorem dX6_lays_7 : decode cX6_lays 7 = .ok (.getfield 57, 3) := by decide +kernel
theorem dX6_lays_10 : decode cX6_lays 10 = .ok (.iload_n 1, 1) := by decide +kernel
theorem dX6_lays_11 : decode cX6_lays 11 = .ok (.iaload, 1) := by decide +kernel
theorem dX6_lays_12 : decode cX6_lays 12 = .ok (.iload_n 3, 1) := by decide +kernel
theorem dX6_lays_13 : decode cX6_lays 13 = .ok (.iadd, 1) := by decide +kernel
theorem dX6_lays_14 : decode cX6_lays 14 = .ok (.aload_n 0, 1) := by decide +kernel
theorem dX6_lays_15 : decode cX6_lays 15 = .ok (.getfield 66, 3) := by decide +kernel
theorem dX6_lays_18 : decode cX6_lays 18 = .ok (.iload_n 2, 1) := by decide +kernel
theorem dX6_lays_19 : decode cX6_lays 19 = .ok (.iaload, 1) := by decide +kernel
theorem dX6_lays_20 : decode cX6_lays 20 = .ok (.invokestatic 132, 3) := by decide +kernel
theorem dX6_lays_23 : decode cX6_lays 23 = .ok (.aload_n 0, 1) := by decide +kernel
theorem dX6_lays_24 : decode cX6_lays 24 = .ok (.getfield 60, 3) := by decide +kernel
theorem dX6_lays_27 : decode cX6_lays 27 = .ok (.iload_n 1, 1) := by decide +kernel
theorem dX6_lays_28 : decode cX6_lays 28 = .ok (.iaload, 1) := by decide +kernel
theorem dX6_lays_29 : decode cX6_lays 29 = .ok (.iload 4, 2) := by decide +kernel
theorem dX6_lays_31 : decode cX6_lays 31 = .ok (.iadd, 1) := by decide +kernel
theorem dX6_lays_32 : decode cX6_lays 32 = .ok (.aload_n 0, 1) := by decide +kernel
theorem dX6_lays_33 : decode cX6_lays 33 = .ok (.getfield 69, 3) := by decide +kernel
theorem dX6_lays_36 : decode cX6_lays 36 = .ok (.iload_n 2, 1) := by decide +kernel
theorem dX6_lays_37 : decode cX6_lays 37 = .ok (.iaload, 1) := by decide +kernel
theorem dX6_lays_38 : decode cX6_lays 38 = .ok (.invokestatic 132, 3) := by decide +kernel
theorem dX6_lays_41 : decode cX6_lays 41 = .ok (.iadd, 1) := by decide +kernel
theorem dX6_lays_42 : decode cX6_lays 42 = .ok (.imul, 1) := by decide +kernel
theorem dX6_lays_43 : decode cX6_lays 43 = .ok (.aload_n 0, 1) := by decide +kernel
theorem dX6_lays_44 : decode cX6_lays 44 = .ok (.getfield 63, 3) := by decide +kernel
theorem dX6_lays_47 : decode cX6_lays 47 = .ok (.iload_n 1, 1) := by decide +kernel
theorem dX6_lays_48 : decode cX6_lays 48 = .ok (.iaload, 1) := by decide +kernel
theorem dX6_lays_49 : decode cX6_lays 49 = .ok (.aload_n 0, 1) := by decide +kernel
theorem dX6_lays_50 : decode cX6_lays 50 = .ok (.getfield 72, 3) := by decide +kernel
theorem dX6_lays_53 : decode cX6_lays 53 = .ok (.iload_n 2, 1) := by decide +kernel
theorem dX6_lays_54 : decode cX6_lays 54 = .ok (.iaload, 1) := by decide +kernel
theorem dX6_lays_55 : decode cX6_lays 55 = .ok (.if_icmp .ne 7, 3) := by decide +kernel
theorem dX6_lays_58 : decode cX6_lays 58 = .ok (.iconst 0, 1) := by decide +kernel
theorem dX6_lays_59 : decode cX6_lays 59 = .ok (.goto 9, 3) := by decide +kernel
theorem dX6_lays_62 : decode cX6_lays 62 = .ok (.aload_n 0, 1) := by decide +kernel
theorem dX6_lays_63 : decode cX6_lays 63 = .ok (.getfield 25, 3) := by decide +kernel
theorem dX6_lays_66 : decode cX6_lays 66 = .ok (.iconst 2, 1) := by decide +kernel
theorem dX6_lays_67 : decode cX6_lays 67 = .ok (.iaload, 1) := by decide +kernel
theorem dX6_lays_68 : decode cX6_lays 68 = .ok (.iadd, 1) := by decide +kernel
theorem dX6_lays_69 : decode cX6_lays 69 = .ok (.ireturn, 1) := by decide +kernel
theorem dX6_seeks_0 : decode cX6_seeks 0 = .ok (.iconst 0, 1) := by decide +kernel
theorem dX6_seeks_1 : decode cX6_seeks 1 = .ok (.istore_n 1, 1) := by decide +kernel
theorem dX6_seeks_2 : decode cX6_seeks 2 = .ok (.iload_n 1, 1) := by decide +kernel
theorem dX6_seeks_3 : decode cX6_seeks 3 = .ok (.bipush 8, 2) := by decide +kernel
theorem dX6_seeks_5 : decode cX6_seeks 5 = .ok (.if_icmp .ge 17, 3) := by decide +kernel
theorem dX6_seeks_8 : decode cX6_seeks 8 = .ok (.aload_n 0, 1) := by decide +kernel
theorem dX6_seeks_9 : decode cX6_seeks 9 = .ok (.getfield 81, 3) := by decide +kernel
theorem dX6_seeks_12 : decode cX6_seeks 12 = .ok (.iload_n 1, 1) := by decide +kernel
theorem dX6_seeks_13 : decode cX6_seeks 13 = .ok (.bipush (-2), 2) := by decide +kernel
theorem dX6_seeks_15 : decode cX6_seeks 15 = .ok (.iastore, 1) := by decide +kernel
theorem dX6_seeks_16 : decode cX6_seeks 16 = .ok (.iinc 1 1, 3) := by decide +kernel
theorem dX6_seeks_19 : decode cX6_seeks 19 = .ok (.goto (-17), 3) := by decide +kernel
theorem dX6_seeks_22 : decode cX6_seeks 22 = .ok (.aload_n 0, 1) := by decide +kernel
theorem dX6_seeks_23 : decode cX6_seeks 23 = .ok (.ldc 138, 2) := by decide +kernel
theorem dX6_seeks_25 : decode cX6_seeks 25 = .ok (.putfield 146, 3) := by decide +kernel
theorem dX6_seeks_28 : decode cX6_seeks 28 = .ok (.bipush (-3), 2) := by decide +kernel
theorem dX6_seeks_30 : decode cX6_seeks 30 = .ok (.istore_n 1, 1) := by decide +kernel
theorem dX6_seeks_31 : decode cX6_seeks 31 = .ok (.iload_n 1, 1) := by decide +kernel
theorem dX6_seeks_32 : decode cX6_seeks 32 = .ok (.iconst 3, 1) := by decide +kernel
theorem dX6_seeks_33 : decode cX6_seeks 33 = .ok (.if_icmp .gt 53, 3) := by decide +kernel
theorem dX6_seeks_36 : decode cX6_seeks 36 = .ok (.bipush (-3), 2) := by decide +kernel
theorem dX6_seeks_38 : decode cX6_seeks 38 = .ok (.istore_n 2, 1) := by decide +kernel
theorem dX6_seeks_39 : decode cX6_seeks 39 = .ok (.iload_n 2, 1) := by decide +kernel
theorem dX6_seeks_40 : decode cX6_seeks 40 = .ok (.iconst 3, 1) := by decide +kernel
theorem dX6_seeks_41 : decode cX6_seeks 41 = .ok (.if_icmp .gt 39, 3) := by decide +kernel
theorem dX6_seeks_44 : decode cX6_seeks 44 = .ok (.aload_n 0, 1) := by decide +kernel
theorem dX6_seeks_45 : decode cX6_seeks 45 = .ok (.iload_n 1, 1) := by decide +kernel
theorem dX6_seeks_46 : decode cX6_seeks 46 = .ok (.iload_n 2, 1) := by decide +kernel
theorem dX6_seeks_47 : decode cX6_seeks 47 = .ok (.invokevirtual 149, 3) := by decide +kernel
theorem dX6_seeks_50 : decode cX6_seeks 50 = .ok (.istore_n 3, 1) := by decide +kernel
theorem dX6_seeks_51 : decode cX6_seeks 51 = .ok (.iload_n 3, 1) := by decide +kernel
theorem dX6_seeks_52 : decode cX6_seeks 52 = .ok (.aload_n 0, 1) := by decide +kernel
theorem dX6_seeks_53 : decode cX6_seeks 53 = .ok (.getfield 146, 3) := by decide +kernel
theorem dX6_seeks_56 : decode cX6_seeks 56 = .ok (.if_icmp .ge 18, 3) := by decide +kernel
theorem dX6_seeks_59 : decode cX6_seeks 59 = .ok (.aload_n 0, 1) := by decide +kernel
theorem dX6_seeks_60 : decode cX6_seeks 60 = .ok (.iload_n 3, 1) := by decide +kernel
theorem dX6_seeks_61 : decode cX6_seeks 61 = .ok (.putfield 146, 3) := by decide +kernel
theorem dX6_seeks_64 : decode cX6_seeks 64 = .ok (.aload_n 0, 1) := by decide +kernel
theorem dX6_seeks_65 : decode cX6_seeks 65 = .ok (.iload_n 1, 1) := by decide +kernel
theorem dX6_seeks_66 : decode cX6_seeks 66 = .ok (.putfield 152, 3) := by decide +kernel
theorem dX6_seeks_69 : decode cX6_seeks 69 = .ok (.aload_n 0, 1) := by decide +kernel
theorem dX6_seeks_70 : decode cX6_seeks 70 = .ok (.iload_n 2, 1) := by decide +kernel
theorem dX6_seeks_71 : decode cX6_seeks 71 = .ok (.putfield 155, 3) := by decide +kernel
theorem dX6_seeks_74 : decode cX6_seeks 74 = .ok (.iinc 2 1, 3) := by decide +kernel
theorem dX6_seeks_77 : decode cX6_seeks 77 = .ok (.goto (-38), 3) := by decide +kernel
theorem dX6_seeks_80 : decode cX6_seeks 80 = .ok (.iinc 1 1, 3) := by decide +kernel
theorem dX6_seeks_83 : decode cX6_seeks 83 = .ok (.goto (-52), 3) := by decide +kernel
theorem dX6_seeks_86 : decode cX6_seeks 86 = .ok (.return_, 1) := by decide +kernel
theorem dX6_places_0 : decode cX6_places 0 = .ok (.iconst 0, 1) := by decide +kernel
theorem dX6_places_1 : decode cX6_places 1 = .ok (.istore_n 1, 1) := by decide +kernel
theorem dX6_places_2 : decode cX6_places 2 = .ok (.iload_n 1, 1) := by decide +kernel
theorem dX6_places_3 : decode cX6_places 3 = .ok (.aload_n 0, 1) := by decide +kernel
theorem dX6_places_4 : decode cX6_places 4 = .ok (.getfield 135, 3) := by decide +kernel
theorem dX6_places_7 : decode cX6_places 7 = .ok (.if_icmp .ge 132, 3) := by decide +kernel
theorem dX6_places_10 : decode cX6_places 10 = .ok (.aload_n 0, 1) := by decide +kernel
theorem dX6_places_11 : decode cX6_places 11 = .ok (.getfield 84, 3) := by decide +kernel
theorem dX6_places_14 : decode cX6_places 14 = .ok (.iload_n 1, 1) := by decide +kernel
theorem dX6_places_15 : decode cX6_places 15 = .ok (.iconst (-1), 1) := by decide +kernel
theorem dX6_places_16 : decode cX6_places 16 = .ok (.iastore, 1) := by decide +kernel
theorem dX6_places_17 : decode cX6_places 17 = .ok (.iconst 0, 1) := by decide +kernel
theorem dX6_places_18 : decode cX6_places 18 = .ok (.istore_n 2, 1) := by decide +kernel
theorem dX6_places_19 : decode cX6_places 19 = .ok (.iload_n 2, 1) := by decide +kernel
theorem dX6_places_20 : decode cX6_places 20 = .ok (.aload_n 0, 1) := by decide +kernel
theorem dX6_places_21 : decode cX6_places 21 = .ok (.getfield 139, 3) := by decide +kernel
theorem dX6_places_24 : decode cX6_places 24 = .ok (.if_icmp .ge 97, 3) := by decide +kernel
theorem dX6_places_27 : decode cX6_places 27 = .ok (.aload_n 0, 1) := by decide +kernel
theorem dX6_places_28 : decode cX6_places 28 = .ok (.getfield 84, 3) := by decide +kernel
theorem dX6_places_31 : decode cX6_places 31 = .ok (.iload_n 1, 1) := by decide +kernel
theorem dX6_places_32 : decode cX6_places 32 = .ok (.iaload, 1) := by decide +kernel
theorem dX6_places_33 : decode cX6_places 33 = .ok (.ifCond .ge 88, 3) := by decide +kernel
theorem dX6_places_36 : decode cX6_places 36 = .ok (.iconst 1, 1) := by decide +kernel
theorem dX6_places_37 : decode cX6_places 37 = .ok (.istore_n 3, 1) := by decide +kernel
theorem dX6_places_38 : decode cX6_places 38 = .ok (.iconst 0, 1) := by decide +kernel
theorem dX6_places_39 : decode cX6_places 39 = .ok (.istore 4, 2) := by decide +kernel
theorem dX6_places_41 : decode cX6_places 41 = .ok (.iload 4, 2) := by decide +kernel
theorem dX6_places_43 : decode cX6_places 43 = .ok (.iload_n 1, 1) := by decide +kernel
theorem dX6_places_44 : decode cX6_places 44 = .ok (.if_icmp .ge 30, 3) := by decide +kernel
theorem dX6_places_47 : decode cX6_places 47 = .ok (.iload_n 3, 1) := by decide +kernel
theorem dX6_places_48 : decode cX6_places 48 = .ok (.ifCond .eq 18, 3) := by decide +kernel
theorem dX6_places_51 : decode cX6_places 51 = .ok (.aload_n 0, 1) := by decide +kernel
theorem dX6_places_52 : decode cX6_places 52 = .ok (.getfield 84, 3) := by decide +kernel
theorem dX6_places_55 : decode cX6_places 55 = .ok (.iload 4, 2) := by decide +kernel
theorem dX6_places_57 : decode cX6_places 57 = .ok (.iaload, 1) := by decide +kernel
theorem dX6_places_58 : decode cX6_places 58 = .ok (.iload_n 2, 1) := by decide +kernel
theorem dX6_places_59 : decode cX6_places 59 = .ok (.if_icmp .eq 7, 3) := by decide +kernel
theorem dX6_places_62 : decode cX6_places 62 = .ok (.iconst 1, 1) := by decide +kernel
theorem dX6_places_63 : decode cX6_places 63 = .ok (.goto 4, 3) := by decide +kernel
theorem dX6_places_66 : decode cX6_places 66 = .ok (.iconst 0, 1) := by decide +kernel
theorem dX6_places_67 : decode cX6_places 67 = .ok (.istore_n 3, 1) := by decide +kernel
theorem dX6_places_68 : decode cX6_places 68 = .ok (.iinc 4 1, 3) := by decide +kernel
theorem dX6_places_71 : decode cX6_places 71 = .ok (.goto (-30), 3) := by decide +kernel
theorem dX6_places_74 : decode cX6_places 74 = .ok (.aload_n 0, 1) := by decide +kernel
theorem dX6_places_75 : decode cX6_places 75 = .ok (.getfield 81, 3) := by decide +kernel
theorem dX6_places_78 : decode cX6_places 78 = .ok (.iload_n 1, 1) := by decide +kernel
theorem dX6_places_79 : decode cX6_places 79 = .ok (.iload_n 2, 1) := by decide +kernel
theorem dX6_places_80 : decode cX6_places 80 = .ok (.iastore, 1) := by decide +kernel
theorem dX6_places_81 : decode cX6_places 81 = .ok (.aload_n 0, 1) := by decide +kernel
theorem dX6_places_82 : decode cX6_places 82 = .ok (.getfield 84, 3) := by decide +kernel
theorem dX6_places_85 : decode cX6_places 85 = .ok (.iload_n 1, 1) := by decide +kernel
theorem dX6_places_86 : decode cX6_places 86 = .ok (.iload_n 3, 1) := by decide +kernel
theorem dX6_places_87 : decode cX6_places 87 = .ok (.ifCond .eq 26, 3) := by decide +kernel
theorem dX6_places_90 : decode cX6_places 90 = .ok (.aload_n 0, 1) := by decide +kernel
theorem dX6_places_91 : decode cX6_places 91 = .ok (.aload_n 0, 1) := by decide +kernel
theorem dX6_places_92 : decode cX6_places 92 = .ok (.getfield 152, 3) := by decide +kernel
theorem dX6_places_95 : decode cX6_places 95 = .ok (.aload_n 0, 1) := by decide +kernel
theorem dX6_places_96 : decode cX6_places 96 = .ok (.getfield 155, 3) := by decide +kernel
theorem dX6_places_99 : decode cX6_places 99 = .ok (.invokevirtual 149, 3) := by decide +kernel
theorem dX6_places_102 : decode cX6_places 102 = .ok (.aload_n 0, 1) := by decide +kernel
theorem dX6_places_103 : decode cX6_places 103 = .ok (.getfield 146, 3) := by decide +kernel
theorem dX6_places_106 : decode cX6_places 106 = .ok (.if_icmp .ne 7, 3) := by decide +kernel
theorem dX6_places_109 : decode cX6_places 109 = .ok (.iload_n 2, 1) := by decide +kernel
theorem dX6_places_110 : decode cX6_places 110 = .ok (.goto 4, 3) := by decide +kernel
theorem dX6_places_113 : decode cX6_places 113 = .ok (.iconst (-1), 1) := by decide +kernel
theorem dX6_places_114 : decode cX6_places 114 = .ok (.iastore, 1) := by decide +kernel
theorem dX6_places_115 : decode cX6_places 115 = .ok (.iinc 2 1, 3) := by decide +kernel
theorem dX6_places_118 : decode cX6_places 118 = .ok (.goto (-99), 3) := by decide +kernel
theorem dX6_places_121 : decode cX6_places 121 = .ok (.aload_n 0, 1) := by decide +kernel
theorem dX6_places_122 : decode cX6_places 122 = .ok (.getfield 81, 3) := by decide +kernel
theorem dX6_places_125 : decode cX6_places 125 = .ok (.iload_n 1, 1) := by decide +kernel
theorem dX6_places_126 : decode cX6_places 126 = .ok (.aload_n 0, 1) := by decide +kernel
theorem dX6_places_127 : decode cX6_places 127 = .ok (.getfield 84, 3) := by decide +kernel
theorem dX6_places_130 : decode cX6_places 130 = .ok (.iload_n 1, 1) := by decide +kernel
theorem dX6_places_131 : decode cX6_places 131 = .ok (.iaload, 1) := by decide +kernel
theorem dX6_places_132 : decode cX6_places 132 = .ok (.iastore, 1) := by decide +kernel
theorem dX6_places_133 : decode cX6_places 133 = .ok (.iinc 1 1, 3) := by decide +kernel
theorem dX6_places_136 : decode cX6_places 136 = .ok (.goto (-134), 3) := by decide +kernel
theorem dX6_places_139 : decode cX6_places 139 = .ok (.return_, 1) := by decide +kernel
theorem dX6_takesPage_0 : decode cX6_takesPage 0 = .ok (.aload_n 0, 1) := by decide +kernel
theorem dX6_takesPage_1 : decode cX6_takesPage 1 = .ok (.aload_n 0, 1) := by decide +kernel
theorem dX6_takesPage_2 : decode cX6_takesPage 2 = .ok (.getfield 7, 3) := by decide +kernel
theorem dX6_takesPage_5 : decode cX6_takesPage 5 = .ok (.iload_n 1, 1) := by decide +kernel
theorem dX6_takesPage_6 : decode cX6_takesPage 6 = .ok (.iaload, 1) := by decide +kernel
theorem dX6_takesPage_7 : decode cX6_takesPage 7 = .ok (.putfield 135, 3) := by decide +kernel
theorem dX6_takesPage_10 : decode cX6_takesPage 10 = .ok (.iconst 0, 1) := by decide +kernel
theorem dX6_takesPage_11 : decode cX6_takesPage 11 = .ok (.istore_n 2, 1) := by decide +kernel
theorem dX6_takesPage_12 : decode cX6_takesPage 12 = .ok (.iload_n 2, 1) := by decide +kernel
theorem dX6_takesPage_13 : decode cX6_takesPage 13 = .ok (.aload_n 0, 1) := by decide +kernel
theorem dX6_takesPage_14 : decode cX6_takesPage 14 = .ok (.getfield 135, 3) := by decide +kernel
theorem dX6_takesPage_17 : decode cX6_takesPage 17 = .ok (.if_icmp .ge 60, 3) := by decide +kernel
theorem dX6_takesPage_20 : decode cX6_takesPage 20 = .ok (.aload_n 0, 1) := by decide +kernel
theorem dX6_takesPage_21 : decode cX6_takesPage 21 = .ok (.getfield 57, 3) := by decide +kernel
theorem dX6_takesPage_24 : decode cX6_takesPage 24 = .ok (.iload_n 2, 1) := by decide +kernel
theorem dX6_takesPage_25 : decode cX6_takesPage 25 = .ok (.aload_n 0, 1) := by decide +kernel
theorem dX6_takesPage_26 : decode cX6_takesPage 26 = .ok (.getfield 13, 3) := by decide +kernel
theorem dX6_takesPage_29 : decode cX6_takesPage 29 = .ok (.bipush 8, 2) := by decide +kernel
theorem dX6_takesPage_31 : decode cX6_takesPage 31 = .ok (.iload_n 1, 1) := by decide +kernel
theorem dX6_takesPage_32 : decode cX6_takesPage 32 = .ok (.imul, 1) := by decide +kernel
theorem dX6_takesPage_33 : decode cX6_takesPage 33 = .ok (.iload_n 2, 1) := by decide +kernel
theorem dX6_takesPage_34 : decode cX6_takesPage 34 = .ok (.iadd, 1) := by decide +kernel
theorem dX6_takesPage_35 : decode cX6_takesPage 35 = .ok (.iaload, 1) := by decide +kernel
theorem dX6_takesPage_36 : decode cX6_takesPage 36 = .ok (.iastore, 1) := by decide +kernel
theorem dX6_takesPage_37 : decode cX6_takesPage 37 = .ok (.aload_n 0, 1) := by decide +kernel
theorem dX6_takesPage_38 : decode cX6_takesPage 38 = .ok (.getfield 60, 3) := by decide +kernel
theorem dX6_takesPage_41 : decode cX6_takesPage 41 = .ok (.iload_n 2, 1) := by decide +kernel
theorem dX6_takesPage_42 : decode cX6_takesPage 42 = .ok (.aload_n 0, 1) := by decide +kernel
theorem dX6_takesPage_43 : decode cX6_takesPage 43 = .ok (.getfield 16, 3) := by decide +kernel
theorem dX6_takesPage_46 : decode cX6_takesPage 46 = .ok (.bipush 8, 2) := by decide +kernel
theorem dX6_takesPage_48 : decode cX6_takesPage 48 = .ok (.iload_n 1, 1) := by decide +kernel
theorem dX6_takesPage_49 : decode cX6_takesPage 49 = .ok (.imul, 1) := by decide +kernel
theorem dX6_takesPage_50 : decode cX6_takesPage 50 = .ok (.iload_n 2, 1) := by decide +kernel
theorem dX6_takesPage_51 : decode cX6_takesPage 51 = .ok (.iadd, 1) := by decide +kernel
theorem dX6_takesPage_52 : decode cX6_takesPage 52 = .ok (.iaload, 1) := by decide +kernel
theorem dX6_takesPage_53 : decode cX6_takesPage 53 = .ok (.iastore, 1) := by decide +kernel
theorem dX6_takesPage_54 : decode cX6_takesPage 54 = .ok (.aload_n 0, 1) := by decide +kernel
theorem dX6_takesPage_55 : decode cX6_takesPage 55 = .ok (.getfield 63, 3) := by decide +kernel
theorem dX6_takesPage_58 : decode cX6_takesPage 58 = .ok (.iload_n 2, 1) := by decide +kernel
theorem dX6_takesPage_59 : decode cX6_takesPage 59 = .ok (.aload_n 0, 1) := by decide +kernel
theorem dX6_takesPage_60 : decode cX6_takesPage 60 = .ok (.getfield 19, 3) := by decide +kernel
theorem dX6_takesPage_63 : decode cX6_takesPage 63 = .ok (.bipush 8, 2) := by decide +kernel
theorem dX6_takesPage_65 : decode cX6_takesPage 65 = .ok (.iload_n 1, 1) := by decide +kernel
theorem dX6_takesPage_66 : decode cX6_takesPage 66 = .ok (.imul, 1) := by decide +kernel
theorem dX6_takesPage_67 : decode cX6_takesPage 67 = .ok (.iload_n 2, 1) := by decide +kernel
theorem dX6_takesPage_68 : decode cX6_takesPage 68 = .ok (.iadd, 1) := by decide +kernel
theorem dX6_takesPage_69 : decode cX6_takesPage 69 = .ok (.iaload, 1) := by decide +kernel
theorem dX6_takesPage_70 : decode cX6_takesPage 70 = .ok (.iastore, 1) := by decide +kernel
theorem dX6_takesPage_71 : decode cX6_takesPage 71 = .ok (.iinc 2 1, 3) := by decide +kernel
theorem dX6_takesPage_74 : decode cX6_takesPage 74 = .ok (.goto (-62), 3) := by decide +kernel
theorem dX6_takesPage_77 : decode cX6_takesPage 77 = .ok (.return_, 1) := by decide +kernel
theorem dX6_costOf_0 : decode cX6_costOf 0 = .ok (.iconst 5, 1) := by decide +kernel
theorem dX6_costOf_1 : decode cX6_costOf 1 = .ok (.iload_n 1, 1) := by decide +kernel
theorem dX6_costOf_2 : decode cX6_costOf 2 = .ok (.imul, 1) := by decide +kernel
theorem dX6_costOf_3 : decode cX6_costOf 3 = .ok (.iload_n 2, 1) := by decide +kernel
theorem dX6_costOf_4 : decode cX6_costOf 4 = .ok (.iadd, 1) := by decide +kernel
theorem dX6_costOf_5 : decode cX6_costOf 5 = .ok (.istore_n 3, 1) := by decide +kernel
theorem dX6_costOf_6 : decode cX6_costOf 6 = .ok (.aload_n 0, 1) := by decide +kernel
theorem dX6_costOf_7 : decode cX6_costOf 7 = .ok (.getfield 87, 3) := by decide +kernel
theorem dX6_costOf_10 : decode cX6_costOf 10 = .ok (.iload_n 3, 1) := by decide +kernel
theorem dX6_costOf_11 : decode cX6_costOf 11 = .ok (.iaload, 1) := by decide +kernel
theorem dX6_costOf_12 : decode cX6_costOf 12 = .ok (.ifCond .ge 27, 3) := by decide +kernel
theorem dX6_costOf_15 : decode cX6_costOf 15 = .ok (.aload_n 0, 1) := by decide +kernel
theorem dX6_costOf_16 : decode cX6_costOf 16 = .ok (.iload_n 1, 1) := by decide +kernel
theorem dX6_costOf_17 : decode cX6_costOf 17 = .ok (.invokevirtual 158, 3) := by decide +kernel
theorem dX6_costOf_20 : decode cX6_costOf 20 = .ok (.aload_n 0, 1) := by decide +kernel
theorem dX6_costOf_21 : decode cX6_costOf 21 = .ok (.iload_n 2, 1) := by decide +kernel
theorem dX6_costOf_22 : decode cX6_costOf 22 = .ok (.invokevirtual 162, 3) := by decide +kernel
theorem dX6_costOf_25 : decode cX6_costOf 25 = .ok (.aload_n 0, 1) := by decide +kernel
theorem dX6_costOf_26 : decode cX6_costOf 26 = .ok (.invokevirtual 165, 3) := by decide +kernel
theorem dX6_costOf_29 : decode cX6_costOf 29 = .ok (.aload_n 0, 1) := by decide +kernel
theorem dX6_costOf_30 : decode cX6_costOf 30 = .ok (.getfield 87, 3) := by decide +kernel
theorem dX6_costOf_33 : decode cX6_costOf 33 = .ok (.iload_n 3, 1) := by decide +kernel
theorem dX6_costOf_34 : decode cX6_costOf 34 = .ok (.aload_n 0, 1) := by decide +kernel
theorem dX6_costOf_35 : decode cX6_costOf 35 = .ok (.getfield 146, 3) := by decide +kernel
theorem dX6_costOf_38 : decode cX6_costOf 38 = .ok (.iastore, 1) := by decide +kernel
theorem dX6_costOf_39 : decode cX6_costOf 39 = .ok (.aload_n 0, 1) := by decide +kernel
theorem dX6_costOf_40 : decode cX6_costOf 40 = .ok (.getfield 87, 3) := by decide +kernel
theorem dX6_costOf_43 : decode cX6_costOf 43 = .ok (.iload_n 3, 1) := by decide +kernel
theorem dX6_costOf_44 : decode cX6_costOf 44 = .ok (.iaload, 1) := by decide +kernel
theorem dX6_costOf_45 : decode cX6_costOf 45 = .ok (.ireturn, 1) := by decide +kernel
theorem dX6_isLaid_0 : decode cX6_isLaid 0 = .ok (.aload_n 0, 1) := by decide +kernel
theorem dX6_isLaid_1 : decode cX6_isLaid 1 = .ok (.iload_n 1, 1) := by decide +kernel
theorem dX6_isLaid_2 : decode cX6_isLaid 2 = .ok (.invokevirtual 113, 3) := by decide +kernel
theorem dX6_isLaid_5 : decode cX6_isLaid 5 = .ok (.ifCond .eq 11, 3) := by decide +kernel
theorem dX6_isLaid_8 : decode cX6_isLaid 8 = .ok (.aload_n 0, 1) := by decide +kernel
theorem dX6_isLaid_9 : decode cX6_isLaid 9 = .ok (.iload_n 2, 1) := by decide +kernel
theorem dX6_isLaid_10 : decode cX6_isLaid 10 = .ok (.invokevirtual 168, 3) := by decide +kernel
theorem dX6_isLaid_13 : decode cX6_isLaid 13 = .ok (.ifCond .ne 5, 3) := by decide +kernel
theorem dX6_isLaid_16 : decode cX6_isLaid 16 = .ok (.iconst 0, 1) := by decide +kernel
theorem dX6_isLaid_17 : decode cX6_isLaid 17 = .ok (.ireturn, 1) := by decide +kernel
theorem dX6_isLaid_18 : decode cX6_isLaid 18 = .ok (.aload_n 0, 1) := by decide +kernel
theorem dX6_isLaid_19 : decode cX6_isLaid 19 = .ok (.iload_n 1, 1) := by decide +kernel
theorem dX6_isLaid_20 : decode cX6_isLaid 20 = .ok (.invokevirtual 158, 3) := by decide +kernel
theorem dX6_isLaid_23 : decode cX6_isLaid 23 = .ok (.aload_n 0, 1) := by decide +kernel
theorem dX6_isLaid_24 : decode cX6_isLaid 24 = .ok (.iload_n 2, 1) := by decide +kernel
theorem dX6_isLaid_25 : decode cX6_isLaid 25 = .ok (.invokevirtual 162, 3) := by decide +kernel
theorem dX6_isLaid_28 : decode cX6_isLaid 28 = .ok (.aload_n 0, 1) := by decide +kernel
theorem dX6_isLaid_29 : decode cX6_isLaid 29 = .ok (.invokevirtual 165, 3) := by decide +kernel
theorem dX6_isLaid_32 : decode cX6_isLaid 32 = .ok (.aload_n 0, 1) := by decide +kernel
theorem dX6_isLaid_33 : decode cX6_isLaid 33 = .ok (.invokevirtual 171, 3) := by decide +kernel
theorem dX6_isLaid_36 : decode cX6_isLaid 36 = .ok (.iconst 1, 1) := by decide +kernel
theorem dX6_isLaid_37 : decode cX6_isLaid 37 = .ok (.ireturn, 1) := by decide +kernel
theorem dX6_lay_0 : decode cX6_lay 0 = .ok (.aload_n 0, 1) := by decide +kernel
theorem dX6_lay_1 : decode cX6_lay 1 = .ok (.iload_n 1, 1) := by decide +kernel
theorem dX6_lay_2 : decode cX6_lay 2 = .ok (.invokevirtual 113, 3) := by decide +kernel
theorem dX6_lay_5 : decode cX6_lay 5 = .ok (.ifCond .eq 34, 3) := by decide +kernel
theorem dX6_lay_8 : decode cX6_lay 8 = .ok (.iload_n 3, 1) := by decide +kernel
theorem dX6_lay_9 : decode cX6_lay 9 = .ok (.ifCond .eq 21, 3) := by decide +kernel
theorem dX6_lay_12 : decode cX6_lay 12 = .ok (.iload_n 3, 1) := by decide +kernel
theorem dX6_lay_13 : decode cX6_lay 13 = .ok (.bipush 10, 2) := by decide +kernel
theorem dX6_lay_15 : decode cX6_lay 15 = .ok (.bipush 9, 2) := by decide +kernel
theorem dX6_lay_17 : decode cX6_lay 17 = .ok (.aload_n 0, 1) := by decide +kernel
theorem dX6_lay_18 : decode cX6_lay 18 = .ok (.getfield 7, 3) := by decide +kernel
theorem dX6_lay_21 : decode cX6_lay 21 = .ok (.iload_n 1, 1) := by decide +kernel
theorem dX6_lay_22 : decode cX6_lay 22 = .ok (.iaload, 1) := by decide +kernel
theorem dX6_lay_23 : decode cX6_lay 23 = .ok (.iadd, 1) := by decide +kernel
theorem dX6_lay_24 : decode cX6_lay 24 = .ok (.invokestatic 102, 3) := by decide +kernel
theorem dX6_lay_27 : decode cX6_lay 27 = .ok (.ifCond .eq 12, 3) := by decide +kernel
theorem dX6_lay_30 : decode cX6_lay 30 = .ok (.aload_n 0, 1) := by decide +kernel
theorem dX6_lay_31 : decode cX6_lay 31 = .ok (.iload_n 1, 1) := by decide +kernel
theorem dX6_lay_32 : decode cX6_lay 32 = .ok (.iload_n 2, 1) := by decide +kernel
theorem dX6_lay_33 : decode cX6_lay 33 = .ok (.invokevirtual 173, 3) := by decide +kernel
theorem dX6_lay_36 : decode cX6_lay 36 = .ok (.ifCond .ne 5, 3) := by decide +kernel
theorem dX6_lay_39 : decode cX6_lay 39 = .ok (.iconst (-1), 1) := by decide +kernel
theorem dX6_lay_40 : decode cX6_lay 40 = .ok (.ireturn, 1) := by decide +kernel
theorem dX6_lay_41 : decode cX6_lay 41 = .ok (.iload_n 3, 1) := by decide +kernel
theorem dX6_lay_42 : decode cX6_lay 42 = .ok (.ifCond .ne 10, 3) := by decide +kernel
theorem dX6_lay_45 : decode cX6_lay 45 = .ok (.aload_n 0, 1) := by decide +kernel
theorem dX6_lay_46 : decode cX6_lay 46 = .ok (.getfield 146, 3) := by decide +kernel
theorem dX6_lay_49 : decode cX6_lay 49 = .ok (.goto 12, 3) := by decide +kernel
theorem dX6_lay_52 : decode cX6_lay 52 = .ok (.aload_n 0, 1) := by decide +kernel
theorem dX6_lay_53 : decode cX6_lay 53 = .ok (.getfield 84, 3) := by decide +kernel
theorem dX6_lay_56 : decode cX6_lay 56 = .ok (.iload_n 3, 1) := by decide +kernel
theorem dX6_lay_57 : decode cX6_lay 57 = .ok (.bipush 10, 2) := by decide +kernel
theorem dX6_lay_59 : decode cX6_lay 59 = .ok (.isub, 1) := by decide +kernel
theorem dX6_lay_60 : decode cX6_lay 60 = .ok (.iaload, 1) := by decide +kernel
theorem dX6_lay_61 : decode cX6_lay 61 = .ok (.ireturn, 1) := by decide +kernel
theorem dX6_moved_0 : decode cX6_moved 0 = .ok (.aload_n 0, 1) := by decide +kernel
theorem dX6_moved_1 : decode cX6_moved 1 = .ok (.iload_n 1, 1) := by decide +kernel
theorem dX6_moved_2 : decode cX6_moved 2 = .ok (.iload_n 2, 1) := by decide +kernel
theorem dX6_moved_3 : decode cX6_moved 3 = .ok (.invokevirtual 173, 3) := by decide +kernel
theorem dX6_moved_6 : decode cX6_moved 6 = .ok (.ifCond .ne 6, 3) := by decide +kernel
theorem dX6_moved_9 : decode cX6_moved 9 = .ok (.bipush (-10), 2) := by decide +kernel
theorem dX6_moved_11 : decode cX6_moved 11 = .ok (.ireturn, 1) := by decide +kernel
theorem dX6_moved_12 : decode cX6_moved 12 = .ok (.iload_n 3, 1) := by decide +kernel
theorem dX6_moved_13 : decode cX6_moved 13 = .ok (.ifCond .eq 10, 3) := by decide +kernel
theorem dX6_moved_16 : decode cX6_moved 16 = .ok (.aload_n 0, 1) := by decide +kernel
theorem dX6_moved_17 : decode cX6_moved 17 = .ok (.getfield 155, 3) := by decide +kernel
theorem dX6_moved_20 : decode cX6_moved 20 = .ok (.goto 7, 3) := by decide +kernel
theorem dX6_moved_23 : decode cX6_moved 23 = .ok (.aload_n 0, 1) := by decide +kernel
theorem dX6_moved_24 : decode cX6_moved 24 = .ok (.getfield 152, 3) := by decide +kernel
theorem dX6_moved_27 : decode cX6_moved 27 = .ok (.ireturn, 1) := by decide +kernel
theorem dX6_read_0 : decode cX6_read 0 = .ok (.aload_n 0, 1) := by decide +kernel
theorem dX6_read_1 : decode cX6_read 1 = .ok (.iload_n 1, 1) := by decide +kernel
theorem dX6_read_2 : decode cX6_read 2 = .ok (.iload_n 2, 1) := by decide +kernel
theorem dX6_read_3 : decode cX6_read 3 = .ok (.invokevirtual 173, 3) := by decide +kernel
theorem dX6_read_6 : decode cX6_read 6 = .ok (.ifCond .eq 17, 3) := by decide +kernel
theorem dX6_read_9 : decode cX6_read 9 = .ok (.iload_n 3, 1) := by decide +kernel
theorem dX6_read_10 : decode cX6_read 10 = .ok (.iconst 0, 1) := by decide +kernel
theorem dX6_read_11 : decode cX6_read 11 = .ok (.aload_n 0, 1) := by decide +kernel
theorem dX6_read_12 : decode cX6_read 12 = .ok (.getfield 139, 3) := by decide +kernel
theorem dX6_read_15 : decode cX6_read 15 = .ok (.iconst 1, 1) := by decide +kernel
theorem dX6_read_16 : decode cX6_read 16 = .ok (.isub, 1) := by decide +kernel
theorem dX6_read_17 : decode cX6_read 17 = .ok (.invokestatic 102, 3) := by decide +kernel
theorem dX6_read_20 : decode cX6_read 20 = .ok (.ifCond .ne 5, 3) := by decide +kernel
theorem dX6_read_23 : decode cX6_read 23 = .ok (.iconst (-1), 1) := by decide +kernel
theorem dX6_read_24 : decode cX6_read 24 = .ok (.ireturn, 1) := by decide +kernel
theorem dX6_read_25 : decode cX6_read 25 = .ok (.iconst (-1), 1) := by decide +kernel
theorem dX6_read_26 : decode cX6_read 26 = .ok (.istore 4, 2) := by decide +kernel
theorem dX6_read_28 : decode cX6_read 28 = .ok (.iconst 0, 1) := by decide +kernel
theorem dX6_read_29 : decode cX6_read 29 = .ok (.istore 5, 2) := by decide +kernel
theorem dX6_read_31 : decode cX6_read 31 = .ok (.iload 5, 2) := by decide +kernel
theorem dX6_read_33 : decode cX6_read 33 = .ok (.aload_n 0, 1) := by decide +kernel
theorem dX6_read_34 : decode cX6_read 34 = .ok (.getfield 135, 3) := by decide +kernel
theorem dX6_read_37 : decode cX6_read 37 = .ok (.if_icmp .ge 34, 3) := by decide +kernel
theorem dX6_read_40 : decode cX6_read 40 = .ok (.aload_n 0, 1) := by decide +kernel
theorem dX6_read_41 : decode cX6_read 41 = .ok (.getfield 84, 3) := by decide +kernel
theorem dX6_read_44 : decode cX6_read 44 = .ok (.iload 5, 2) := by decide +kernel
theorem dX6_read_46 : decode cX6_read 46 = .ok (.iaload, 1) := by decide +kernel
theorem dX6_read_47 : decode cX6_read 47 = .ok (.iload_n 3, 1) := by decide +kernel
theorem dX6_read_48 : decode cX6_read 48 = .ok (.if_icmp .ne 13, 3) := by decide +kernel
theorem dX6_read_51 : decode cX6_read 51 = .ok (.aload_n 0, 1) := by decide +kernel
theorem dX6_read_52 : decode cX6_read 52 = .ok (.getfield 63, 3) := by decide +kernel
theorem dX6_read_55 : decode cX6_read 55 = .ok (.iload 5, 2) := by decide +kernel
theorem dX6_read_57 : decode cX6_read 57 = .ok (.iaload, 1) := by decide +kernel
theorem dX6_read_58 : decode cX6_read 58 = .ok (.goto 5, 3) := by decide +kernel
theorem dX6_read_61 : decode cX6_read 61 = .ok (.iload 4, 2) := by decide +kernel
theorem dX6_read_63 : decode cX6_read 63 = .ok (.istore 4, 2) := by decide +kernel
theorem dX6_read_65 : decode cX6_read 65 = .ok (.iinc 5 1, 3) := by decide +kernel
theorem dX6_read_68 : decode cX6_read 68 = .ok (.goto (-37), 3) := by decide +kernel
theorem dX6_read_71 : decode cX6_read 71 = .ok (.iload 4, 2) := by decide +kernel
theorem dX6_read_73 : decode cX6_read 73 = .ok (.ireturn, 1) := by decide +kernel
theorem dX6_looks_0 : decode cX6_looks 0 = .ok (.aload_n 0, 1) := by decide +kernel
theorem dX6_looks_1 : decode cX6_looks 1 = .ok (.iconst (-1), 1) := by decide +kernel
theorem dX6_looks_2 : decode cX6_looks 2 = .ok (.putfield 177, 3) := by decide +kernel
theorem dX6_looks_5 : decode cX6_looks 5 = .ok (.aload_n 0, 1) := by decide +kernel
theorem dX6_looks_6 : decode cX6_looks 6 = .ok (.ldc 138, 2) := by decide +kernel
theorem dX6_looks_8 : decode cX6_looks 8 = .ok (.putfield 180, 3) := by decide +kernel
theorem dX6_looks_11 : decode cX6_looks 11 = .ok (.aload_n 0, 1) := by decide +kernel
theorem dX6_looks_12 : decode cX6_looks 12 = .ok (.ldc 138, 2) := by decide +kernel
theorem dX6_looks_14 : decode cX6_looks 14 = .ok (.putfield 183, 3) := by decide +kernel
theorem dX6_looks_17 : decode cX6_looks 17 = .ok (.iconst 0, 1) := by decide +kernel
theorem dX6_looks_18 : decode cX6_looks 18 = .ok (.istore_n 2, 1) := by decide +kernel
theorem dX6_looks_19 : decode cX6_looks 19 = .ok (.iload_n 2, 1) := by decide +kernel
theorem dX6_looks_20 : decode cX6_looks 20 = .ok (.iconst 5, 1) := by decide +kernel
theorem dX6_looks_21 : decode cX6_looks 21 = .ok (.if_icmp .ge 69, 3) := by decide +kernel
theorem dX6_looks_24 : decode cX6_looks 24 = .ok (.aload_n 0, 1) := by decide +kernel
theorem dX6_looks_25 : decode cX6_looks 25 = .ok (.iload_n 2, 1) := by decide +kernel
theorem dX6_looks_26 : decode cX6_looks 26 = .ok (.invokevirtual 168, 3) := by decide +kernel
theorem dX6_looks_29 : decode cX6_looks 29 = .ok (.ifCond .ne 6, 3) := by decide +kernel
theorem dX6_looks_32 : decode cX6_looks 32 = .ok (.goto 52, 3) := by decide +kernel
theorem dX6_looks_35 : decode cX6_looks 35 = .ok (.aload_n 0, 1) := by decide +kernel
theorem dX6_looks_36 : decode cX6_looks 36 = .ok (.iload_n 1, 1) := by decide +kernel
theorem dX6_looks_37 : decode cX6_looks 37 = .ok (.iload_n 2, 1) := by decide +kernel
theorem dX6_looks_38 : decode cX6_looks 38 = .ok (.invokevirtual 186, 3) := by decide +kernel
theorem dX6_looks_41 : decode cX6_looks 41 = .ok (.istore_n 3, 1) := by decide +kernel
theorem dX6_looks_42 : decode cX6_looks 42 = .ok (.iload_n 3, 1) := by decide +kernel
theorem dX6_looks_43 : decode cX6_looks 43 = .ok (.aload_n 0, 1) := by decide +kernel
theorem dX6_looks_44 : decode cX6_looks 44 = .ok (.getfield 180, 3) := by decide +kernel
theorem dX6_looks_47 : decode cX6_looks 47 = .ok (.if_icmp .ge 24, 3) := by decide +kernel
theorem dX6_looks_50 : decode cX6_looks 50 = .ok (.aload_n 0, 1) := by decide +kernel
theorem dX6_looks_51 : decode cX6_looks 51 = .ok (.aload_n 0, 1) := by decide +kernel
theorem dX6_looks_52 : decode cX6_looks 52 = .ok (.getfield 180, 3) := by decide +kernel
theorem dX6_looks_55 : decode cX6_looks 55 = .ok (.putfield 183, 3) := by decide +kernel
theorem dX6_looks_58 : decode cX6_looks 58 = .ok (.aload_n 0, 1) := by decide +kernel
theorem dX6_looks_59 : decode cX6_looks 59 = .ok (.iload_n 3, 1) := by decide +kernel
theorem dX6_looks_60 : decode cX6_looks 60 = .ok (.putfield 180, 3) := by decide +kernel
theorem dX6_looks_63 : decode cX6_looks 63 = .ok (.aload_n 0, 1) := by decide +kernel
theorem dX6_looks_64 : decode cX6_looks 64 = .ok (.iload_n 2, 1) := by decide +kernel
theorem dX6_looks_65 : decode cX6_looks 65 = .ok (.putfield 177, 3) := by decide +kernel
theorem dX6_looks_68 : decode cX6_looks 68 = .ok (.goto 16, 3) := by decide +kernel
theorem dX6_looks_71 : decode cX6_looks 71 = .ok (.iload_n 3, 1) := by decide +kernel
theorem dX6_looks_72 : decode cX6_looks 72 = .ok (.aload_n 0, 1) := by decide +kernel
theorem dX6_looks_73 : decode cX6_looks 73 = .ok (.getfield 183, 3) := by decide +kernel
theorem dX6_looks_76 : decode cX6_looks 76 = .ok (.if_icmp .ge 8, 3) := by decide +kernel
theorem dX6_looks_79 : decode cX6_looks 79 = .ok (.aload_n 0, 1) := by decide +kernel
theorem dX6_looks_80 : decode cX6_looks 80 = .ok (.iload_n 3, 1) := by decide +kernel
theorem dX6_looks_81 : decode cX6_looks 81 = .ok (.putfield 183, 3) := by decide +kernel
theorem dX6_looks_84 : decode cX6_looks 84 = .ok (.iinc 2 1, 3) := by decide +kernel
theorem dX6_looks_87 : decode cX6_looks 87 = .ok (.goto (-68), 3) := by decide +kernel
theorem dX6_looks_90 : decode cX6_looks 90 = .ok (.return_, 1) := by decide +kernel
theorem dX6_sortOf_0 : decode cX6_sortOf 0 = .ok (.aload_n 0, 1) := by decide +kernel
theorem dX6_sortOf_1 : decode cX6_sortOf 1 = .ok (.iload_n 1, 1) := by decide +kernel
theorem dX6_sortOf_2 : decode cX6_sortOf 2 = .ok (.invokevirtual 189, 3) := by decide +kernel
theorem dX6_sortOf_5 : decode cX6_sortOf 5 = .ok (.aload_n 0, 1) := by decide +kernel
theorem dX6_sortOf_6 : decode cX6_sortOf 6 = .ok (.getfield 177, 3) := by decide +kernel
theorem dX6_sortOf_9 : decode cX6_sortOf 9 = .ok (.ifCond .lt 14, 3) := by decide +kernel
theorem dX6_sortOf_12 : decode cX6_sortOf 12 = .ok (.aload_n 0, 1) := by decide +kernel
theorem dX6_sortOf_13 : decode cX6_sortOf 13 = .ok (.getfield 180, 3) := by decide +kernel
theorem dX6_sortOf_16 : decode cX6_sortOf 16 = .ok (.aload_n 0, 1) := by decide +kernel
theorem dX6_sortOf_17 : decode cX6_sortOf 17 = .ok (.getfield 28, 3) := by decide +kernel
theorem dX6_sortOf_20 : decode cX6_sortOf 20 = .ok (.if_icmp .le 6, 3) := by decide +kernel
theorem dX6_sortOf_23 : decode cX6_sortOf 23 = .ok (.bipush 10, 2) := by decide +kernel
theorem dX6_sortOf_25 : decode cX6_sortOf 25 = .ok (.ireturn, 1) := by decide +kernel
theorem dX6_sortOf_26 : decode cX6_sortOf 26 = .ok (.aload_n 0, 1) := by decide +kernel
theorem dX6_sortOf_27 : decode cX6_sortOf 27 = .ok (.getfield 183, 3) := by decide +kernel
theorem dX6_sortOf_30 : decode cX6_sortOf 30 = .ok (.aload_n 0, 1) := by decide +kernel
theorem dX6_sortOf_31 : decode cX6_sortOf 31 = .ok (.getfield 180, 3) := by decide +kernel
theorem dX6_sortOf_34 : decode cX6_sortOf 34 = .ok (.aload_n 0, 1) := by decide +kernel
theorem dX6_sortOf_35 : decode cX6_sortOf 35 = .ok (.getfield 32, 3) := by decide +kernel
theorem dX6_sortOf_38 : decode cX6_sortOf 38 = .ok (.iadd, 1) := by decide +kernel
theorem dX6_sortOf_39 : decode cX6_sortOf 39 = .ok (.if_icmp .ge 8, 3) := by decide +kernel
theorem dX6_sortOf_42 : decode cX6_sortOf 42 = .ok (.bipush 11, 2) := by decide +kernel
theorem dX6_sortOf_44 : decode cX6_sortOf 44 = .ok (.goto 7, 3) := by decide +kernel
theorem dX6_sortOf_47 : decode cX6_sortOf 47 = .ok (.aload_n 0, 1) := by decide +kernel
theorem dX6_sortOf_48 : decode cX6_sortOf 48 = .ok (.getfield 177, 3) := by decide +kernel
theorem dX6_sortOf_51 : decode cX6_sortOf 51 = .ok (.ireturn, 1) := by decide +kernel
theorem dX6_sorted_0 : decode cX6_sorted 0 = .ok (.aload_n 0, 1) := by decide +kernel
theorem dX6_sorted_1 : decode cX6_sorted 1 = .ok (.iload_n 1, 1) := by decide +kernel
theorem dX6_sorted_2 : decode cX6_sorted 2 = .ok (.invokevirtual 113, 3) := by decide +kernel
theorem dX6_sorted_5 : decode cX6_sorted 5 = .ok (.ifCond .eq 11, 3) := by decide +kernel
theorem dX6_sorted_8 : decode cX6_sorted 8 = .ok (.aload_n 0, 1) := by decide +kernel
theorem dX6_sorted_9 : decode cX6_sorted 9 = .ok (.iload_n 1, 1) := by decide +kernel
theorem dX6_sorted_10 : decode cX6_sorted 10 = .ok (.invokevirtual 192, 3) := by decide +kernel
theorem dX6_sorted_13 : decode cX6_sorted 13 = .ok (.goto 4, 3) := by decide +kernel
theorem dX6_sorted_16 : decode cX6_sorted 16 = .ok (.iconst (-1), 1) := by decide +kernel
theorem dX6_sorted_17 : decode cX6_sorted 17 = .ok (.ireturn, 1) := by decide +kernel
theorem dX6_told_0 : decode cX6_told 0 = .ok (.aload_n 0, 1) := by decide +kernel
theorem dX6_told_1 : decode cX6_told 1 = .ok (.iload_n 1, 1) := by decide +kernel
theorem dX6_told_2 : decode cX6_told 2 = .ok (.invokevirtual 113, 3) := by decide +kernel
theorem dX6_told_5 : decode cX6_told 5 = .ok (.ifCond .eq 12, 3) := by decide +kernel
theorem dX6_told_8 : decode cX6_told 8 = .ok (.aload_n 0, 1) := by decide +kernel
theorem dX6_told_9 : decode cX6_told 9 = .ok (.getfield 22, 3) := by decide +kernel
theorem dX6_told_12 : decode cX6_told 12 = .ok (.iload_n 1, 1) := by decide +kernel
theorem dX6_told_13 : decode cX6_told 13 = .ok (.iaload, 1) := by decide +kernel
theorem dX6_told_14 : decode cX6_told 14 = .ok (.goto 4, 3) := by decide +kernel
theorem dX6_told_17 : decode cX6_told 17 = .ok (.iconst (-1), 1) := by decide +kernel
theorem dX6_told_18 : decode cX6_told 18 = .ok (.ireturn, 1) := by decide +kernel
theorem dX6_look_0 : decode cX6_look 0 = .ok (.iconst (-1), 1) := by decide +kernel
theorem dX6_look_1 : decode cX6_look 1 = .ok (.istore_n 1, 1) := by decide +kernel
theorem dX6_look_2 : decode cX6_look 2 = .ok (.ldc 138, 2) := by decide +kernel
theorem dX6_look_4 : decode cX6_look 4 = .ok (.istore_n 2, 1) := by decide +kernel
theorem dX6_look_5 : decode cX6_look 5 = .ok (.iconst 0, 1) := by decide +kernel
theorem dX6_look_6 : decode cX6_look 6 = .ok (.istore_n 3, 1) := by decide +kernel
theorem dX6_look_7 : decode cX6_look 7 = .ok (.iload_n 3, 1) := by decide +kernel
theorem dX6_look_8 : decode cX6_look 8 = .ok (.aload_n 0, 1) := by decide +kernel
theorem dX6_look_9 : decode cX6_look 9 = .ok (.getfield 99, 3) := by decide +kernel
theorem dX6_look_12 : decode cX6_look 12 = .ok (.if_icmp .ge 54, 3) := by decide +kernel
theorem dX6_look_15 : decode cX6_look 15 = .ok (.aload_n 0, 1) := by decide +kernel
theorem dX6_look_16 : decode cX6_look 16 = .ok (.getfield 22, 3) := by decide +kernel
theorem dX6_look_19 : decode cX6_look 19 = .ok (.iload_n 3, 1) := by decide +kernel
theorem dX6_look_20 : decode cX6_look 20 = .ok (.iaload, 1) := by decide +kernel
theorem dX6_look_21 : decode cX6_look 21 = .ok (.iconst (-1), 1) := by decide +kernel
theorem dX6_look_22 : decode cX6_look 22 = .ok (.if_icmp .ne 38, 3) := by decide +kernel
theorem dX6_look_25 : decode cX6_look 25 = .ok (.aload_n 0, 1) := by decide +kernel
theorem dX6_look_26 : decode cX6_look 26 = .ok (.iload_n 3, 1) := by decide +kernel
theorem dX6_look_27 : decode cX6_look 27 = .ok (.invokevirtual 192, 3) := by decide +kernel
theorem dX6_look_30 : decode cX6_look 30 = .ok (.bipush 11, 2) := by decide +kernel
theorem dX6_look_32 : decode cX6_look 32 = .ok (.if_icmp .ne 28, 3) := by decide +kernel
theorem dX6_look_35 : decode cX6_look 35 = .ok (.aload_n 0, 1) := by decide +kernel
theorem dX6_look_36 : decode cX6_look 36 = .ok (.getfield 183, 3) := by decide +kernel
theorem dX6_look_39 : decode cX6_look 39 = .ok (.aload_n 0, 1) := by decide +kernel
theorem dX6_look_40 : decode cX6_look 40 = .ok (.getfield 180, 3) := by decide +kernel
theorem dX6_look_43 : decode cX6_look 43 = .ok (.isub, 1) := by decide +kernel
theorem dX6_look_44 : decode cX6_look 44 = .ok (.iload_n 2, 1) := by decide +kernel
theorem dX6_look_45 : decode cX6_look 45 = .ok (.if_icmp .ge 15, 3) := by decide +kernel
theorem dX6_look_48 : decode cX6_look 48 = .ok (.aload_n 0, 1) := by decide +kernel
theorem dX6_look_49 : decode cX6_look 49 = .ok (.getfield 183, 3) := by decide +kernel
theorem dX6_look_52 : decode cX6_look 52 = .ok (.aload_n 0, 1) := by decide +kernel
theorem dX6_look_53 : decode cX6_look 53 = .ok (.getfield 180, 3) := by decide +kernel
theorem dX6_look_56 : decode cX6_look 56 = .ok (.isub, 1) := by decide +kernel
theorem dX6_look_57 : decode cX6_look 57 = .ok (.istore_n 2, 1) := by decide +kernel
theorem dX6_look_58 : decode cX6_look 58 = .ok (.iload_n 3, 1) := by decide +kernel
theorem dX6_look_59 : decode cX6_look 59 = .ok (.istore_n 1, 1) := by decide +kernel
theorem dX6_look_60 : decode cX6_look 60 = .ok (.iinc 3 1, 3) := by decide +kernel
theorem dX6_look_63 : decode cX6_look 63 = .ok (.goto (-56), 3) := by decide +kernel
theorem dX6_look_66 : decode cX6_look 66 = .ok (.iload_n 1, 1) := by decide +kernel
theorem dX6_look_67 : decode cX6_look 67 = .ok (.ireturn, 1) := by decide +kernel
theorem dX6_isUnknown_0 : decode cX6_isUnknown 0 = .ok (.aload_n 0, 1) := by decide +kernel
theorem dX6_isUnknown_1 : decode cX6_isUnknown 1 = .ok (.getfield 22, 3) := by decide +kernel
theorem dX6_isUnknown_4 : decode cX6_isUnknown 4 = .ok (.iload_n 1, 1) := by decide +kernel
theorem dX6_isUnknown_5 : decode cX6_isUnknown 5 = .ok (.iaload, 1) := by decide +kernel
theorem dX6_isUnknown_6 : decode cX6_isUnknown 6 = .ok (.iconst (-1), 1) := by decide +kernel
theorem dX6_isUnknown_7 : decode cX6_isUnknown 7 = .ok (.if_icmp .ne 17, 3) := by decide +kernel
theorem dX6_isUnknown_10 : decode cX6_isUnknown 10 = .ok (.aload_n 0, 1) := by decide +kernel
theorem dX6_isUnknown_11 : decode cX6_isUnknown 11 = .ok (.iload_n 1, 1) := by decide +kernel
theorem dX6_isUnknown_12 : decode cX6_isUnknown 12 = .ok (.invokevirtual 192, 3) := by decide +kernel
theorem dX6_isUnknown_15 : decode cX6_isUnknown 15 = .ok (.bipush 10, 2) := by decide +kernel
theorem dX6_isUnknown_17 : decode cX6_isUnknown 17 = .ok (.if_icmp .ne 7, 3) := by decide +kernel
theorem dX6_isUnknown_20 : decode cX6_isUnknown 20 = .ok (.iconst 1, 1) := by decide +kernel
theorem dX6_isUnknown_21 : decode cX6_isUnknown 21 = .ok (.goto 4, 3) := by decide +kernel
theorem dX6_isUnknown_24 : decode cX6_isUnknown 24 = .ok (.iconst 0, 1) := by decide +kernel
theorem dX6_isUnknown_25 : decode cX6_isUnknown 25 = .ok (.ireturn, 1) := by decide +kernel
theorem dX6_isNear_0 : decode cX6_isNear 0 = .ok (.aload_n 0, 1) := by decide +kernel
theorem dX6_isNear_1 : decode cX6_isNear 1 = .ok (.iload_n 1, 1) := by decide +kernel
theorem dX6_isNear_2 : decode cX6_isNear 2 = .ok (.invokevirtual 158, 3) := by decide +kernel
theorem dX6_isNear_5 : decode cX6_isNear 5 = .ok (.aload_n 0, 1) := by decide +kernel
theorem dX6_isNear_6 : decode cX6_isNear 6 = .ok (.iconst 0, 1) := by decide +kernel
theorem dX6_isNear_7 : decode cX6_isNear 7 = .ok (.putfield 139, 3) := by decide +kernel
theorem dX6_isNear_10 : decode cX6_isNear 10 = .ok (.iconst 1, 1) := by decide +kernel
theorem dX6_isNear_11 : decode cX6_isNear 11 = .ok (.istore_n 3, 1) := by decide +kernel
theorem dX6_isNear_12 : decode cX6_isNear 12 = .ok (.iload_n 3, 1) := by decide +kernel
theorem dX6_isNear_13 : decode cX6_isNear 13 = .ok (.bipush 100, 2) := by decide +kernel
theorem dX6_isNear_15 : decode cX6_isNear 15 = .ok (.if_icmp .ge 84, 3) := by decide +kernel
theorem dX6_isNear_18 : decode cX6_isNear 18 = .ok (.aload_n 0, 1) := by decide +kernel
theorem dX6_isNear_19 : decode cX6_isNear 19 = .ok (.iload_n 2, 1) := by decide +kernel
theorem dX6_isNear_20 : decode cX6_isNear 20 = .ok (.iload_n 3, 1) := by decide +kernel
theorem dX6_isNear_21 : decode cX6_isNear 21 = .ok (.invokevirtual 121, 3) := by decide +kernel
theorem dX6_isNear_24 : decode cX6_isNear 24 = .ok (.istore 4, 2) := by decide +kernel
theorem dX6_isNear_26 : decode cX6_isNear 26 = .ok (.iload 4, 2) := by decide +kernel
theorem dX6_isNear_28 : decode cX6_isNear 28 = .ok (.ifCond .lt 65, 3) := by decide +kernel
theorem dX6_isNear_31 : decode cX6_isNear 31 = .ok (.aload_n 0, 1) := by decide +kernel
theorem dX6_isNear_32 : decode cX6_isNear 32 = .ok (.getfield 66, 3) := by decide +kernel
theorem dX6_isNear_35 : decode cX6_isNear 35 = .ok (.aload_n 0, 1) := by decide +kernel
theorem dX6_isNear_36 : decode cX6_isNear 36 = .ok (.getfield 139, 3) := by decide +kernel
theorem dX6_isNear_39 : decode cX6_isNear 39 = .ok (.aload_n 0, 1) := by decide +kernel
theorem dX6_isNear_40 : decode cX6_isNear 40 = .ok (.getfield 13, 3) := by decide +kernel
theorem dX6_isNear_43 : decode cX6_isNear 43 = .ok (.iload 4, 2) := by decide +kernel
theorem dX6_isNear_45 : decode cX6_isNear 45 = .ok (.iaload, 1) := by decide +kernel
theorem dX6_isNear_46 : decode cX6_isNear 46 = .ok (.iastore, 1) := by decide +kernel
theorem dX6_isNear_47 : decode cX6_isNear 47 = .ok (.aload_n 0, 1) := by decide +kernel
theorem dX6_isNear_48 : decode cX6_isNear 48 = .ok (.getfield 69, 3) := by decide +kernel
theorem dX6_isNear_51 : decode cX6_isNear 51 = .ok (.aload_n 0, 1) := by decide +kernel
theorem dX6_isNear_52 : decode cX6_isNear 52 = .ok (.getfield 139, 3) := by decide +kernel
theorem dX6_isNear_55 : decode cX6_isNear 55 = .ok (.aload_n 0, 1) := by decide +kernel
theorem dX6_isNear_56 : decode cX6_isNear 56 = .ok (.getfield 16, 3) := by decide +kernel
theorem dX6_isNear_59 : decode cX6_isNear 59 = .ok (.iload 4, 2) := by decide +kernel
theorem dX6_isNear_61 : decode cX6_isNear 61 = .ok (.iaload, 1) := by decide +kernel
theorem dX6_isNear_62 : decode cX6_isNear 62 = .ok (.iastore, 1) := by decide +kernel
theorem dX6_isNear_63 : decode cX6_isNear 63 = .ok (.aload_n 0, 1) := by decide +kernel
theorem dX6_isNear_64 : decode cX6_isNear 64 = .ok (.getfield 72, 3) := by decide +kernel
theorem dX6_isNear_67 : decode cX6_isNear 67 = .ok (.aload_n 0, 1) := by decide +kernel
theorem dX6_isNear_68 : decode cX6_isNear 68 = .ok (.getfield 139, 3) := by decide +kernel
theorem dX6_isNear_71 : decode cX6_isNear 71 = .ok (.iload_n 3, 1) := by decide +kernel
theorem dX6_isNear_72 : decode cX6_isNear 72 = .ok (.iastore, 1) := by decide +kernel
theorem dX6_isNear_73 : decode cX6_isNear 73 = .ok (.aload_n 0, 1) := by decide +kernel
theorem dX6_isNear_74 : decode cX6_isNear 74 = .ok (.getfield 75, 3) := by decide +kernel
theorem dX6_isNear_77 : decode cX6_isNear 77 = .ok (.aload_n 0, 1) := by decide +kernel
theorem dX6_isNear_78 : decode cX6_isNear 78 = .ok (.getfield 139, 3) := by decide +kernel
theorem dX6_isNear_81 : decode cX6_isNear 81 = .ok (.iconst 1, 1) := by decide +kernel
theorem dX6_isNear_82 : decode cX6_isNear 82 = .ok (.bastore, 1) := by decide +kernel
theorem dX6_isNear_83 : decode cX6_isNear 83 = .ok (.aload_n 0, 1) := by decide +kernel
theorem dX6_isNear_84 : decode cX6_isNear 84 = .ok (.dup, 1) := by decide +kernel
theorem dX6_isNear_85 : decode cX6_isNear 85 = .ok (.getfield 139, 3) := by decide +kernel
theorem dX6_isNear_88 : decode cX6_isNear 88 = .ok (.iconst 1, 1) := by decide +kernel
theorem dX6_isNear_89 : decode cX6_isNear 89 = .ok (.iadd, 1) := by decide +kernel
theorem dX6_isNear_90 : decode cX6_isNear 90 = .ok (.putfield 139, 3) := by decide +kernel
theorem dX6_isNear_93 : decode cX6_isNear 93 = .ok (.iinc 3 1, 3) := by decide +kernel
theorem dX6_isNear_96 : decode cX6_isNear 96 = .ok (.goto (-84), 3) := by decide +kernel
theorem dX6_isNear_99 : decode cX6_isNear 99 = .ok (.aload_n 0, 1) := by decide +kernel
theorem dX6_isNear_100 : decode cX6_isNear 100 = .ok (.invokevirtual 165, 3) := by decide +kernel
theorem dX6_isNear_103 : decode cX6_isNear 103 = .ok (.aload_n 0, 1) := by decide +kernel
theorem dX6_isNear_104 : decode cX6_isNear 104 = .ok (.getfield 146, 3) := by decide +kernel
theorem dX6_isNear_107 : decode cX6_isNear 107 = .ok (.aload_n 0, 1) := by decide +kernel
theorem dX6_isNear_108 : decode cX6_isNear 108 = .ok (.getfield 35, 3) := by decide +kernel
theorem dX6_isNear_111 : decode cX6_isNear 111 = .ok (.if_icmp .gt 7, 3) := by decide +kernel
theorem dX6_isNear_114 : decode cX6_isNear 114 = .ok (.iconst 1, 1) := by decide +kernel
theorem dX6_isNear_115 : decode cX6_isNear 115 = .ok (.goto 4, 3) := by decide +kernel
theorem dX6_isNear_118 : decode cX6_isNear 118 = .ok (.iconst 0, 1) := by decide +kernel
theorem dX6_isNear_119 : decode cX6_isNear 119 = .ok (.ireturn, 1) := by decide +kernel
theorem dX6_gathers_0 : decode cX6_gathers 0 = .ok (.iconst 0, 1) := by decide +kernel
theorem dX6_gathers_1 : decode cX6_gathers 1 = .ok (.istore_n 1, 1) := by decide +kernel
theorem dX6_gathers_2 : decode cX6_gathers 2 = .ok (.iload_n 1, 1) := by decide +kernel
theorem dX6_gathers_3 : decode cX6_gathers 3 = .ok (.aload_n 0, 1) := by decide +kernel
theorem dX6_gathers_4 : decode cX6_gathers 4 = .ok (.getfield 99, 3) := by decide +kernel
theorem dX6_gathers_7 : decode cX6_gathers 7 = .ok (.if_icmp .ge 28, 3) := by decide +kernel
theorem dX6_gathers_10 : decode cX6_gathers 10 = .ok (.aload_n 0, 1) := by decide +kernel
theorem dX6_gathers_11 : decode cX6_gathers 11 = .ok (.getfield 93, 3) := by decide +kernel
theorem dX6_gathers_14 : decode cX6_gathers 14 = .ok (.iload_n 1, 1) := by decide +kernel
theorem dX6_gathers_15 : decode cX6_gathers 15 = .ok (.aload_n 0, 1) := by decide +kernel
theorem dX6_gathers_16 : decode cX6_gathers 16 = .ok (.iload_n 1, 1) := by decide +kernel
theorem dX6_gathers_17 : decode cX6_gathers 17 = .ok (.invokevirtual 195, 3) := by decide +kernel
theorem dX6_gathers_20 : decode cX6_gathers 20 = .ok (.ifCond .eq 7, 3) := by decide +kernel
theorem dX6_gathers_23 : decode cX6_gathers 23 = .ok (.iload_n 1, 1) := by decide +kernel
theorem dX6_gathers_24 : decode cX6_gathers 24 = .ok (.goto 4, 3) := by decide +kernel
theorem dX6_gathers_27 : decode cX6_gathers 27 = .ok (.iconst (-1), 1) := by decide +kernel
theorem dX6_gathers_28 : decode cX6_gathers 28 = .ok (.iastore, 1) := by decide +kernel
theorem dX6_gathers_29 : decode cX6_gathers 29 = .ok (.iinc 1 1, 3) := by decide +kernel
theorem dX6_gathers_32 : decode cX6_gathers 32 = .ok (.goto (-30), 3) := by decide +kernel
theorem dX6_gathers_35 : decode cX6_gathers 35 = .ok (.iconst 0, 1) := by decide +kernel
theorem dX6_gathers_36 : decode cX6_gathers 36 = .ok (.istore_n 1, 1) := by decide +kernel
theorem dX6_gathers_37 : decode cX6_gathers 37 = .ok (.iload_n 1, 1) := by decide +kernel
theorem dX6_gathers_38 : decode cX6_gathers 38 = .ok (.aload_n 0, 1) := by decide +kernel
theorem dX6_gathers_39 : decode cX6_gathers 39 = .ok (.getfield 99, 3) := by decide +kernel
theorem dX6_gathers_42 : decode cX6_gathers 42 = .ok (.if_icmp .ge 80, 3) := by decide +kernel
theorem dX6_gathers_45 : decode cX6_gathers 45 = .ok (.iconst 0, 1) := by decide +kernel
theorem dX6_gathers_46 : decode cX6_gathers 46 = .ok (.istore_n 2, 1) := by decide +kernel
theorem dX6_gathers_47 : decode cX6_gathers 47 = .ok (.iload_n 2, 1) := by decide +kernel
theorem dX6_gathers_48 : decode cX6_gathers 48 = .ok (.iload_n 1, 1) := by decide +kernel
theorem dX6_gathers_49 : decode cX6_gathers 49 = .ok (.if_icmp .ge 67, 3) := by decide +kernel
theorem dX6_gathers_52 : decode cX6_gathers 52 = .ok (.aload_n 0, 1) := by decide +kernel
theorem dX6_gathers_53 : decode cX6_gathers 53 = .ok (.getfield 93, 3) := by decide +kernel
theorem dX6_gathers_56 : decode cX6_gathers 56 = .ok (.iload_n 2, 1) := by decide +kernel
theorem dX6_gathers_57 : decode cX6_gathers 57 = .ok (.iaload, 1) := by decide +kernel
theorem dX6_gathers_58 : decode cX6_gathers 58 = .ok (.ifCond .lt 52, 3) := by decide +kernel
theorem dX6_gathers_61 : decode cX6_gathers 61 = .ok (.aload_n 0, 1) := by decide +kernel
theorem dX6_gathers_62 : decode cX6_gathers 62 = .ok (.getfield 93, 3) := by decide +kernel
theorem dX6_gathers_65 : decode cX6_gathers 65 = .ok (.iload_n 1, 1) := by decide +kernel
theorem dX6_gathers_66 : decode cX6_gathers 66 = .ok (.iaload, 1) := by decide +kernel
theorem dX6_gathers_67 : decode cX6_gathers 67 = .ok (.ifCond .lt 43, 3) := by decide +kernel
theorem dX6_gathers_70 : decode cX6_gathers 70 = .ok (.aload_n 0, 1) := by decide +kernel
theorem dX6_gathers_71 : decode cX6_gathers 71 = .ok (.getfield 93, 3) := by decide +kernel
theorem dX6_gathers_74 : decode cX6_gathers 74 = .ok (.iload_n 2, 1) := by decide +kernel
theorem dX6_gathers_75 : decode cX6_gathers 75 = .ok (.iaload, 1) := by decide +kernel
theorem dX6_gathers_76 : decode cX6_gathers 76 = .ok (.aload_n 0, 1) := by decide +kernel
theorem dX6_gathers_77 : decode cX6_gathers 77 = .ok (.getfield 93, 3) := by decide +kernel
theorem dX6_gathers_80 : decode cX6_gathers 80 = .ok (.iload_n 1, 1) := by decide +kernel
theorem dX6_gathers_81 : decode cX6_gathers 81 = .ok (.iaload, 1) := by decide +kernel
theorem dX6_gathers_82 : decode cX6_gathers 82 = .ok (.if_icmp .eq 28, 3) := by decide +kernel
theorem dX6_gathers_85 : decode cX6_gathers 85 = .ok (.aload_n 0, 1) := by decide +kernel
theorem dX6_gathers_86 : decode cX6_gathers 86 = .ok (.iload_n 2, 1) := by decide +kernel
theorem dX6_gathers_87 : decode cX6_gathers 87 = .ok (.iload_n 1, 1) := by decide +kernel
theorem dX6_gathers_88 : decode cX6_gathers 88 = .ok (.invokevirtual 198, 3) := by decide +kernel
theorem dX6_gathers_91 : decode cX6_gathers 91 = .ok (.ifCond .eq 19, 3) := by decide +kernel
theorem dX6_gathers_94 : decode cX6_gathers 94 = .ok (.aload_n 0, 1) := by decide +kernel
theorem dX6_gathers_95 : decode cX6_gathers 95 = .ok (.aload_n 0, 1) := by decide +kernel
theorem dX6_gathers_96 : decode cX6_gathers 96 = .ok (.getfield 93, 3) := by decide +kernel
theorem dX6_gathers_99 : decode cX6_gathers 99 = .ok (.iload_n 2, 1) := by decide +kernel
theorem dX6_gathers_100 : decode cX6_gathers 100 = .ok (.iaload, 1) := by decide +kernel
theorem dX6_gathers_101 : decode cX6_gathers 101 = .ok (.aload_n 0, 1) := by decide +kernel
theorem dX6_gathers_102 : decode cX6_gathers 102 = .ok (.getfield 93, 3) := by decide +kernel
theorem dX6_gathers_105 : decode cX6_gathers 105 = .ok (.iload_n 1, 1) := by decide +kernel
theorem dX6_gathers_106 : decode cX6_gathers 106 = .ok (.iaload, 1) := by decide +kernel
theorem dX6_gathers_107 : decode cX6_gathers 107 = .ok (.invokevirtual 201, 3) := by decide +kernel
theorem dX6_gathers_110 : decode cX6_gathers 110 = .ok (.iinc 2 1, 3) := by decide +kernel
theorem dX6_gathers_113 : decode cX6_gathers 113 = .ok (.goto (-66), 3) := by decide +kernel
theorem dX6_gathers_116 : decode cX6_gathers 116 = .ok (.iinc 1 1, 3) := by decide +kernel
theorem dX6_gathers_119 : decode cX6_gathers 119 = .ok (.goto (-82), 3) := by decide +kernel
theorem dX6_gathers_122 : decode cX6_gathers 122 = .ok (.return_, 1) := by decide +kernel
theorem dX6_joins_0 : decode cX6_joins 0 = .ok (.iload_n 1, 1) := by decide +kernel
theorem dX6_joins_1 : decode cX6_joins 1 = .ok (.iload_n 2, 1) := by decide +kernel
theorem dX6_joins_2 : decode cX6_joins 2 = .ok (.if_icmp .ge 7, 3) := by decide +kernel
theorem dX6_joins_5 : decode cX6_joins 5 = .ok (.iload_n 1, 1) := by decide +kernel
theorem dX6_joins_6 : decode cX6_joins 6 = .ok (.goto 4, 3) := by decide +kernel
theorem dX6_joins_9 : decode cX6_joins 9 = .ok (.iload_n 2, 1) := by decide +kernel
theorem dX6_joins_10 : decode cX6_joins 10 = .ok (.istore_n 3, 1) := by decide +kernel
theorem dX6_joins_11 : decode cX6_joins 11 = .ok (.iconst 0, 1) := by decide +kernel
theorem dX6_joins_12 : decode cX6_joins 12 = .ok (.istore 4, 2) := by decide +kernel
theorem dX6_joins_14 : decode cX6_joins 14 = .ok (.iload 4, 2) := by decide +kernel
theorem dX6_joins_16 : decode cX6_joins 16 = .ok (.aload_n 0, 1) := by decide +kernel
theorem dX6_joins_17 : decode cX6_joins 17 = .ok (.getfield 99, 3) := by decide +kernel
theorem dX6_joins_20 : decode cX6_joins 20 = .ok (.if_icmp .ge 49, 3) := by decide +kernel
theorem dX6_joins_23 : decode cX6_joins 23 = .ok (.aload_n 0, 1) := by decide +kernel
theorem dX6_joins_24 : decode cX6_joins 24 = .ok (.getfield 93, 3) := by decide +kernel
theorem dX6_joins_27 : decode cX6_joins 27 = .ok (.iload 4, 2) := by decide +kernel
theorem dX6_joins_29 : decode cX6_joins 29 = .ok (.aload_n 0, 1) := by decide +kernel
theorem dX6_joins_30 : decode cX6_joins 30 = .ok (.getfield 93, 3) := by decide +kernel
theorem dX6_joins_33 : decode cX6_joins 33 = .ok (.iload 4, 2) := by decide +kernel
theorem dX6_joins_35 : decode cX6_joins 35 = .ok (.iaload, 1) := by decide +kernel
theorem dX6_joins_36 : decode cX6_joins 36 = .ok (.iload_n 1, 1) := by decide +kernel
theorem dX6_joins_37 : decode cX6_joins 37 = .ok (.if_icmp .eq 14, 3) := by decide +kernel
theorem dX6_joins_40 : decode cX6_joins 40 = .ok (.aload_n 0, 1) := by decide +kernel
theorem dX6_joins_41 : decode cX6_joins 41 = .ok (.getfield 93, 3) := by decide +kernel
theorem dX6_joins_44 : decode cX6_joins 44 = .ok (.iload 4, 2) := by decide +kernel
theorem dX6_joins_46 : decode cX6_joins 46 = .ok (.iaload, 1) := by decide +kernel
theorem dX6_joins_47 : decode cX6_joins 47 = .ok (.iload_n 2, 1) := by decide +kernel
theorem dX6_joins_48 : decode cX6_joins 48 = .ok (.if_icmp .ne 7, 3) := by decide +kernel
theorem dX6_joins_51 : decode cX6_joins 51 = .ok (.iload_n 3, 1) := by decide +kernel
theorem dX6_joins_52 : decode cX6_joins 52 = .ok (.goto 10, 3) := by decide +kernel
theorem dX6_joins_55 : decode cX6_joins 55 = .ok (.aload_n 0, 1) := by decide +kernel
theorem dX6_joins_56 : decode cX6_joins 56 = .ok (.getfield 93, 3) := by decide +kernel
theorem dX6_joins_59 : decode cX6_joins 59 = .ok (.iload 4, 2) := by decide +kernel
theorem dX6_joins_61 : decode cX6_joins 61 = .ok (.iaload, 1) := by decide +kernel
theorem dX6_joins_62 : decode cX6_joins 62 = .ok (.iastore, 1) := by decide +kernel
theorem dX6_joins_63 : decode cX6_joins 63 = .ok (.iinc 4 1, 3) := by decide +kernel
theorem dX6_joins_66 : decode cX6_joins 66 = .ok (.goto (-52), 3) := by decide +kernel
theorem dX6_joins_69 : decode cX6_joins 69 = .ok (.return_, 1) := by decide +kernel
theorem dX6_heaps_0 : decode cX6_heaps 0 = .ok (.aload_n 0, 1) := by decide +kernel
theorem dX6_heaps_1 : decode cX6_heaps 1 = .ok (.invokevirtual 204, 3) := by decide +kernel
theorem dX6_heaps_4 : decode cX6_heaps 4 = .ok (.iconst 0, 1) := by decide +kernel
theorem dX6_heaps_5 : decode cX6_heaps 5 = .ok (.istore_n 1, 1) := by decide +kernel
theorem dX6_heaps_6 : decode cX6_heaps 6 = .ok (.iconst 0, 1) := by decide +kernel
theorem dX6_heaps_7 : decode cX6_heaps 7 = .ok (.istore_n 2, 1) := by decide +kernel
theorem dX6_heaps_8 : decode cX6_heaps 8 = .ok (.iload_n 2, 1) := by decide +kernel
theorem dX6_heaps_9 : decode cX6_heaps 9 = .ok (.aload_n 0, 1) := by decide +kernel
theorem dX6_heaps_10 : decode cX6_heaps 10 = .ok (.getfield 99, 3) := by decide +kernel
theorem dX6_heaps_13 : decode cX6_heaps 13 = .ok (.if_icmp .ge 27, 3) := by decide +kernel
theorem dX6_heaps_16 : decode cX6_heaps 16 = .ok (.iload_n 1, 1) := by decide +kernel
theorem dX6_heaps_17 : decode cX6_heaps 17 = .ok (.aload_n 0, 1) := by decide +kernel
theorem dX6_heaps_18 : decode cX6_heaps 18 = .ok (.getfield 93, 3) := by decide +kernel
theorem dX6_heaps_21 : decode cX6_heaps 21 = .ok (.iload_n 2, 1) := by decide +kernel
theorem dX6_heaps_22 : decode cX6_heaps 22 = .ok (.iaload, 1) := by decide +kernel
theorem dX6_heaps_23 : decode cX6_heaps 23 = .ok (.iload_n 2, 1) := by decide +kernel
theorem dX6_heaps_24 : decode cX6_heaps 24 = .ok (.if_icmp .ne 7, 3) := by decide +kernel
theorem dX6_heaps_27 : decode cX6_heaps 27 = .ok (.iconst 1, 1) := by decide +kernel
theorem dX6_heaps_28 : decode cX6_heaps 28 = .ok (.goto 4, 3) := by decide +kernel
theorem dX6_heaps_31 : decode cX6_heaps 31 = .ok (.iconst 0, 1) := by decide +kernel
theorem dX6_heaps_32 : decode cX6_heaps 32 = .ok (.iadd, 1) := by decide +kernel
theorem dX6_heaps_33 : decode cX6_heaps 33 = .ok (.istore_n 1, 1) := by decide +kernel
theorem dX6_heaps_34 : decode cX6_heaps 34 = .ok (.iinc 2 1, 3) := by decide +kernel
theorem dX6_heaps_37 : decode cX6_heaps 37 = .ok (.goto (-29), 3) := by decide +kernel
theorem dX6_heaps_40 : decode cX6_heaps 40 = .ok (.iload_n 1, 1) := by decide +kernel
theorem dX6_heaps_41 : decode cX6_heaps 41 = .ok (.ireturn, 1) := by decide +kernel
theorem dX6_heap_0 : decode cX6_heap 0 = .ok (.aload_n 0, 1) := by decide +kernel
theorem dX6_heap_1 : decode cX6_heap 1 = .ok (.iload_n 1, 1) := by decide +kernel
theorem dX6_heap_2 : decode cX6_heap 2 = .ok (.invokevirtual 113, 3) := by decide +kernel
theorem dX6_heap_5 : decode cX6_heap 5 = .ok (.ifCond .ne 5, 3) := by decide +kernel
theorem dX6_heap_8 : decode cX6_heap 8 = .ok (.iconst (-1), 1) := by decide +kernel
theorem dX6_heap_9 : decode cX6_heap 9 = .ok (.ireturn, 1) := by decide +kernel
theorem dX6_heap_10 : decode cX6_heap 10 = .ok (.aload_n 0, 1) := by decide +kernel
theorem dX6_heap_11 : decode cX6_heap 11 = .ok (.invokevirtual 204, 3) := by decide +kernel
theorem dX6_heap_14 : decode cX6_heap 14 = .ok (.aload_n 0, 1) := by decide +kernel
theorem dX6_heap_15 : decode cX6_heap 15 = .ok (.getfield 93, 3) := by decide +kernel
theorem dX6_heap_18 : decode cX6_heap 18 = .ok (.iload_n 1, 1) := by decide +kernel
theorem dX6_heap_19 : decode cX6_heap 19 = .ok (.iaload, 1) := by decide +kernel
theorem dX6_heap_20 : decode cX6_heap 20 = .ok (.ireturn, 1) := by decide +kernel
theorem dX6_spotWith_0 : decode cX6_spotWith 0 = .ok (.iconst (-1), 1) := by decide +kernel
theorem dX6_spotWith_1 : decode cX6_spotWith 1 = .ok (.istore_n 3, 1) := by decide +kernel
theorem dX6_spotWith_2 : decode cX6_spotWith 2 = .ok (.bipush 16, 2) := by decide +kernel
theorem dX6_spotWith_4 : decode cX6_spotWith 4 = .ok (.iload_n 1, 1) := by decide +kernel
theorem dX6_spotWith_5 : decode cX6_spotWith 5 = .ok (.imul, 1) := by decide +kernel
theorem dX6_spotWith_6 : decode cX6_spotWith 6 = .ok (.istore 4, 2) := by decide +kernel
theorem dX6_spotWith_8 : decode cX6_spotWith 8 = .ok (.iload 4, 2) := by decide +kernel
theorem dX6_spotWith_10 : decode cX6_spotWith 10 = .ok (.bipush 16, 2) := by decide +kernel
theorem dX6_spotWith_12 : decode cX6_spotWith 12 = .ok (.iload_n 1, 1) := by decide +kernel
theorem dX6_spotWith_13 : decode cX6_spotWith 13 = .ok (.imul, 1) := by decide +kernel
theorem dX6_spotWith_14 : decode cX6_spotWith 14 = .ok (.aload_n 0, 1) := by decide +kernel
theorem dX6_spotWith_15 : decode cX6_spotWith 15 = .ok (.getfield 41, 3) := by decide +kernel
theorem dX6_spotWith_18 : decode cX6_spotWith 18 = .ok (.iload_n 1, 1) := by decide +kernel
theorem dX6_spotWith_19 : decode cX6_spotWith 19 = .ok (.iaload, 1) := by decide +kernel
theorem dX6_spotWith_20 : decode cX6_spotWith 20 = .ok (.iadd, 1) := by decide +kernel
theorem dX6_spotWith_21 : decode cX6_spotWith 21 = .ok (.if_icmp .ge 27, 3) := by decide +kernel
theorem dX6_spotWith_24 : decode cX6_spotWith 24 = .ok (.aload_n 0, 1) := by decide +kernel
theorem dX6_spotWith_25 : decode cX6_spotWith 25 = .ok (.getfield 44, 3) := by decide +kernel
theorem dX6_spotWith_28 : decode cX6_spotWith 28 = .ok (.iload 4, 2) := by decide +kernel
theorem dX6_spotWith_30 : decode cX6_spotWith 30 = .ok (.iaload, 1) := by decide +kernel
theorem dX6_spotWith_31 : decode cX6_spotWith 31 = .ok (.iload_n 2, 1) := by decide +kernel
theorem dX6_spotWith_32 : decode cX6_spotWith 32 = .ok (.if_icmp .ne 8, 3) := by decide +kernel
theorem dX6_spotWith_35 : decode cX6_spotWith 35 = .ok (.iload 4, 2) := by decide +kernel
theorem dX6_spotWith_37 : decode cX6_spotWith 37 = .ok (.goto 4, 3) := by decide +kernel
theorem dX6_spotWith_40 : decode cX6_spotWith 40 = .ok (.iload_n 3, 1) := by decide +kernel
theorem dX6_spotWith_41 : decode cX6_spotWith 41 = .ok (.istore_n 3, 1) := by decide +kernel
theorem dX6_spotWith_42 : decode cX6_spotWith 42 = .ok (.iinc 4 1, 3) := by decide +kernel
theorem dX6_spotWith_45 : decode cX6_spotWith 45 = .ok (.goto (-37), 3) := by decide +kernel
theorem dX6_spotWith_48 : decode cX6_spotWith 48 = .ok (.iload_n 3, 1) := by decide +kernel
theorem dX6_spotWith_49 : decode cX6_spotWith 49 = .ok (.ireturn, 1) := by decide +kernel
theorem dX6_toldBy_0 : decode cX6_toldBy 0 = .ok (.iconst (-1), 1) := by decide +kernel
theorem dX6_toldBy_1 : decode cX6_toldBy 1 = .ok (.istore_n 3, 1) := by decide +kernel
theorem dX6_toldBy_2 : decode cX6_toldBy 2 = .ok (.iconst 1, 1) := by decide +kernel
theorem dX6_toldBy_3 : decode cX6_toldBy 3 = .ok (.istore 4, 2) := by decide +kernel
theorem dX6_toldBy_5 : decode cX6_toldBy 5 = .ok (.iload 4, 2) := by decide +kernel
theorem dX6_toldBy_7 : decode cX6_toldBy 7 = .ok (.bipush 100, 2) := by decide +kernel
theorem dX6_toldBy_9 : decode cX6_toldBy 9 = .ok (.if_icmp .ge 99, 3) := by decide +kernel
theorem dX6_toldBy_12 : decode cX6_toldBy 12 = .ok (.aload_n 0, 1) := by decide +kernel
theorem dX6_toldBy_13 : decode cX6_toldBy 13 = .ok (.iload_n 1, 1) := by decide +kernel
theorem dX6_toldBy_14 : decode cX6_toldBy 14 = .ok (.iload 4, 2) := by decide +kernel
theorem dX6_toldBy_16 : decode cX6_toldBy 16 = .ok (.invokevirtual 207, 3) := by decide +kernel
theorem dX6_toldBy_19 : decode cX6_toldBy 19 = .ok (.istore 5, 2) := by decide +kernel
theorem dX6_toldBy_21 : decode cX6_toldBy 21 = .ok (.aload_n 0, 1) := by decide +kernel
theorem dX6_toldBy_22 : decode cX6_toldBy 22 = .ok (.iload_n 2, 1) := by decide +kernel
theorem dX6_toldBy_23 : decode cX6_toldBy 23 = .ok (.iload 4, 2) := by decide +kernel
theorem dX6_toldBy_25 : decode cX6_toldBy 25 = .ok (.invokevirtual 207, 3) := by decide +kernel
theorem dX6_toldBy_28 : decode cX6_toldBy 28 = .ok (.istore 6, 2) := by decide +kernel
theorem dX6_toldBy_30 : decode cX6_toldBy 30 = .ok (.iload 5, 2) := by decide +kernel
theorem dX6_toldBy_32 : decode cX6_toldBy 32 = .ok (.ifCond .lt 7, 3) := by decide +kernel
theorem dX6_toldBy_35 : decode cX6_toldBy 35 = .ok (.iconst 1, 1) := by decide +kernel
theorem dX6_toldBy_36 : decode cX6_toldBy 36 = .ok (.goto 4, 3) := by decide +kernel
theorem dX6_toldBy_39 : decode cX6_toldBy 39 = .ok (.iconst 0, 1) := by decide +kernel
theorem dX6_toldBy_40 : decode cX6_toldBy 40 = .ok (.iload 6, 2) := by decide +kernel
theorem dX6_toldBy_42 : decode cX6_toldBy 42 = .ok (.ifCond .lt 7, 3) := by decide +kernel
theorem dX6_toldBy_45 : decode cX6_toldBy 45 = .ok (.iconst 1, 1) := by decide +kernel
theorem dX6_toldBy_46 : decode cX6_toldBy 46 = .ok (.goto 4, 3) := by decide +kernel
theorem dX6_toldBy_49 : decode cX6_toldBy 49 = .ok (.iconst 0, 1) := by decide +kernel
theorem dX6_toldBy_50 : decode cX6_toldBy 50 = .ok (.if_icmp .eq 6, 3) := by decide +kernel
theorem dX6_toldBy_53 : decode cX6_toldBy 53 = .ok (.iload 4, 2) := by decide +kernel
theorem dX6_toldBy_55 : decode cX6_toldBy 55 = .ok (.ireturn, 1) := by decide +kernel
theorem dX6_toldBy_56 : decode cX6_toldBy 56 = .ok (.iload_n 3, 1) := by decide +kernel
theorem dX6_toldBy_57 : decode cX6_toldBy 57 = .ok (.ifCond .ge 45, 3) := by decide +kernel
theorem dX6_toldBy_60 : decode cX6_toldBy 60 = .ok (.iload 5, 2) := by decide +kernel
theorem dX6_toldBy_62 : decode cX6_toldBy 62 = .ok (.ifCond .lt 40, 3) := by decide +kernel
theorem dX6_toldBy_65 : decode cX6_toldBy 65 = .ok (.aload_n 0, 1) := by decide +kernel
theorem dX6_toldBy_66 : decode cX6_toldBy 66 = .ok (.getfield 47, 3) := by decide +kernel
theorem dX6_toldBy_69 : decode cX6_toldBy 69 = .ok (.iload 5, 2) := by decide +kernel
theorem dX6_toldBy_71 : decode cX6_toldBy 71 = .ok (.iaload, 1) := by decide +kernel
theorem dX6_toldBy_72 : decode cX6_toldBy 72 = .ok (.aload_n 0, 1) := by decide +kernel
theorem dX6_toldBy_73 : decode cX6_toldBy 73 = .ok (.getfield 47, 3) := by decide +kernel
theorem dX6_toldBy_76 : decode cX6_toldBy 76 = .ok (.iload 6, 2) := by decide +kernel
theorem dX6_toldBy_78 : decode cX6_toldBy 78 = .ok (.iaload, 1) := by decide +kernel
theorem dX6_toldBy_79 : decode cX6_toldBy 79 = .ok (.if_icmp .ne 20, 3) := by decide +kernel
theorem dX6_toldBy_82 : decode cX6_toldBy 82 = .ok (.aload_n 0, 1) := by decide +kernel
theorem dX6_toldBy_83 : decode cX6_toldBy 83 = .ok (.getfield 50, 3) := by decide +kernel
theorem dX6_toldBy_86 : decode cX6_toldBy 86 = .ok (.iload 5, 2) := by decide +kernel
theorem dX6_toldBy_88 : decode cX6_toldBy 88 = .ok (.iaload, 1) := by decide +kernel
theorem dX6_toldBy_89 : decode cX6_toldBy 89 = .ok (.aload_n 0, 1) := by decide +kernel
theorem dX6_toldBy_90 : decode cX6_toldBy 90 = .ok (.getfield 50, 3) := by decide +kernel
theorem dX6_toldBy_93 : decode cX6_toldBy 93 = .ok (.iload 6, 2) := by decide +kernel
theorem dX6_toldBy_95 : decode cX6_toldBy 95 = .ok (.iaload, 1) := by decide +kernel
theorem dX6_toldBy_96 : decode cX6_toldBy 96 = .ok (.if_icmp .eq 6, 3) := by decide +kernel
theorem dX6_toldBy_99 : decode cX6_toldBy 99 = .ok (.iload 4, 2) := by decide +kernel
theorem dX6_toldBy_101 : decode cX6_toldBy 101 = .ok (.istore_n 3, 1) := by decide +kernel
theorem dX6_toldBy_102 : decode cX6_toldBy 102 = .ok (.iinc 4 1, 3) := by decide +kernel
theorem dX6_toldBy_105 : decode cX6_toldBy 105 = .ok (.goto (-100), 3) := by decide +kernel
theorem dX6_toldBy_108 : decode cX6_toldBy 108 = .ok (.iload_n 3, 1) := by decide +kernel
theorem dX6_toldBy_109 : decode cX6_toldBy 109 = .ok (.ireturn, 1) := by decide +kernel
theorem dX6_about_0 : decode cX6_about 0 = .ok (.iload_n 1, 1) := by decide +kernel
theorem dX6_about_1 : decode cX6_about 1 = .ok (.bipush 20, 2) := by decide +kernel
theorem dX6_about_3 : decode cX6_about 3 = .ok (.bipush 19, 2) := by decide +kernel
theorem dX6_about_5 : decode cX6_about 5 = .ok (.aload_n 0, 1) := by decide +kernel
theorem dX6_about_6 : decode cX6_about 6 = .ok (.getfield 99, 3) := by decide +kernel
theorem dX6_about_9 : decode cX6_about 9 = .ok (.iadd, 1) := by decide +kernel
theorem dX6_about_10 : decode cX6_about 10 = .ok (.invokestatic 102, 3) := by decide +kernel
theorem dX6_about_13 : decode cX6_about 13 = .ok (.ifCond .eq 13, 3) := by decide +kernel
theorem dX6_about_16 : decode cX6_about 16 = .ok (.aload_n 0, 1) := by decide +kernel
theorem dX6_about_17 : decode cX6_about 17 = .ok (.getfield 7, 3) := by decide +kernel
theorem dX6_about_20 : decode cX6_about 20 = .ok (.iload_n 1, 1) := by decide +kernel
theorem dX6_about_21 : decode cX6_about 21 = .ok (.bipush 20, 2) := by decide +kernel
theorem dX6_about_23 : decode cX6_about 23 = .ok (.isub, 1) := by decide +kernel
theorem dX6_about_24 : decode cX6_about 24 = .ok (.iaload, 1) := by decide +kernel
theorem dX6_about_25 : decode cX6_about 25 = .ok (.ireturn, 1) := by decide +kernel
theorem dX6_about_26 : decode cX6_about 26 = .ok (.iload_n 1, 1) := by decide +kernel
theorem dX6_about_27 : decode cX6_about 27 = .ok (.tableswitch 69 0 8 #[49, 69, 69, 69, 69, 69, 54, 59, 64], 49) := by decide +kernel
theorem dX6_about_76 : decode cX6_about 76 = .ok (.aload_n 0, 1) := by decide +kernel
theorem dX6_about_77 : decode cX6_about 77 = .ok (.getfield 99, 3) := by decide +kernel
theorem dX6_about_80 : decode cX6_about 80 = .ok (.ireturn, 1) := by decide +kernel
theorem dX6_about_81 : decode cX6_about 81 = .ok (.aload_n 0, 1) := by decide +kernel
theorem dX6_about_82 : decode cX6_about 82 = .ok (.getfield 28, 3) := by decide +kernel
theorem dX6_about_85 : decode cX6_about 85 = .ok (.ireturn, 1) := by decide +kernel
theorem dX6_about_86 : decode cX6_about 86 = .ok (.aload_n 0, 1) := by decide +kernel
theorem dX6_about_87 : decode cX6_about 87 = .ok (.getfield 32, 3) := by decide +kernel
theorem dX6_about_90 : decode cX6_about 90 = .ok (.ireturn, 1) := by decide +kernel
theorem dX6_about_91 : decode cX6_about 91 = .ok (.aload_n 0, 1) := by decide +kernel
theorem dX6_about_92 : decode cX6_about 92 = .ok (.getfield 35, 3) := by decide +kernel
theorem dX6_about_95 : decode cX6_about 95 = .ok (.ireturn, 1) := by decide +kernel
theorem dX6_about_96 : decode cX6_about 96 = .ok (.iload_n 1, 1) := by decide +kernel
theorem dX6_about_97 : decode cX6_about 97 = .ok (.iconst 1, 1) := by decide +kernel
theorem dX6_about_98 : decode cX6_about 98 = .ok (.iconst 5, 1) := by decide +kernel
theorem dX6_about_99 : decode cX6_about 99 = .ok (.invokestatic 102, 3) := by decide +kernel
theorem dX6_about_102 : decode cX6_about 102 = .ok (.ifCond .eq 14, 3) := by decide +kernel
theorem dX6_about_105 : decode cX6_about 105 = .ok (.aload_n 0, 1) := by decide +kernel
theorem dX6_about_106 : decode cX6_about 106 = .ok (.getfield 25, 3) := by decide +kernel
theorem dX6_about_109 : decode cX6_about 109 = .ok (.iload_n 1, 1) := by decide +kernel
theorem dX6_about_110 : decode cX6_about 110 = .ok (.iconst 1, 1) := by decide +kernel
theorem dX6_about_111 : decode cX6_about 111 = .ok (.isub, 1) := by decide +kernel
theorem dX6_about_112 : decode cX6_about 112 = .ok (.iaload, 1) := by decide +kernel
theorem dX6_about_113 : decode cX6_about 113 = .ok (.goto 4, 3) := by decide +kernel
theorem dX6_about_116 : decode cX6_about 116 = .ok (.iconst (-1), 1) := by decide +kernel
theorem dX6_about_117 : decode cX6_about 117 = .ok (.ireturn, 1) := by decide +kernel
