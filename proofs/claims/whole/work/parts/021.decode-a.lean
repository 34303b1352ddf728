theorem dX0_init_0 : decode cX0_init 0 = .ok (.aload_n 0, 1) := by decide +kernel
theorem dX0_init_1 : decode cX0_init 1 = .ok (.invokespecial 3, 3) := by decide +kernel
theorem dX0_init_4 : decode cX0_init 4 = .ok (.aload_n 0, 1) := by decide +kernel
theorem dX0_init_5 : decode cX0_init 5 = .ok (.new 9, 3) := by decide +kernel
theorem dX0_init_8 : decode cX0_init 8 = .ok (.dup, 1) := by decide +kernel
theorem dX0_init_9 : decode cX0_init 9 = .ok (.bipush 16, 2) := by decide +kernel
theorem dX0_init_11 : decode cX0_init 11 = .ok (.invokespecial 11, 3) := by decide +kernel
theorem dX0_init_14 : decode cX0_init 14 = .ok (.putfield 14, 3) := by decide +kernel
theorem dX0_init_17 : decode cX0_init 17 = .ok (.aload_n 0, 1) := by decide +kernel
theorem dX0_init_18 : decode cX0_init 18 = .ok (.bipush 16, 2) := by decide +kernel
theorem dX0_init_20 : decode cX0_init 20 = .ok (.newarray .long, 2) := by decide +kernel
theorem dX0_init_22 : decode cX0_init 22 = .ok (.putfield 20, 3) := by decide +kernel
theorem dX0_init_25 : decode cX0_init 25 = .ok (.aload_n 0, 1) := by decide +kernel
theorem dX0_init_26 : decode cX0_init 26 = .ok (.iconst 0, 1) := by decide +kernel
theorem dX0_init_27 : decode cX0_init 27 = .ok (.putfield 24, 3) := by decide +kernel
theorem dX0_init_30 : decode cX0_init 30 = .ok (.return_, 1) := by decide +kernel
theorem dX0_clear_0 : decode cX0_clear 0 = .ok (.aload_n 0, 1) := by decide +kernel
theorem dX0_clear_1 : decode cX0_clear 1 = .ok (.getfield 14, 3) := by decide +kernel
theorem dX0_clear_4 : decode cX0_clear 4 = .ok (.iconst 0, 1) := by decide +kernel
theorem dX0_clear_5 : decode cX0_clear 5 = .ok (.putfield 28, 3) := by decide +kernel
theorem dX0_clear_8 : decode cX0_clear 8 = .ok (.aload_n 0, 1) := by decide +kernel
theorem dX0_clear_9 : decode cX0_clear 9 = .ok (.iconst 0, 1) := by decide +kernel
theorem dX0_clear_10 : decode cX0_clear 10 = .ok (.putfield 24, 3) := by decide +kernel
theorem dX0_clear_13 : decode cX0_clear 13 = .ok (.iconst 0, 1) := by decide +kernel
theorem dX0_clear_14 : decode cX0_clear 14 = .ok (.istore_n 1, 1) := by decide +kernel
theorem dX0_clear_15 : decode cX0_clear 15 = .ok (.iload_n 1, 1) := by decide +kernel
theorem dX0_clear_16 : decode cX0_clear 16 = .ok (.bipush 16, 2) := by decide +kernel
theorem dX0_clear_18 : decode cX0_clear 18 = .ok (.if_icmp .ge 18, 3) := by decide +kernel
theorem dX0_clear_21 : decode cX0_clear 21 = .ok (.aload_n 0, 1) := by decide +kernel
theorem dX0_clear_22 : decode cX0_clear 22 = .ok (.getfield 20, 3) := by decide +kernel
theorem dX0_clear_25 : decode cX0_clear 25 = .ok (.iload_n 1, 1) := by decide +kernel
theorem dX0_clear_26 : decode cX0_clear 26 = .ok (.ldc2_w 31, 3) := by decide +kernel
theorem dX0_clear_29 : decode cX0_clear 29 = .ok (.lastore, 1) := by decide +kernel
theorem dX0_clear_30 : decode cX0_clear 30 = .ok (.iinc 1 1, 3) := by decide +kernel
theorem dX0_clear_33 : decode cX0_clear 33 = .ok (.goto (-18), 3) := by decide +kernel
theorem dX0_clear_36 : decode cX0_clear 36 = .ok (.return_, 1) := by decide +kernel
theorem dX1_init_0 : decode cX1_init 0 = .ok (.aload_n 0, 1) := by decide +kernel
theorem dX1_init_1 : decode cX1_init 1 = .ok (.invokespecial 3, 3) := by decide +kernel
theorem dX1_init_4 : decode cX1_init 4 = .ok (.aload_n 0, 1) := by decide +kernel
theorem dX1_init_5 : decode cX1_init 5 = .ok (.iconst 1, 1) := by decide +kernel
theorem dX1_init_6 : decode cX1_init 6 = .ok (.putfield 9, 3) := by decide +kernel
theorem dX1_init_9 : decode cX1_init 9 = .ok (.aload_n 0, 1) := by decide +kernel
theorem dX1_init_10 : decode cX1_init 10 = .ok (.iconst 1, 1) := by decide +kernel
theorem dX1_init_11 : decode cX1_init 11 = .ok (.putfield 15, 3) := by decide +kernel
theorem dX1_init_14 : decode cX1_init 14 = .ok (.aload_n 0, 1) := by decide +kernel
theorem dX1_init_15 : decode cX1_init 15 = .ok (.bipush 20, 2) := by decide +kernel
theorem dX1_init_17 : decode cX1_init 17 = .ok (.putfield 18, 3) := by decide +kernel
theorem dX1_init_20 : decode cX1_init 20 = .ok (.aload_n 0, 1) := by decide +kernel
theorem dX1_init_21 : decode cX1_init 21 = .ok (.bipush 16, 2) := by decide +kernel
theorem dX1_init_23 : decode cX1_init 23 = .ok (.putfield 21, 3) := by decide +kernel
theorem dX1_init_26 : decode cX1_init 26 = .ok (.aload_n 0, 1) := by decide +kernel
theorem dX1_init_27 : decode cX1_init 27 = .ok (.bipush 8, 2) := by decide +kernel
theorem dX1_init_29 : decode cX1_init 29 = .ok (.putfield 24, 3) := by decide +kernel
theorem dX1_init_32 : decode cX1_init 32 = .ok (.aload_n 0, 1) := by decide +kernel
theorem dX1_init_33 : decode cX1_init 33 = .ok (.iconst 0, 1) := by decide +kernel
theorem dX1_init_34 : decode cX1_init 34 = .ok (.putfield 27, 3) := by decide +kernel
theorem dX1_init_37 : decode cX1_init 37 = .ok (.aload_n 0, 1) := by decide +kernel
theorem dX1_init_38 : decode cX1_init 38 = .ok (.iconst 0, 1) := by decide +kernel
theorem dX1_init_39 : decode cX1_init 39 = .ok (.putfield 30, 3) := by decide +kernel
theorem dX1_init_42 : decode cX1_init 42 = .ok (.aload_n 0, 1) := by decide +kernel
theorem dX1_init_43 : decode cX1_init 43 = .ok (.lconst 0, 1) := by decide +kernel
theorem dX1_init_44 : decode cX1_init 44 = .ok (.putfield 33, 3) := by decide +kernel
theorem dX1_init_47 : decode cX1_init 47 = .ok (.aload_n 0, 1) := by decide +kernel
theorem dX1_init_48 : decode cX1_init 48 = .ok (.iconst 0, 1) := by decide +kernel
theorem dX1_init_49 : decode cX1_init 49 = .ok (.putfield 37, 3) := by decide +kernel
theorem dX1_init_52 : decode cX1_init 52 = .ok (.aload_n 0, 1) := by decide +kernel
theorem dX1_init_53 : decode cX1_init 53 = .ok (.sipush 136, 3) := by decide +kernel
theorem dX1_init_56 : decode cX1_init 56 = .ok (.newarray .int, 2) := by decide +kernel
theorem dX1_init_58 : decode cX1_init 58 = .ok (.putfield 41, 3) := by decide +kernel
theorem dX1_init_61 : decode cX1_init 61 = .ok (.aload_n 0, 1) := by decide +kernel
theorem dX1_init_62 : decode cX1_init 62 = .ok (.sipush 136, 3) := by decide +kernel
theorem dX1_init_65 : decode cX1_init 65 = .ok (.newarray .int, 2) := by decide +kernel
theorem dX1_init_67 : decode cX1_init 67 = .ok (.putfield 45, 3) := by decide +kernel
theorem dX1_init_70 : decode cX1_init 70 = .ok (.aload_n 0, 1) := by decide +kernel
theorem dX1_init_71 : decode cX1_init 71 = .ok (.sipush 136, 3) := by decide +kernel
theorem dX1_init_74 : decode cX1_init 74 = .ok (.newarray .long, 2) := by decide +kernel
theorem dX1_init_76 : decode cX1_init 76 = .ok (.putfield 48, 3) := by decide +kernel
theorem dX1_init_79 : decode cX1_init 79 = .ok (.aload_n 0, 1) := by decide +kernel
theorem dX1_init_80 : decode cX1_init 80 = .ok (.sipush 136, 3) := by decide +kernel
theorem dX1_init_83 : decode cX1_init 83 = .ok (.newarray .long, 2) := by decide +kernel
theorem dX1_init_85 : decode cX1_init 85 = .ok (.putfield 52, 3) := by decide +kernel
theorem dX1_init_88 : decode cX1_init 88 = .ok (.aload_n 0, 1) := by decide +kernel
theorem dX1_init_89 : decode cX1_init 89 = .ok (.bipush 8, 2) := by decide +kernel
theorem dX1_init_91 : decode cX1_init 91 = .ok (.newarray .long, 2) := by decide +kernel
theorem dX1_init_93 : decode cX1_init 93 = .ok (.putfield 55, 3) := by decide +kernel
theorem dX1_init_96 : decode cX1_init 96 = .ok (.aload_n 0, 1) := by decide +kernel
theorem dX1_init_97 : decode cX1_init 97 = .ok (.bipush 17, 2) := by decide +kernel
theorem dX1_init_99 : decode cX1_init 99 = .ok (.newarray .long, 2) := by decide +kernel
theorem dX1_init_101 : decode cX1_init 101 = .ok (.putfield 58, 3) := by decide +kernel
theorem dX1_init_104 : decode cX1_init 104 = .ok (.aload_n 0, 1) := by decide +kernel
theorem dX1_init_105 : decode cX1_init 105 = .ok (.bipush 17, 2) := by decide +kernel
theorem dX1_init_107 : decode cX1_init 107 = .ok (.newarray .int, 2) := by decide +kernel
theorem dX1_init_109 : decode cX1_init 109 = .ok (.putfield 61, 3) := by decide +kernel
theorem dX1_init_112 : decode cX1_init 112 = .ok (.aload_n 0, 1) := by decide +kernel
theorem dX1_init_113 : decode cX1_init 113 = .ok (.bipush 17, 2) := by decide +kernel
theorem dX1_init_115 : decode cX1_init 115 = .ok (.newarray .long, 2) := by decide +kernel
theorem dX1_init_117 : decode cX1_init 117 = .ok (.putfield 64, 3) := by decide +kernel
theorem dX1_init_120 : decode cX1_init 120 = .ok (.aload_n 0, 1) := by decide +kernel
theorem dX1_init_121 : decode cX1_init 121 = .ok (.bipush 17, 2) := by decide +kernel
theorem dX1_init_123 : decode cX1_init 123 = .ok (.newarray .int, 2) := by decide +kernel
theorem dX1_init_125 : decode cX1_init 125 = .ok (.putfield 67, 3) := by decide +kernel
theorem dX1_init_128 : decode cX1_init 128 = .ok (.aload_n 0, 1) := by decide +kernel
theorem dX1_init_129 : decode cX1_init 129 = .ok (.bipush 17, 2) := by decide +kernel
theorem dX1_init_131 : decode cX1_init 131 = .ok (.newarray .boolean, 2) := by decide +kernel
theorem dX1_init_133 : decode cX1_init 133 = .ok (.putfield 70, 3) := by decide +kernel
theorem dX1_init_136 : decode cX1_init 136 = .ok (.return_, 1) := by decide +kernel
theorem dX1_cheapest_0 : decode cX1_cheapest 0 = .ok (.aload_n 0, 1) := by decide +kernel
theorem dX1_cheapest_1 : decode cX1_cheapest 1 = .ok (.aload_n 1, 1) := by decide +kernel
theorem dX1_cheapest_2 : decode cX1_cheapest 2 = .ok (.getfield 74, 3) := by decide +kernel
theorem dX1_cheapest_5 : decode cX1_cheapest 5 = .ok (.bipush 8, 2) := by decide +kernel
theorem dX1_cheapest_7 : decode cX1_cheapest 7 = .ok (.invokestatic 79, 3) := by decide +kernel
theorem dX1_cheapest_10 : decode cX1_cheapest 10 = .ok (.putfield 27, 3) := by decide +kernel
theorem dX1_cheapest_13 : decode cX1_cheapest 13 = .ok (.aload_n 0, 1) := by decide +kernel
theorem dX1_cheapest_14 : decode cX1_cheapest 14 = .ok (.aload_n 2, 1) := by decide +kernel
theorem dX1_cheapest_15 : decode cX1_cheapest 15 = .ok (.getfield 74, 3) := by decide +kernel
theorem dX1_cheapest_18 : decode cX1_cheapest 18 = .ok (.bipush 16, 2) := by decide +kernel
theorem dX1_cheapest_20 : decode cX1_cheapest 20 = .ok (.invokestatic 79, 3) := by decide +kernel
theorem dX1_cheapest_23 : decode cX1_cheapest 23 = .ok (.putfield 30, 3) := by decide +kernel
theorem dX1_cheapest_26 : decode cX1_cheapest 26 = .ok (.aload_n 0, 1) := by decide +kernel
theorem dX1_cheapest_27 : decode cX1_cheapest 27 = .ok (.aload_n 1, 1) := by decide +kernel
theorem dX1_cheapest_28 : decode cX1_cheapest 28 = .ok (.aload_n 2, 1) := by decide +kernel
theorem dX1_cheapest_29 : decode cX1_cheapest 29 = .ok (.invokevirtual 85, 3) := by decide +kernel
theorem dX1_cheapest_32 : decode cX1_cheapest 32 = .ok (.aload_n 0, 1) := by decide +kernel
theorem dX1_cheapest_33 : decode cX1_cheapest 33 = .ok (.bipush 24, 2) := by decide +kernel
theorem dX1_cheapest_35 : decode cX1_cheapest 35 = .ok (.ldc2_w 89, 3) := by decide +kernel
theorem dX1_cheapest_38 : decode cX1_cheapest 38 = .ok (.invokevirtual 91, 3) := by decide +kernel
theorem dX1_cheapest_41 : decode cX1_cheapest 41 = .ok (.lstore_n 3, 1) := by decide +kernel
theorem dX1_cheapest_42 : decode cX1_cheapest 42 = .ok (.iconst 0, 1) := by decide +kernel
theorem dX1_cheapest_43 : decode cX1_cheapest 43 = .ok (.istore 5, 2) := by decide +kernel
theorem dX1_cheapest_45 : decode cX1_cheapest 45 = .ok (.iload 5, 2) := by decide +kernel
theorem dX1_cheapest_47 : decode cX1_cheapest 47 = .ok (.bipush 49, 2) := by decide +kernel
theorem dX1_cheapest_49 : decode cX1_cheapest 49 = .ok (.if_icmp .ge 17, 3) := by decide +kernel
theorem dX1_cheapest_52 : decode cX1_cheapest 52 = .ok (.aload_n 0, 1) := by decide +kernel
theorem dX1_cheapest_53 : decode cX1_cheapest 53 = .ok (.iload 5, 2) := by decide +kernel
theorem dX1_cheapest_55 : decode cX1_cheapest 55 = .ok (.lload_n 3, 1) := by decide +kernel
theorem dX1_cheapest_56 : decode cX1_cheapest 56 = .ok (.invokevirtual 91, 3) := by decide +kernel
theorem dX1_cheapest_59 : decode cX1_cheapest 59 = .ok (.lstore_n 3, 1) := by decide +kernel
theorem dX1_cheapest_60 : decode cX1_cheapest 60 = .ok (.iinc 5 1, 3) := by decide +kernel
theorem dX1_cheapest_63 : decode cX1_cheapest 63 = .ok (.goto (-18), 3) := by decide +kernel
theorem dX1_cheapest_66 : decode cX1_cheapest 66 = .ok (.lload_n 3, 1) := by decide +kernel
theorem dX1_cheapest_67 : decode cX1_cheapest 67 = .ok (.lreturn, 1) := by decide +kernel
theorem dX1_setUp_0 : decode cX1_setUp 0 = .ok (.aload_n 0, 1) := by decide +kernel
theorem dX1_setUp_1 : decode cX1_setUp 1 = .ok (.lconst 0, 1) := by decide +kernel
theorem dX1_setUp_2 : decode cX1_setUp 2 = .ok (.putfield 33, 3) := by decide +kernel
theorem dX1_setUp_5 : decode cX1_setUp 5 = .ok (.iconst 0, 1) := by decide +kernel
theorem dX1_setUp_6 : decode cX1_setUp 6 = .ok (.istore_n 3, 1) := by decide +kernel
theorem dX1_setUp_7 : decode cX1_setUp 7 = .ok (.iload_n 3, 1) := by decide +kernel
theorem dX1_setUp_8 : decode cX1_setUp 8 = .ok (.aload_n 0, 1) := by decide +kernel
theorem dX1_setUp_9 : decode cX1_setUp 9 = .ok (.getfield 30, 3) := by decide +kernel
theorem dX1_setUp_12 : decode cX1_setUp 12 = .ok (.if_icmp .ge 167, 3) := by decide +kernel
theorem dX1_setUp_15 : decode cX1_setUp 15 = .ok (.aload_n 2, 1) := by decide +kernel
theorem dX1_setUp_16 : decode cX1_setUp 16 = .ok (.getfield 95, 3) := by decide +kernel
theorem dX1_setUp_19 : decode cX1_setUp 19 = .ok (.iload_n 3, 1) := by decide +kernel
theorem dX1_setUp_20 : decode cX1_setUp 20 = .ok (.baload, 1) := by decide +kernel
theorem dX1_setUp_21 : decode cX1_setUp 21 = .ok (.ifCond .eq 10, 3) := by decide +kernel
theorem dX1_setUp_24 : decode cX1_setUp 24 = .ok (.aload_n 0, 1) := by decide +kernel
theorem dX1_setUp_25 : decode cX1_setUp 25 = .ok (.getfield 21, 3) := by decide +kernel
theorem dX1_setUp_28 : decode cX1_setUp 28 = .ok (.goto 9, 3) := by decide +kernel
theorem dX1_setUp_31 : decode cX1_setUp 31 = .ok (.aload_n 0, 1) := by decide +kernel
theorem dX1_setUp_32 : decode cX1_setUp 32 = .ok (.getfield 21, 3) := by decide +kernel
theorem dX1_setUp_35 : decode cX1_setUp 35 = .ok (.iconst 2, 1) := by decide +kernel
theorem dX1_setUp_36 : decode cX1_setUp 36 = .ok (.idiv, 1) := by decide +kernel
theorem dX1_setUp_37 : decode cX1_setUp 37 = .ok (.istore 4, 2) := by decide +kernel
theorem dX1_setUp_39 : decode cX1_setUp 39 = .ok (.aload_n 0, 1) := by decide +kernel
theorem dX1_setUp_40 : decode cX1_setUp 40 = .ok (.dup, 1) := by decide +kernel
theorem dX1_setUp_41 : decode cX1_setUp 41 = .ok (.getfield 33, 3) := by decide +kernel
theorem dX1_setUp_44 : decode cX1_setUp 44 = .ok (.iload 4, 2) := by decide +kernel
theorem dX1_setUp_46 : decode cX1_setUp 46 = .ok (.i2l, 1) := by decide +kernel
theorem dX1_setUp_47 : decode cX1_setUp 47 = .ok (.ladd, 1) := by decide +kernel
theorem dX1_setUp_48 : decode cX1_setUp 48 = .ok (.putfield 33, 3) := by decide +kernel
theorem dX1_setUp_51 : decode cX1_setUp 51 = .ok (.iconst 0, 1) := by decide +kernel
theorem dX1_setUp_52 : decode cX1_setUp 52 = .ok (.istore 5, 2) := by decide +kernel
theorem dX1_setUp_54 : decode cX1_setUp 54 = .ok (.iload 5, 2) := by decide +kernel
theorem dX1_setUp_56 : decode cX1_setUp 56 = .ok (.aload_n 0, 1) := by decide +kernel
theorem dX1_setUp_57 : decode cX1_setUp 57 = .ok (.getfield 27, 3) := by decide +kernel
theorem dX1_setUp_60 : decode cX1_setUp 60 = .ok (.if_icmp .ge 113, 3) := by decide +kernel
theorem dX1_setUp_63 : decode cX1_setUp 63 = .ok (.iload 5, 2) := by decide +kernel
theorem dX1_setUp_65 : decode cX1_setUp 65 = .ok (.bipush 17, 2) := by decide +kernel
theorem dX1_setUp_67 : decode cX1_setUp 67 = .ok (.imul, 1) := by decide +kernel
theorem dX1_setUp_68 : decode cX1_setUp 68 = .ok (.iload_n 3, 1) := by decide +kernel
theorem dX1_setUp_69 : decode cX1_setUp 69 = .ok (.iadd, 1) := by decide +kernel
theorem dX1_setUp_70 : decode cX1_setUp 70 = .ok (.istore 6, 2) := by decide +kernel
theorem dX1_setUp_72 : decode cX1_setUp 72 = .ok (.aload_n 1, 1) := by decide +kernel
theorem dX1_setUp_73 : decode cX1_setUp 73 = .ok (.getfield 98, 3) := by decide +kernel
theorem dX1_setUp_76 : decode cX1_setUp 76 = .ok (.iload 5, 2) := by decide +kernel
theorem dX1_setUp_78 : decode cX1_setUp 78 = .ok (.iaload, 1) := by decide +kernel
theorem dX1_setUp_79 : decode cX1_setUp 79 = .ok (.aload_n 2, 1) := by decide +kernel
theorem dX1_setUp_80 : decode cX1_setUp 80 = .ok (.getfield 98, 3) := by decide +kernel
theorem dX1_setUp_83 : decode cX1_setUp 83 = .ok (.iload_n 3, 1) := by decide +kernel
theorem dX1_setUp_84 : decode cX1_setUp 84 = .ok (.iaload, 1) := by decide +kernel
theorem dX1_setUp_85 : decode cX1_setUp 85 = .ok (.if_icmp .ne 7, 3) := by decide +kernel
theorem dX1_setUp_88 : decode cX1_setUp 88 = .ok (.iconst 0, 1) := by decide +kernel
theorem dX1_setUp_89 : decode cX1_setUp 89 = .ok (.goto 7, 3) := by decide +kernel
theorem dX1_setUp_92 : decode cX1_setUp 92 = .ok (.aload_n 0, 1) := by decide +kernel
theorem dX1_setUp_93 : decode cX1_setUp 93 = .ok (.getfield 18, 3) := by decide +kernel
theorem dX1_setUp_96 : decode cX1_setUp 96 = .ok (.istore 7, 2) := by decide +kernel
theorem dX1_setUp_98 : decode cX1_setUp 98 = .ok (.aload_n 0, 1) := by decide +kernel
theorem dX1_setUp_99 : decode cX1_setUp 99 = .ok (.getfield 41, 3) := by decide +kernel
theorem dX1_setUp_102 : decode cX1_setUp 102 = .ok (.iload 6, 2) := by decide +kernel
theorem dX1_setUp_104 : decode cX1_setUp 104 = .ok (.aload_n 1, 1) := by decide +kernel
theorem dX1_setUp_105 : decode cX1_setUp 105 = .ok (.getfield 101, 3) := by decide +kernel
theorem dX1_setUp_108 : decode cX1_setUp 108 = .ok (.iload 5, 2) := by decide +kernel
theorem dX1_setUp_110 : decode cX1_setUp 110 = .ok (.iaload, 1) := by decide +kernel
theorem dX1_setUp_111 : decode cX1_setUp 111 = .ok (.aload_n 2, 1) := by decide +kernel
theorem dX1_setUp_112 : decode cX1_setUp 112 = .ok (.getfield 101, 3) := by decide +kernel
theorem dX1_setUp_115 : decode cX1_setUp 115 = .ok (.iload_n 3, 1) := by decide +kernel
theorem dX1_setUp_116 : decode cX1_setUp 116 = .ok (.iaload, 1) := by decide +kernel
theorem dX1_setUp_117 : decode cX1_setUp 117 = .ok (.isub, 1) := by decide +kernel
theorem dX1_setUp_118 : decode cX1_setUp 118 = .ok (.iastore, 1) := by decide +kernel
theorem dX1_setUp_119 : decode cX1_setUp 119 = .ok (.aload_n 0, 1) := by decide +kernel
theorem dX1_setUp_120 : decode cX1_setUp 120 = .ok (.getfield 45, 3) := by decide +kernel
theorem dX1_setUp_123 : decode cX1_setUp 123 = .ok (.iload 6, 2) := by decide +kernel
theorem dX1_setUp_125 : decode cX1_setUp 125 = .ok (.aload_n 1, 1) := by decide +kernel
theorem dX1_setUp_126 : decode cX1_setUp 126 = .ok (.getfield 104, 3) := by decide +kernel
theorem dX1_setUp_129 : decode cX1_setUp 129 = .ok (.iload 5, 2) := by decide +kernel
theorem dX1_setUp_131 : decode cX1_setUp 131 = .ok (.iaload, 1) := by decide +kernel
theorem dX1_setUp_132 : decode cX1_setUp 132 = .ok (.aload_n 2, 1) := by decide +kernel
theorem dX1_setUp_133 : decode cX1_setUp 133 = .ok (.getfield 104, 3) := by decide +kernel
theorem dX1_setUp_136 : decode cX1_setUp 136 = .ok (.iload_n 3, 1) := by decide +kernel
theorem dX1_setUp_137 : decode cX1_setUp 137 = .ok (.iaload, 1) := by decide +kernel
theorem dX1_setUp_138 : decode cX1_setUp 138 = .ok (.isub, 1) := by decide +kernel
theorem dX1_setUp_139 : decode cX1_setUp 139 = .ok (.iastore, 1) := by decide +kernel
theorem dX1_setUp_140 : decode cX1_setUp 140 = .ok (.aload_n 0, 1) := by decide +kernel
theorem dX1_setUp_141 : decode cX1_setUp 141 = .ok (.getfield 48, 3) := by decide +kernel
theorem dX1_setUp_144 : decode cX1_setUp 144 = .ok (.iload 6, 2) := by decide +kernel
theorem dX1_setUp_146 : decode cX1_setUp 146 = .ok (.iload 7, 2) := by decide +kernel
theorem dX1_setUp_148 : decode cX1_setUp 148 = .ok (.iload 4, 2) := by decide +kernel
theorem dX1_setUp_150 : decode cX1_setUp 150 = .ok (.isub, 1) := by decide +kernel
theorem dX1_setUp_151 : decode cX1_setUp 151 = .ok (.i2l, 1) := by decide +kernel
theorem dX1_setUp_152 : decode cX1_setUp 152 = .ok (.ldc2_w 107, 3) := by decide +kernel
theorem dX1_setUp_155 : decode cX1_setUp 155 = .ok (.lmul, 1) := by decide +kernel
theorem dX1_setUp_156 : decode cX1_setUp 156 = .ok (.iload_n 3, 1) := by decide +kernel
theorem dX1_setUp_157 : decode cX1_setUp 157 = .ok (.i2l, 1) := by decide +kernel
theorem dX1_setUp_158 : decode cX1_setUp 158 = .ok (.getstatic 109, 3) := by decide +kernel
theorem dX1_setUp_161 : decode cX1_setUp 161 = .ok (.iload 5, 2) := by decide +kernel
theorem dX1_setUp_163 : decode cX1_setUp 163 = .ok (.laload, 1) := by decide +kernel
theorem dX1_setUp_164 : decode cX1_setUp 164 = .ok (.lmul, 1) := by decide +kernel
theorem dX1_setUp_165 : decode cX1_setUp 165 = .ok (.ladd, 1) := by decide +kernel
theorem dX1_setUp_166 : decode cX1_setUp 166 = .ok (.lastore, 1) := by decide +kernel
theorem dX1_setUp_167 : decode cX1_setUp 167 = .ok (.iinc 5 1, 3) := by decide +kernel
theorem dX1_setUp_170 : decode cX1_setUp 170 = .ok (.goto (-116), 3) := by decide +kernel
theorem dX1_setUp_173 : decode cX1_setUp 173 = .ok (.iinc 3 1, 3) := by decide +kernel
theorem dX1_setUp_176 : decode cX1_setUp 176 = .ok (.goto (-169), 3) := by decide +kernel
theorem dX1_setUp_179 : decode cX1_setUp 179 = .ok (.iconst 0, 1) := by decide +kernel
theorem dX1_setUp_180 : decode cX1_setUp 180 = .ok (.istore_n 3, 1) := by decide +kernel
theorem dX1_setUp_181 : decode cX1_setUp 181 = .ok (.iload_n 3, 1) := by decide +kernel
theorem dX1_setUp_182 : decode cX1_setUp 182 = .ok (.aload_n 0, 1) := by decide +kernel
theorem dX1_setUp_183 : decode cX1_setUp 183 = .ok (.getfield 27, 3) := by decide +kernel
theorem dX1_setUp_186 : decode cX1_setUp 186 = .ok (.if_icmp .ge 42, 3) := by decide +kernel
theorem dX1_setUp_189 : decode cX1_setUp 189 = .ok (.aload_n 0, 1) := by decide +kernel
theorem dX1_setUp_190 : decode cX1_setUp 190 = .ok (.getfield 52, 3) := by decide +kernel
theorem dX1_setUp_193 : decode cX1_setUp 193 = .ok (.iload_n 3, 1) := by decide +kernel
theorem dX1_setUp_194 : decode cX1_setUp 194 = .ok (.bipush 17, 2) := by decide +kernel
theorem dX1_setUp_196 : decode cX1_setUp 196 = .ok (.imul, 1) := by decide +kernel
theorem dX1_setUp_197 : decode cX1_setUp 197 = .ok (.aload_n 0, 1) := by decide +kernel
theorem dX1_setUp_198 : decode cX1_setUp 198 = .ok (.getfield 30, 3) := by decide +kernel
theorem dX1_setUp_201 : decode cX1_setUp 201 = .ok (.iadd, 1) := by decide +kernel
theorem dX1_setUp_202 : decode cX1_setUp 202 = .ok (.aload_n 0, 1) := by decide +kernel
theorem dX1_setUp_203 : decode cX1_setUp 203 = .ok (.getfield 24, 3) := by decide +kernel
theorem dX1_setUp_206 : decode cX1_setUp 206 = .ok (.i2l, 1) := by decide +kernel
theorem dX1_setUp_207 : decode cX1_setUp 207 = .ok (.ldc2_w 107, 3) := by decide +kernel
theorem dX1_setUp_210 : decode cX1_setUp 210 = .ok (.lmul, 1) := by decide +kernel
theorem dX1_setUp_211 : decode cX1_setUp 211 = .ok (.ldc2_w 112, 3) := by decide +kernel
theorem dX1_setUp_214 : decode cX1_setUp 214 = .ok (.getstatic 109, 3) := by decide +kernel
theorem dX1_setUp_217 : decode cX1_setUp 217 = .ok (.iload_n 3, 1) := by decide +kernel
theorem dX1_setUp_218 : decode cX1_setUp 218 = .ok (.laload, 1) := by decide +kernel
theorem dX1_setUp_219 : decode cX1_setUp 219 = .ok (.lmul, 1) := by decide +kernel
theorem dX1_setUp_220 : decode cX1_setUp 220 = .ok (.ladd, 1) := by decide +kernel
theorem dX1_setUp_221 : decode cX1_setUp 221 = .ok (.lastore, 1) := by decide +kernel
theorem dX1_setUp_222 : decode cX1_setUp 222 = .ok (.iinc 3 1, 3) := by decide +kernel
theorem dX1_setUp_225 : decode cX1_setUp 225 = .ok (.goto (-44), 3) := by decide +kernel
theorem dX1_setUp_228 : decode cX1_setUp 228 = .ok (.return_, 1) := by decide +kernel
theorem dX1_cheapestAt_0 : decode cX1_cheapestAt 0 = .ok (.iload_n 1, 1) := by decide +kernel
theorem dX1_cheapestAt_1 : decode cX1_cheapestAt 1 = .ok (.invokestatic 114, 3) := by decide +kernel
theorem dX1_cheapestAt_4 : decode cX1_cheapestAt 4 = .ok (.istore 4, 2) := by decide +kernel
theorem dX1_cheapestAt_6 : decode cX1_cheapestAt 6 = .ok (.iload_n 1, 1) := by decide +kernel
theorem dX1_cheapestAt_7 : decode cX1_cheapestAt 7 = .ok (.invokestatic 118, 3) := by decide +kernel
theorem dX1_cheapestAt_10 : decode cX1_cheapestAt 10 = .ok (.istore 5, 2) := by decide +kernel
theorem dX1_cheapestAt_12 : decode cX1_cheapestAt 12 = .ok (.aload_n 0, 1) := by decide +kernel
theorem dX1_cheapestAt_13 : decode cX1_cheapestAt 13 = .ok (.getfield 33, 3) := by decide +kernel
theorem dX1_cheapestAt_16 : decode cX1_cheapestAt 16 = .ok (.aload_n 0, 1) := by decide +kernel
theorem dX1_cheapestAt_17 : decode cX1_cheapestAt 17 = .ok (.getfield 9, 3) := by decide +kernel
theorem dX1_cheapestAt_20 : decode cX1_cheapestAt 20 = .ok (.iload 4, 2) := by decide +kernel
theorem dX1_cheapestAt_22 : decode cX1_cheapestAt 22 = .ok (.invokestatic 121, 3) := by decide +kernel
theorem dX1_cheapestAt_25 : decode cX1_cheapestAt 25 = .ok (.iload 5, 2) := by decide +kernel
theorem dX1_cheapestAt_27 : decode cX1_cheapestAt 27 = .ok (.invokestatic 121, 3) := by decide +kernel
theorem dX1_cheapestAt_30 : decode cX1_cheapestAt 30 = .ok (.iadd, 1) := by decide +kernel
theorem dX1_cheapestAt_31 : decode cX1_cheapestAt 31 = .ok (.imul, 1) := by decide +kernel
theorem dX1_cheapestAt_32 : decode cX1_cheapestAt 32 = .ok (.i2l, 1) := by decide +kernel
theorem dX1_cheapestAt_33 : decode cX1_cheapestAt 33 = .ok (.ladd, 1) := by decide +kernel
theorem dX1_cheapestAt_34 : decode cX1_cheapestAt 34 = .ok (.ldc2_w 107, 3) := by decide +kernel
theorem dX1_cheapestAt_37 : decode cX1_cheapestAt 37 = .ok (.lmul, 1) := by decide +kernel
theorem dX1_cheapestAt_38 : decode cX1_cheapestAt 38 = .ok (.iload_n 1, 1) := by decide +kernel
theorem dX1_cheapestAt_39 : decode cX1_cheapestAt 39 = .ok (.i2l, 1) := by decide +kernel
theorem dX1_cheapestAt_40 : decode cX1_cheapestAt 40 = .ok (.ldc2_w 124, 3) := by decide +kernel
theorem dX1_cheapestAt_43 : decode cX1_cheapestAt 43 = .ok (.lmul, 1) := by decide +kernel
theorem dX1_cheapestAt_44 : decode cX1_cheapestAt 44 = .ok (.ladd, 1) := by decide +kernel
theorem dX1_cheapestAt_45 : decode cX1_cheapestAt 45 = .ok (.lstore 6, 2) := by decide +kernel
theorem dX1_cheapestAt_47 : decode cX1_cheapestAt 47 = .ok (.aload_n 0, 1) := by decide +kernel
theorem dX1_cheapestAt_48 : decode cX1_cheapestAt 48 = .ok (.iload 4, 2) := by decide +kernel
theorem dX1_cheapestAt_50 : decode cX1_cheapestAt 50 = .ok (.iload 5, 2) := by decide +kernel
theorem dX1_cheapestAt_52 : decode cX1_cheapestAt 52 = .ok (.invokevirtual 126, 3) := by decide +kernel
theorem dX1_cheapestAt_55 : decode cX1_cheapestAt 55 = .ok (.lload 6, 2) := by decide +kernel
theorem dX1_cheapestAt_57 : decode cX1_cheapestAt 57 = .ok (.aload_n 0, 1) := by decide +kernel
theorem dX1_cheapestAt_58 : decode cX1_cheapestAt 58 = .ok (.invokevirtual 130, 3) := by decide +kernel
theorem dX1_cheapestAt_61 : decode cX1_cheapestAt 61 = .ok (.ladd, 1) := by decide +kernel
theorem dX1_cheapestAt_62 : decode cX1_cheapestAt 62 = .ok (.lstore 8, 2) := by decide +kernel
theorem dX1_cheapestAt_64 : decode cX1_cheapestAt 64 = .ok (.lload 8, 2) := by decide +kernel
theorem dX1_cheapestAt_66 : decode cX1_cheapestAt 66 = .ok (.lload_n 2, 1) := by decide +kernel
theorem dX1_cheapestAt_67 : decode cX1_cheapestAt 67 = .ok (.lcmp, 1) := by decide +kernel
theorem dX1_cheapestAt_68 : decode cX1_cheapestAt 68 = .ok (.ifCond .ge 10, 3) := by decide +kernel
theorem dX1_cheapestAt_71 : decode cX1_cheapestAt 71 = .ok (.aload_n 0, 1) := by decide +kernel
theorem dX1_cheapestAt_72 : decode cX1_cheapestAt 72 = .ok (.getfield 37, 3) := by decide +kernel
theorem dX1_cheapestAt_75 : decode cX1_cheapestAt 75 = .ok (.ifCond .ne 10, 3) := by decide +kernel
theorem dX1_cheapestAt_78 : decode cX1_cheapestAt 78 = .ok (.lload 8, 2) := by decide +kernel
theorem dX1_cheapestAt_80 : decode cX1_cheapestAt 80 = .ok (.lload_n 2, 1) := by decide +kernel
theorem dX1_cheapestAt_81 : decode cX1_cheapestAt 81 = .ok (.invokestatic 134, 3) := by decide +kernel
theorem dX1_cheapestAt_84 : decode cX1_cheapestAt 84 = .ok (.lreturn, 1) := by decide +kernel
theorem dX1_cheapestAt_85 : decode cX1_cheapestAt 85 = .ok (.aload_n 0, 1) := by decide +kernel
theorem dX1_cheapestAt_86 : decode cX1_cheapestAt 86 = .ok (.invokevirtual 137, 3) := by decide +kernel
theorem dX1_cheapestAt_89 : decode cX1_cheapestAt 89 = .ok (.lload 6, 2) := by decide +kernel
theorem dX1_cheapestAt_91 : decode cX1_cheapestAt 91 = .ok (.lstore 10, 2) := by decide +kernel
theorem dX1_cheapestAt_93 : decode cX1_cheapestAt 93 = .ok (.iconst 0, 1) := by decide +kernel
theorem dX1_cheapestAt_94 : decode cX1_cheapestAt 94 = .ok (.istore 12, 2) := by decide +kernel
theorem dX1_cheapestAt_96 : decode cX1_cheapestAt 96 = .ok (.iload 12, 2) := by decide +kernel
theorem dX1_cheapestAt_98 : decode cX1_cheapestAt 98 = .ok (.aload_n 0, 1) := by decide +kernel
theorem dX1_cheapestAt_99 : decode cX1_cheapestAt 99 = .ok (.getfield 27, 3) := by decide +kernel
theorem dX1_cheapestAt_102 : decode cX1_cheapestAt 102 = .ok (.if_icmp .ge 20, 3) := by decide +kernel
theorem dX1_cheapestAt_105 : decode cX1_cheapestAt 105 = .ok (.lload 10, 2) := by decide +kernel
theorem dX1_cheapestAt_107 : decode cX1_cheapestAt 107 = .ok (.aload_n 0, 1) := by decide +kernel
theorem dX1_cheapestAt_108 : decode cX1_cheapestAt 108 = .ok (.iload 12, 2) := by decide +kernel
theorem dX1_cheapestAt_110 : decode cX1_cheapestAt 110 = .ok (.invokevirtual 140, 3) := by decide +kernel
theorem dX1_cheapestAt_113 : decode cX1_cheapestAt 113 = .ok (.ladd, 1) := by decide +kernel
theorem dX1_cheapestAt_114 : decode cX1_cheapestAt 114 = .ok (.lstore 10, 2) := by decide +kernel
theorem dX1_cheapestAt_116 : decode cX1_cheapestAt 116 = .ok (.iinc 12 1, 3) := by decide +kernel
theorem dX1_cheapestAt_119 : decode cX1_cheapestAt 119 = .ok (.goto (-23), 3) := by decide +kernel
theorem dX1_cheapestAt_122 : decode cX1_cheapestAt 122 = .ok (.lload 10, 2) := by decide +kernel
theorem dX1_cheapestAt_124 : decode cX1_cheapestAt 124 = .ok (.lload_n 2, 1) := by decide +kernel
theorem dX1_cheapestAt_125 : decode cX1_cheapestAt 125 = .ok (.invokestatic 134, 3) := by decide +kernel
theorem dX1_cheapestAt_128 : decode cX1_cheapestAt 128 = .ok (.lreturn, 1) := by decide +kernel
theorem dX1_fillCells_0 : decode cX1_fillCells 0 = .ok (.aload_n 0, 1) := by decide +kernel
theorem dX1_fillCells_1 : decode cX1_fillCells 1 = .ok (.getfield 15, 3) := by decide +kernel
theorem dX1_fillCells_4 : decode cX1_fillCells 4 = .ok (.i2l, 1) := by decide +kernel
theorem dX1_fillCells_5 : decode cX1_fillCells 5 = .ok (.ldc2_w 107, 3) := by decide +kernel
theorem dX1_fillCells_8 : decode cX1_fillCells 8 = .ok (.lmul, 1) := by decide +kernel
theorem dX1_fillCells_9 : decode cX1_fillCells 9 = .ok (.lstore_n 3, 1) := by decide +kernel
theorem dX1_fillCells_10 : decode cX1_fillCells 10 = .ok (.iconst 0, 1) := by decide +kernel
theorem dX1_fillCells_11 : decode cX1_fillCells 11 = .ok (.istore 5, 2) := by decide +kernel
theorem dX1_fillCells_13 : decode cX1_fillCells 13 = .ok (.iload 5, 2) := by decide +kernel
theorem dX1_fillCells_15 : decode cX1_fillCells 15 = .ok (.aload_n 0, 1) := by decide +kernel
theorem dX1_fillCells_16 : decode cX1_fillCells 16 = .ok (.getfield 27, 3) := by decide +kernel
theorem dX1_fillCells_19 : decode cX1_fillCells 19 = .ok (.if_icmp .ge 84, 3) := by decide +kernel
theorem dX1_fillCells_22 : decode cX1_fillCells 22 = .ok (.iload 5, 2) := by decide +kernel
theorem dX1_fillCells_24 : decode cX1_fillCells 24 = .ok (.bipush 17, 2) := by decide +kernel
theorem dX1_fillCells_26 : decode cX1_fillCells 26 = .ok (.imul, 1) := by decide +kernel
theorem dX1_fillCells_27 : decode cX1_fillCells 27 = .ok (.aload_n 0, 1) := by decide +kernel
theorem dX1_fillCells_28 : decode cX1_fillCells 28 = .ok (.getfield 30, 3) := by decide +kernel
theorem dX1_fillCells_31 : decode cX1_fillCells 31 = .ok (.iadd, 1) := by decide +kernel
theorem dX1_fillCells_32 : decode cX1_fillCells 32 = .ok (.istore 6, 2) := by decide +kernel
theorem dX1_fillCells_34 : decode cX1_fillCells 34 = .ok (.iload 5, 2) := by decide +kernel
theorem dX1_fillCells_36 : decode cX1_fillCells 36 = .ok (.bipush 17, 2) := by decide +kernel
theorem dX1_fillCells_38 : decode cX1_fillCells 38 = .ok (.imul, 1) := by decide +kernel
theorem dX1_fillCells_39 : decode cX1_fillCells 39 = .ok (.istore 7, 2) := by decide +kernel
theorem dX1_fillCells_41 : decode cX1_fillCells 41 = .ok (.iload 7, 2) := by decide +kernel
theorem dX1_fillCells_43 : decode cX1_fillCells 43 = .ok (.iload 6, 2) := by decide +kernel
theorem dX1_fillCells_45 : decode cX1_fillCells 45 = .ok (.if_icmp .ge 52, 3) := by decide +kernel
theorem dX1_fillCells_48 : decode cX1_fillCells 48 = .ok (.aload_n 0, 1) := by decide +kernel
theorem dX1_fillCells_49 : decode cX1_fillCells 49 = .ok (.getfield 52, 3) := by decide +kernel
theorem dX1_fillCells_52 : decode cX1_fillCells 52 = .ok (.iload 7, 2) := by decide +kernel
theorem dX1_fillCells_54 : decode cX1_fillCells 54 = .ok (.aload_n 0, 1) := by decide +kernel
theorem dX1_fillCells_55 : decode cX1_fillCells 55 = .ok (.getfield 48, 3) := by decide +kernel
theorem dX1_fillCells_58 : decode cX1_fillCells 58 = .ok (.iload 7, 2) := by decide +kernel
theorem dX1_fillCells_60 : decode cX1_fillCells 60 = .ok (.laload, 1) := by decide +kernel
theorem dX1_fillCells_61 : decode cX1_fillCells 61 = .ok (.lload_n 3, 1) := by decide +kernel
theorem dX1_fillCells_62 : decode cX1_fillCells 62 = .ok (.aload_n 0, 1) := by decide +kernel
theorem dX1_fillCells_63 : decode cX1_fillCells 63 = .ok (.getfield 41, 3) := by decide +kernel
theorem dX1_fillCells_66 : decode cX1_fillCells 66 = .ok (.iload 7, 2) := by decide +kernel
theorem dX1_fillCells_68 : decode cX1_fillCells 68 = .ok (.iaload, 1) := by decide +kernel
theorem dX1_fillCells_69 : decode cX1_fillCells 69 = .ok (.iload_n 1, 1) := by decide +kernel
theorem dX1_fillCells_70 : decode cX1_fillCells 70 = .ok (.iadd, 1) := by decide +kernel
theorem dX1_fillCells_71 : decode cX1_fillCells 71 = .ok (.invokestatic 121, 3) := by decide +kernel
theorem dX1_fillCells_74 : decode cX1_fillCells 74 = .ok (.aload_n 0, 1) := by decide +kernel
theorem dX1_fillCells_75 : decode cX1_fillCells 75 = .ok (.getfield 45, 3) := by decide +kernel
theorem dX1_fillCells_78 : decode cX1_fillCells 78 = .ok (.iload 7, 2) := by decide +kernel
theorem dX1_fillCells_80 : decode cX1_fillCells 80 = .ok (.iaload, 1) := by decide +kernel
theorem dX1_fillCells_81 : decode cX1_fillCells 81 = .ok (.iload_n 2, 1) := by decide +kernel
theorem dX1_fillCells_82 : decode cX1_fillCells 82 = .ok (.iadd, 1) := by decide +kernel
theorem dX1_fillCells_83 : decode cX1_fillCells 83 = .ok (.invokestatic 121, 3) := by decide +kernel
theorem dX1_fillCells_86 : decode cX1_fillCells 86 = .ok (.iadd, 1) := by decide +kernel
theorem dX1_fillCells_87 : decode cX1_fillCells 87 = .ok (.i2l, 1) := by decide +kernel
theorem dX1_fillCells_88 : decode cX1_fillCells 88 = .ok (.lmul, 1) := by decide +kernel
theorem dX1_fillCells_89 : decode cX1_fillCells 89 = .ok (.ladd, 1) := by decide +kernel
theorem dX1_fillCells_90 : decode cX1_fillCells 90 = .ok (.lastore, 1) := by decide +kernel
theorem dX1_fillCells_91 : decode cX1_fillCells 91 = .ok (.iinc 7 1, 3) := by decide +kernel
theorem dX1_fillCells_94 : decode cX1_fillCells 94 = .ok (.goto (-53), 3) := by decide +kernel
theorem dX1_fillCells_97 : decode cX1_fillCells 97 = .ok (.iinc 5 1, 3) := by decide +kernel
theorem dX1_fillCells_100 : decode cX1_fillCells 100 = .ok (.goto (-87), 3) := by decide +kernel
theorem dX1_fillCells_103 : decode cX1_fillCells 103 = .ok (.return_, 1) := by decide +kernel
theorem dX1_leastWithoutRivals_0 : decode cX1_leastWithoutRivals 0 = .ok (.lconst 0, 1) := by decide +kernel
theorem dX1_leastWithoutRivals_1 : decode cX1_leastWithoutRivals 1 = .ok (.lstore_n 1, 1) := by decide +kernel
theorem dX1_leastWithoutRivals_2 : decode cX1_leastWithoutRivals 2 = .ok (.iconst 0, 1) := by decide +kernel
theorem dX1_leastWithoutRivals_3 : decode cX1_leastWithoutRivals 3 = .ok (.istore_n 3, 1) := by decide +kernel
theorem dX1_leastWithoutRivals_4 : decode cX1_leastWithoutRivals 4 = .ok (.aload_n 0, 1) := by decide +kernel
theorem dX1_leastWithoutRivals_5 : decode cX1_leastWithoutRivals 5 = .ok (.iconst 0, 1) := by decide +kernel
theorem dX1_leastWithoutRivals_6 : decode cX1_leastWithoutRivals 6 = .ok (.putfield 37, 3) := by decide +kernel
theorem dX1_leastWithoutRivals_9 : decode cX1_leastWithoutRivals 9 = .ok (.iconst 0, 1) := by decide +kernel
theorem dX1_leastWithoutRivals_10 : decode cX1_leastWithoutRivals 10 = .ok (.istore 4, 2) := by decide +kernel
theorem dX1_leastWithoutRivals_12 : decode cX1_leastWithoutRivals 12 = .ok (.iload 4, 2) := by decide +kernel
theorem dX1_leastWithoutRivals_14 : decode cX1_leastWithoutRivals 14 = .ok (.aload_n 0, 1) := by decide +kernel
theorem dX1_leastWithoutRivals_15 : decode cX1_leastWithoutRivals 15 = .ok (.getfield 27, 3) := by decide +kernel
theorem dX1_leastWithoutRivals_18 : decode cX1_leastWithoutRivals 18 = .ok (.if_icmp .ge 123, 3) := by decide +kernel
theorem dX1_leastWithoutRivals_21 : decode cX1_leastWithoutRivals 21 = .ok (.iload 4, 2) := by decide +kernel
theorem dX1_leastWithoutRivals_23 : decode cX1_leastWithoutRivals 23 = .ok (.bipush 17, 2) := by decide +kernel
theorem dX1_leastWithoutRivals_25 : decode cX1_leastWithoutRivals 25 = .ok (.imul, 1) := by decide +kernel
theorem dX1_leastWithoutRivals_26 : decode cX1_leastWithoutRivals 26 = .ok (.istore 5, 2) := by decide +kernel
theorem dX1_leastWithoutRivals_28 : decode cX1_leastWithoutRivals 28 = .ok (.aload_n 0, 1) := by decide +kernel
theorem dX1_leastWithoutRivals_29 : decode cX1_leastWithoutRivals 29 = .ok (.getfield 30, 3) := by decide +kernel
theorem dX1_leastWithoutRivals_32 : decode cX1_leastWithoutRivals 32 = .ok (.istore 6, 2) := by decide +kernel
theorem dX1_leastWithoutRivals_34 : decode cX1_leastWithoutRivals 34 = .ok (.iconst 0, 1) := by decide +kernel
theorem dX1_leastWithoutRivals_35 : decode cX1_leastWithoutRivals 35 = .ok (.istore 7, 2) := by decide +kernel
theorem dX1_leastWithoutRivals_37 : decode cX1_leastWithoutRivals 37 = .ok (.iload 7, 2) := by decide +kernel
theorem dX1_leastWithoutRivals_39 : decode cX1_leastWithoutRivals 39 = .ok (.aload_n 0, 1) := by decide +kernel
theorem dX1_leastWithoutRivals_40 : decode cX1_leastWithoutRivals 40 = .ok (.getfield 30, 3) := by decide +kernel
theorem dX1_leastWithoutRivals_43 : decode cX1_leastWithoutRivals 43 = .ok (.if_icmp .ge 37, 3) := by decide +kernel
theorem dX1_leastWithoutRivals_46 : decode cX1_leastWithoutRivals 46 = .ok (.aload_n 0, 1) := by decide +kernel
theorem dX1_leastWithoutRivals_47 : decode cX1_leastWithoutRivals 47 = .ok (.getfield 52, 3) := by decide +kernel
theorem dX1_leastWithoutRivals_50 : decode cX1_leastWithoutRivals 50 = .ok (.iload 5, 2) := by decide +kernel
theorem dX1_leastWithoutRivals_52 : decode cX1_leastWithoutRivals 52 = .ok (.iload 7, 2) := by decide +kernel
theorem dX1_leastWithoutRivals_54 : decode cX1_leastWithoutRivals 54 = .ok (.iadd, 1) := by decide +kernel
theorem dX1_leastWithoutRivals_55 : decode cX1_leastWithoutRivals 55 = .ok (.laload, 1) := by decide +kernel
theorem dX1_leastWithoutRivals_56 : decode cX1_leastWithoutRivals 56 = .ok (.aload_n 0, 1) := by decide +kernel
theorem dX1_leastWithoutRivals_57 : decode cX1_leastWithoutRivals 57 = .ok (.getfield 52, 3) := by decide +kernel
theorem dX1_leastWithoutRivals_60 : decode cX1_leastWithoutRivals 60 = .ok (.iload 5, 2) := by decide +kernel
theorem dX1_leastWithoutRivals_62 : decode cX1_leastWithoutRivals 62 = .ok (.iload 6, 2) := by decide +kernel
theorem dX1_leastWithoutRivals_64 : decode cX1_leastWithoutRivals 64 = .ok (.iadd, 1) := by decide +kernel
theorem dX1_leastWithoutRivals_65 : decode cX1_leastWithoutRivals 65 = .ok (.laload, 1) := by decide +kernel
theorem dX1_leastWithoutRivals_66 : decode cX1_leastWithoutRivals 66 = .ok (.lcmp, 1) := by decide +kernel
theorem dX1_leastWithoutRivals_67 : decode cX1_leastWithoutRivals 67 = .ok (.ifCond .ge 7, 3) := by decide +kernel
theorem dX1_leastWithoutRivals_70 : decode cX1_leastWithoutRivals 70 = .ok (.iload 7, 2) := by decide +kernel
theorem dX1_leastWithoutRivals_72 : decode cX1_leastWithoutRivals 72 = .ok (.istore 6, 2) := by decide +kernel
theorem dX1_leastWithoutRivals_74 : decode cX1_leastWithoutRivals 74 = .ok (.iinc 7 1, 3) := by decide +kernel
theorem dX1_leastWithoutRivals_77 : decode cX1_leastWithoutRivals 77 = .ok (.goto (-40), 3) := by decide +kernel
theorem dX1_leastWithoutRivals_80 : decode cX1_leastWithoutRivals 80 = .ok (.lload_n 1, 1) := by decide +kernel
theorem dX1_leastWithoutRivals_81 : decode cX1_leastWithoutRivals 81 = .ok (.aload_n 0, 1) := by decide +kernel
theorem dX1_leastWithoutRivals_82 : decode cX1_leastWithoutRivals 82 = .ok (.getfield 52, 3) := by decide +kernel
theorem dX1_leastWithoutRivals_85 : decode cX1_leastWithoutRivals 85 = .ok (.iload 5, 2) := by decide +kernel
theorem dX1_leastWithoutRivals_87 : decode cX1_leastWithoutRivals 87 = .ok (.iload 6, 2) := by decide +kernel
theorem dX1_leastWithoutRivals_89 : decode cX1_leastWithoutRivals 89 = .ok (.iadd, 1) := by decide +kernel
theorem dX1_leastWithoutRivals_90 : decode cX1_leastWithoutRivals 90 = .ok (.laload, 1) := by decide +kernel
theorem dX1_leastWithoutRivals_91 : decode cX1_leastWithoutRivals 91 = .ok (.ladd, 1) := by decide +kernel
theorem dX1_leastWithoutRivals_92 : decode cX1_leastWithoutRivals 92 = .ok (.lstore_n 1, 1) := by decide +kernel
theorem dX1_leastWithoutRivals_93 : decode cX1_leastWithoutRivals 93 = .ok (.iload 6, 2) := by decide +kernel
theorem dX1_leastWithoutRivals_95 : decode cX1_leastWithoutRivals 95 = .ok (.aload_n 0, 1) := by decide +kernel
theorem dX1_leastWithoutRivals_96 : decode cX1_leastWithoutRivals 96 = .ok (.getfield 30, 3) := by decide +kernel
theorem dX1_leastWithoutRivals_99 : decode cX1_leastWithoutRivals 99 = .ok (.if_icmp .ge 36, 3) := by decide +kernel
theorem dX1_leastWithoutRivals_102 : decode cX1_leastWithoutRivals 102 = .ok (.aload_n 0, 1) := by decide +kernel
theorem dX1_leastWithoutRivals_103 : decode cX1_leastWithoutRivals 103 = .ok (.aload_n 0, 1) := by decide +kernel
theorem dX1_leastWithoutRivals_104 : decode cX1_leastWithoutRivals 104 = .ok (.getfield 37, 3) := by decide +kernel
theorem dX1_leastWithoutRivals_107 : decode cX1_leastWithoutRivals 107 = .ok (.ifCond .ne 13, 3) := by decide +kernel
theorem dX1_leastWithoutRivals_110 : decode cX1_leastWithoutRivals 110 = .ok (.iload_n 3, 1) := by decide +kernel
theorem dX1_leastWithoutRivals_111 : decode cX1_leastWithoutRivals 111 = .ok (.iload 6, 2) := by decide +kernel
theorem dX1_leastWithoutRivals_113 : decode cX1_leastWithoutRivals 113 = .ok (.ishr, 1) := by decide +kernel
theorem dX1_leastWithoutRivals_114 : decode cX1_leastWithoutRivals 114 = .ok (.iconst 1, 1) := by decide +kernel
theorem dX1_leastWithoutRivals_115 : decode cX1_leastWithoutRivals 115 = .ok (.iand, 1) := by decide +kernel
theorem dX1_leastWithoutRivals_116 : decode cX1_leastWithoutRivals 116 = .ok (.iconst 1, 1) := by decide +kernel
theorem dX1_leastWithoutRivals_117 : decode cX1_leastWithoutRivals 117 = .ok (.if_icmp .ne 7, 3) := by decide +kernel
theorem dX1_leastWithoutRivals_120 : decode cX1_leastWithoutRivals 120 = .ok (.iconst 1, 1) := by decide +kernel
theorem dX1_leastWithoutRivals_121 : decode cX1_leastWithoutRivals 121 = .ok (.goto 4, 3) := by decide +kernel
theorem dX1_leastWithoutRivals_124 : decode cX1_leastWithoutRivals 124 = .ok (.iconst 0, 1) := by decide +kernel
theorem dX1_leastWithoutRivals_125 : decode cX1_leastWithoutRivals 125 = .ok (.putfield 37, 3) := by decide +kernel
theorem dX1_leastWithoutRivals_128 : decode cX1_leastWithoutRivals 128 = .ok (.iload_n 3, 1) := by decide +kernel
theorem dX1_leastWithoutRivals_129 : decode cX1_leastWithoutRivals 129 = .ok (.iconst 1, 1) := by decide +kernel
theorem dX1_leastWithoutRivals_130 : decode cX1_leastWithoutRivals 130 = .ok (.iload 6, 2) := by decide +kernel
theorem dX1_leastWithoutRivals_132 : decode cX1_leastWithoutRivals 132 = .ok (.ishl, 1) := by decide +kernel
theorem dX1_leastWithoutRivals_133 : decode cX1_leastWithoutRivals 133 = .ok (.ior, 1) := by decide +kernel
theorem dX1_leastWithoutRivals_134 : decode cX1_leastWithoutRivals 134 = .ok (.istore_n 3, 1) := by decide +kernel
theorem dX1_leastWithoutRivals_135 : decode cX1_leastWithoutRivals 135 = .ok (.iinc 4 1, 3) := by decide +kernel
theorem dX1_leastWithoutRivals_138 : decode cX1_leastWithoutRivals 138 = .ok (.goto (-126), 3) := by decide +kernel
theorem dX1_leastWithoutRivals_141 : decode cX1_leastWithoutRivals 141 = .ok (.lload_n 1, 1) := by decide +kernel
theorem dX1_leastWithoutRivals_142 : decode cX1_leastWithoutRivals 142 = .ok (.lreturn, 1) := by decide +kernel
theorem dX1_clearPrices_0 : decode cX1_clearPrices 0 = .ok (.iconst 0, 1) := by decide +kernel
theorem dX1_clearPrices_1 : decode cX1_clearPrices 1 = .ok (.istore_n 1, 1) := by decide +kernel
theorem dX1_clearPrices_2 : decode cX1_clearPrices 2 = .ok (.iload_n 1, 1) := by decide +kernel
theorem dX1_clearPrices_3 : decode cX1_clearPrices 3 = .ok (.aload_n 0, 1) := by decide +kernel
theorem dX1_clearPrices_4 : decode cX1_clearPrices 4 = .ok (.getfield 27, 3) := by decide +kernel
theorem dX1_clearPrices_7 : decode cX1_clearPrices 7 = .ok (.if_icmp .ge 16, 3) := by decide +kernel
theorem dX1_clearPrices_10 : decode cX1_clearPrices 10 = .ok (.aload_n 0, 1) := by decide +kernel
theorem dX1_clearPrices_11 : decode cX1_clearPrices 11 = .ok (.getfield 55, 3) := by decide +kernel
theorem dX1_clearPrices_14 : decode cX1_clearPrices 14 = .ok (.iload_n 1, 1) := by decide +kernel
theorem dX1_clearPrices_15 : decode cX1_clearPrices 15 = .ok (.lconst 0, 1) := by decide +kernel
theorem dX1_clearPrices_16 : decode cX1_clearPrices 16 = .ok (.lastore, 1) := by decide +kernel
theorem dX1_clearPrices_17 : decode cX1_clearPrices 17 = .ok (.iinc 1 1, 3) := by decide +kernel
theorem dX1_clearPrices_20 : decode cX1_clearPrices 20 = .ok (.goto (-18), 3) := by decide +kernel
theorem dX1_clearPrices_23 : decode cX1_clearPrices 23 = .ok (.iconst 0, 1) := by decide +kernel
theorem dX1_clearPrices_24 : decode cX1_clearPrices 24 = .ok (.istore_n 1, 1) := by decide +kernel
theorem dX1_clearPrices_25 : decode cX1_clearPrices 25 = .ok (.iload_n 1, 1) := by decide +kernel
theorem dX1_clearPrices_26 : decode cX1_clearPrices 26 = .ok (.aload_n 0, 1) := by decide +kernel
theorem dX1_clearPrices_27 : decode cX1_clearPrices 27 = .ok (.getfield 30, 3) := by decide +kernel
theorem dX1_clearPrices_30 : decode cX1_clearPrices 30 = .ok (.if_icmp .gt 23, 3) := by decide +kernel
theorem dX1_clearPrices_33 : decode cX1_clearPrices 33 = .ok (.aload_n 0, 1) := by decide +kernel
theorem dX1_clearPrices_34 : decode cX1_clearPrices 34 = .ok (.getfield 58, 3) := by decide +kernel
theorem dX1_clearPrices_37 : decode cX1_clearPrices 37 = .ok (.iload_n 1, 1) := by decide +kernel
theorem dX1_clearPrices_38 : decode cX1_clearPrices 38 = .ok (.lconst 0, 1) := by decide +kernel
theorem dX1_clearPrices_39 : decode cX1_clearPrices 39 = .ok (.lastore, 1) := by decide +kernel
theorem dX1_clearPrices_40 : decode cX1_clearPrices 40 = .ok (.aload_n 0, 1) := by decide +kernel
theorem dX1_clearPrices_41 : decode cX1_clearPrices 41 = .ok (.getfield 61, 3) := by decide +kernel
theorem dX1_clearPrices_44 : decode cX1_clearPrices 44 = .ok (.iload_n 1, 1) := by decide +kernel
theorem dX1_clearPrices_45 : decode cX1_clearPrices 45 = .ok (.iconst (-1), 1) := by decide +kernel
theorem dX1_clearPrices_46 : decode cX1_clearPrices 46 = .ok (.iastore, 1) := by decide +kernel
theorem dX1_clearPrices_47 : decode cX1_clearPrices 47 = .ok (.iinc 1 1, 3) := by decide +kernel
theorem dX1_clearPrices_50 : decode cX1_clearPrices 50 = .ok (.goto (-25), 3) := by decide +kernel
theorem dX1_clearPrices_53 : decode cX1_clearPrices 53 = .ok (.return_, 1) := by decide +kernel
theorem dX1_insert_0 : decode cX1_insert 0 = .ok (.iconst 0, 1) := by decide +kernel
theorem dX1_insert_1 : decode cX1_insert 1 = .ok (.istore_n 2, 1) := by decide +kernel
theorem dX1_insert_2 : decode cX1_insert 2 = .ok (.iload_n 2, 1) := by decide +kernel
theorem dX1_insert_3 : decode cX1_insert 3 = .ok (.aload_n 0, 1) := by decide +kernel
theorem dX1_insert_4 : decode cX1_insert 4 = .ok (.getfield 30, 3) := by decide +kernel
theorem dX1_insert_7 : decode cX1_insert 7 = .ok (.if_icmp .gt 25, 3) := by decide +kernel
theorem dX1_insert_10 : decode cX1_insert 10 = .ok (.aload_n 0, 1) := by decide +kernel
theorem dX1_insert_11 : decode cX1_insert 11 = .ok (.getfield 64, 3) := by decide +kernel
theorem dX1_insert_14 : decode cX1_insert 14 = .ok (.iload_n 2, 1) := by decide +kernel
theorem dX1_insert_15 : decode cX1_insert 15 = .ok (.ldc2_w 89, 3) := by decide +kernel
theorem dX1_insert_18 : decode cX1_insert 18 = .ok (.lastore, 1) := by decide +kernel
theorem dX1_insert_19 : decode cX1_insert 19 = .ok (.aload_n 0, 1) := by decide +kernel
theorem dX1_insert_20 : decode cX1_insert 20 = .ok (.getfield 70, 3) := by decide +kernel
theorem dX1_insert_23 : decode cX1_insert 23 = .ok (.iload_n 2, 1) := by decide +kernel
theorem dX1_insert_24 : decode cX1_insert 24 = .ok (.iconst 0, 1) := by decide +kernel
theorem dX1_insert_25 : decode cX1_insert 25 = .ok (.bastore, 1) := by decide +kernel
theorem dX1_insert_26 : decode cX1_insert 26 = .ok (.iinc 2 1, 3) := by decide +kernel
theorem dX1_insert_29 : decode cX1_insert 29 = .ok (.goto (-27), 3) := by decide +kernel
theorem dX1_insert_32 : decode cX1_insert 32 = .ok (.lconst 0, 1) := by decide +kernel
theorem dX1_insert_33 : decode cX1_insert 33 = .ok (.lstore_n 2, 1) := by decide +kernel
theorem dX1_insert_34 : decode cX1_insert 34 = .ok (.iconst (-1), 1) := by decide +kernel
theorem dX1_insert_35 : decode cX1_insert 35 = .ok (.istore 4, 2) := by decide +kernel
theorem dX1_insert_37 : decode cX1_insert 37 = .ok (.iload_n 1, 1) := by decide +kernel
theorem dX1_insert_38 : decode cX1_insert 38 = .ok (.istore 5, 2) := by decide +kernel
theorem dX1_insert_40 : decode cX1_insert 40 = .ok (.iconst 0, 1) := by decide +kernel
theorem dX1_insert_41 : decode cX1_insert 41 = .ok (.istore 6, 2) := by decide +kernel
theorem dX1_insert_43 : decode cX1_insert 43 = .ok (.iload 6, 2) := by decide +kernel
theorem dX1_insert_45 : decode cX1_insert 45 = .ok (.aload_n 0, 1) := by decide +kernel
theorem dX1_insert_46 : decode cX1_insert 46 = .ok (.getfield 30, 3) := by decide +kernel
theorem dX1_insert_49 : decode cX1_insert 49 = .ok (.if_icmp .gt 82, 3) := by decide +kernel
theorem dX1_insert_52 : decode cX1_insert 52 = .ok (.aload_n 0, 1) := by decide +kernel
theorem dX1_insert_53 : decode cX1_insert 53 = .ok (.iload 5, 2) := by decide +kernel
theorem dX1_insert_55 : decode cX1_insert 55 = .ok (.iload 4, 2) := by decide +kernel
theorem dX1_insert_57 : decode cX1_insert 57 = .ok (.invokevirtual 144, 3) := by decide +kernel
theorem dX1_insert_60 : decode cX1_insert 60 = .ok (.istore 7, 2) := by decide +kernel
theorem dX1_insert_62 : decode cX1_insert 62 = .ok (.lload_n 2, 1) := by decide +kernel
theorem dX1_insert_63 : decode cX1_insert 63 = .ok (.aload_n 0, 1) := by decide +kernel
theorem dX1_insert_64 : decode cX1_insert 64 = .ok (.getfield 64, 3) := by decide +kernel
theorem dX1_insert_67 : decode cX1_insert 67 = .ok (.iload 7, 2) := by decide +kernel
theorem dX1_insert_69 : decode cX1_insert 69 = .ok (.laload, 1) := by decide +kernel
theorem dX1_insert_70 : decode cX1_insert 70 = .ok (.ladd, 1) := by decide +kernel
theorem dX1_insert_71 : decode cX1_insert 71 = .ok (.lstore_n 2, 1) := by decide +kernel
theorem dX1_insert_72 : decode cX1_insert 72 = .ok (.aload_n 0, 1) := by decide +kernel
theorem dX1_insert_73 : decode cX1_insert 73 = .ok (.iload_n 1, 1) := by decide +kernel
theorem dX1_insert_74 : decode cX1_insert 74 = .ok (.aload_n 0, 1) := by decide +kernel
theorem dX1_insert_75 : decode cX1_insert 75 = .ok (.getfield 64, 3) := by decide +kernel
theorem dX1_insert_78 : decode cX1_insert 78 = .ok (.iload 7, 2) := by decide +kernel
theorem dX1_insert_80 : decode cX1_insert 80 = .ok (.laload, 1) := by decide +kernel
theorem dX1_insert_81 : decode cX1_insert 81 = .ok (.invokevirtual 147, 3) := by decide +kernel
theorem dX1_insert_84 : decode cX1_insert 84 = .ok (.aload_n 0, 1) := by decide +kernel
theorem dX1_insert_85 : decode cX1_insert 85 = .ok (.getfield 61, 3) := by decide +kernel
theorem dX1_insert_88 : decode cX1_insert 88 = .ok (.iload 7, 2) := by decide +kernel
theorem dX1_insert_90 : decode cX1_insert 90 = .ok (.iaload, 1) := by decide +kernel
theorem dX1_insert_91 : decode cX1_insert 91 = .ok (.iconst (-1), 1) := by decide +kernel
theorem dX1_insert_92 : decode cX1_insert 92 = .ok (.if_icmp .ne 12, 3) := by decide +kernel
theorem dX1_insert_95 : decode cX1_insert 95 = .ok (.aload_n 0, 1) := by decide +kernel
theorem dX1_insert_96 : decode cX1_insert 96 = .ok (.iload_n 1, 1) := by decide +kernel
theorem dX1_insert_97 : decode cX1_insert 97 = .ok (.iload 7, 2) := by decide +kernel
theorem dX1_insert_99 : decode cX1_insert 99 = .ok (.invokevirtual 151, 3) := by decide +kernel
theorem dX1_insert_102 : decode cX1_insert 102 = .ok (.lload_n 2, 1) := by decide +kernel
theorem dX1_insert_103 : decode cX1_insert 103 = .ok (.lreturn, 1) := by decide +kernel
theorem dX1_insert_104 : decode cX1_insert 104 = .ok (.aload_n 0, 1) := by decide +kernel
theorem dX1_insert_105 : decode cX1_insert 105 = .ok (.getfield 70, 3) := by decide +kernel
theorem dX1_insert_108 : decode cX1_insert 108 = .ok (.iload 7, 2) := by decide +kernel
theorem dX1_insert_110 : decode cX1_insert 110 = .ok (.iconst 1, 1) := by decide +kernel
theorem dX1_insert_111 : decode cX1_insert 111 = .ok (.bastore, 1) := by decide +kernel
theorem dX1_insert_112 : decode cX1_insert 112 = .ok (.iload 7, 2) := by decide +kernel
theorem dX1_insert_114 : decode cX1_insert 114 = .ok (.istore 4, 2) := by decide +kernel
theorem dX1_insert_116 : decode cX1_insert 116 = .ok (.aload_n 0, 1) := by decide +kernel
theorem dX1_insert_117 : decode cX1_insert 117 = .ok (.getfield 61, 3) := by decide +kernel
theorem dX1_insert_120 : decode cX1_insert 120 = .ok (.iload 7, 2) := by decide +kernel
theorem dX1_insert_122 : decode cX1_insert 122 = .ok (.iaload, 1) := by decide +kernel
theorem dX1_insert_123 : decode cX1_insert 123 = .ok (.istore 5, 2) := by decide +kernel
theorem dX1_insert_125 : decode cX1_insert 125 = .ok (.iinc 6 1, 3) := by decide +kernel
theorem dX1_insert_128 : decode cX1_insert 128 = .ok (.goto (-85), 3) := by decide +kernel
theorem dX1_insert_131 : decode cX1_insert 131 = .ok (.lload_n 2, 1) := by decide +kernel
theorem dX1_insert_132 : decode cX1_insert 132 = .ok (.lreturn, 1) := by decide +kernel
theorem dX1_reach_0 : decode cX1_reach 0 = .ok (.aload_n 0, 1) := by decide +kernel
theorem dX1_reach_1 : decode cX1_reach 1 = .ok (.getfield 30, 3) := by decide +kernel
theorem dX1_reach_4 : decode cX1_reach 4 = .ok (.istore_n 3, 1) := by decide +kernel
theorem dX1_reach_5 : decode cX1_reach 5 = .ok (.aload_n 0, 1) := by decide +kernel
theorem dX1_reach_6 : decode cX1_reach 6 = .ok (.getfield 30, 3) := by decide +kernel
theorem dX1_reach_9 : decode cX1_reach 9 = .ok (.istore 4, 2) := by decide +kernel
theorem dX1_reach_11 : decode cX1_reach 11 = .ok (.iload 4, 2) := by decide +kernel
theorem dX1_reach_13 : decode cX1_reach 13 = .ok (.ifCond .lt 98, 3) := by decide +kernel
theorem dX1_reach_16 : decode cX1_reach 16 = .ok (.aload_n 0, 1) := by decide +kernel
theorem dX1_reach_17 : decode cX1_reach 17 = .ok (.getfield 70, 3) := by decide +kernel
theorem dX1_reach_20 : decode cX1_reach 20 = .ok (.iload 4, 2) := by decide +kernel
theorem dX1_reach_22 : decode cX1_reach 22 = .ok (.baload, 1) := by decide +kernel
theorem dX1_reach_23 : decode cX1_reach 23 = .ok (.ifCond .ne 82, 3) := by decide +kernel
theorem dX1_reach_26 : decode cX1_reach 26 = .ok (.aload_n 0, 1) := by decide +kernel
theorem dX1_reach_27 : decode cX1_reach 27 = .ok (.getfield 52, 3) := by decide +kernel
theorem dX1_reach_30 : decode cX1_reach 30 = .ok (.iload_n 1, 1) := by decide +kernel
theorem dX1_reach_31 : decode cX1_reach 31 = .ok (.bipush 17, 2) := by decide +kernel
theorem dX1_reach_33 : decode cX1_reach 33 = .ok (.imul, 1) := by decide +kernel
theorem dX1_reach_34 : decode cX1_reach 34 = .ok (.iload 4, 2) := by decide +kernel
theorem dX1_reach_36 : decode cX1_reach 36 = .ok (.iadd, 1) := by decide +kernel
theorem dX1_reach_37 : decode cX1_reach 37 = .ok (.laload, 1) := by decide +kernel
theorem dX1_reach_38 : decode cX1_reach 38 = .ok (.aload_n 0, 1) := by decide +kernel
theorem dX1_reach_39 : decode cX1_reach 39 = .ok (.getfield 55, 3) := by decide +kernel
theorem dX1_reach_42 : decode cX1_reach 42 = .ok (.iload_n 1, 1) := by decide +kernel
theorem dX1_reach_43 : decode cX1_reach 43 = .ok (.laload, 1) := by decide +kernel
theorem dX1_reach_44 : decode cX1_reach 44 = .ok (.lsub, 1) := by decide +kernel
theorem dX1_reach_45 : decode cX1_reach 45 = .ok (.aload_n 0, 1) := by decide +kernel
theorem dX1_reach_46 : decode cX1_reach 46 = .ok (.getfield 58, 3) := by decide +kernel
theorem dX1_reach_49 : decode cX1_reach 49 = .ok (.iload 4, 2) := by decide +kernel
theorem dX1_reach_51 : decode cX1_reach 51 = .ok (.laload, 1) := by decide +kernel
theorem dX1_reach_52 : decode cX1_reach 52 = .ok (.lsub, 1) := by decide +kernel
theorem dX1_reach_53 : decode cX1_reach 53 = .ok (.lstore 5, 2) := by decide +kernel
theorem dX1_reach_55 : decode cX1_reach 55 = .ok (.lload 5, 2) := by decide +kernel
theorem dX1_reach_57 : decode cX1_reach 57 = .ok (.aload_n 0, 1) := by decide +kernel
theorem dX1_reach_58 : decode cX1_reach 58 = .ok (.getfield 64, 3) := by decide +kernel
theorem dX1_reach_61 : decode cX1_reach 61 = .ok (.iload 4, 2) := by decide +kernel
theorem dX1_reach_63 : decode cX1_reach 63 = .ok (.laload, 1) := by decide +kernel
theorem dX1_reach_64 : decode cX1_reach 64 = .ok (.lcmp, 1) := by decide +kernel
theorem dX1_reach_65 : decode cX1_reach 65 = .ok (.ifCond .ge 20, 3) := by decide +kernel
theorem dX1_reach_68 : decode cX1_reach 68 = .ok (.aload_n 0, 1) := by decide +kernel
theorem dX1_reach_69 : decode cX1_reach 69 = .ok (.getfield 64, 3) := by decide +kernel
theorem dX1_reach_72 : decode cX1_reach 72 = .ok (.iload 4, 2) := by decide +kernel
theorem dX1_reach_74 : decode cX1_reach 74 = .ok (.lload 5, 2) := by decide +kernel
theorem dX1_reach_76 : decode cX1_reach 76 = .ok (.lastore, 1) := by decide +kernel
theorem dX1_reach_77 : decode cX1_reach 77 = .ok (.aload_n 0, 1) := by decide +kernel
theorem dX1_reach_78 : decode cX1_reach 78 = .ok (.getfield 67, 3) := by decide +kernel
theorem dX1_reach_81 : decode cX1_reach 81 = .ok (.iload 4, 2) := by decide +kernel
theorem dX1_reach_83 : decode cX1_reach 83 = .ok (.iload_n 2, 1) := by decide +kernel
theorem dX1_reach_84 : decode cX1_reach 84 = .ok (.iastore, 1) := by decide +kernel
theorem dX1_reach_85 : decode cX1_reach 85 = .ok (.aload_n 0, 1) := by decide +kernel
theorem dX1_reach_86 : decode cX1_reach 86 = .ok (.getfield 64, 3) := by decide +kernel
theorem dX1_reach_89 : decode cX1_reach 89 = .ok (.iload 4, 2) := by decide +kernel
theorem dX1_reach_91 : decode cX1_reach 91 = .ok (.laload, 1) := by decide +kernel
theorem dX1_reach_92 : decode cX1_reach 92 = .ok (.aload_n 0, 1) := by decide +kernel
theorem dX1_reach_93 : decode cX1_reach 93 = .ok (.getfield 64, 3) := by decide +kernel
theorem dX1_reach_96 : decode cX1_reach 96 = .ok (.iload_n 3, 1) := by decide +kernel
theorem dX1_reach_97 : decode cX1_reach 97 = .ok (.laload, 1) := by decide +kernel
theorem dX1_reach_98 : decode cX1_reach 98 = .ok (.lcmp, 1) := by decide +kernel
theorem dX1_reach_99 : decode cX1_reach 99 = .ok (.ifCond .ge 6, 3) := by decide +kernel
theorem dX1_reach_102 : decode cX1_reach 102 = .ok (.iload 4, 2) := by decide +kernel
theorem dX1_reach_104 : decode cX1_reach 104 = .ok (.istore_n 3, 1) := by decide +kernel
theorem dX1_reach_105 : decode cX1_reach 105 = .ok (.iinc 4 (-1), 3) := by decide +kernel
theorem dX1_reach_108 : decode cX1_reach 108 = .ok (.goto (-97), 3) := by decide +kernel
theorem dX1_reach_111 : decode cX1_reach 111 = .ok (.iload_n 3, 1) := by decide +kernel
theorem dX1_reach_112 : decode cX1_reach 112 = .ok (.ireturn, 1) := by decide +kernel
theorem dX1_raisePrices_0 : decode cX1_raisePrices 0 = .ok (.aload_n 0, 1) := by decide +kernel
theorem dX1_raisePrices_1 : decode cX1_raisePrices 1 = .ok (.getfield 55, 3) := by decide +kernel
theorem dX1_raisePrices_4 : decode cX1_raisePrices 4 = .ok (.iload_n 1, 1) := by decide +kernel
theorem dX1_raisePrices_5 : decode cX1_raisePrices 5 = .ok (.dup2, 1) := by decide +kernel
theorem dX1_raisePrices_6 : decode cX1_raisePrices 6 = .ok (.laload, 1) := by decide +kernel
theorem dX1_raisePrices_7 : decode cX1_raisePrices 7 = .ok (.lload_n 2, 1) := by decide +kernel
theorem dX1_raisePrices_8 : decode cX1_raisePrices 8 = .ok (.ladd, 1) := by decide +kernel
theorem dX1_raisePrices_9 : decode cX1_raisePrices 9 = .ok (.lastore, 1) := by decide +kernel
theorem dX1_raisePrices_10 : decode cX1_raisePrices 10 = .ok (.iconst 0, 1) := by decide +kernel
theorem dX1_raisePrices_11 : decode cX1_raisePrices 11 = .ok (.istore 4, 2) := by decide +kernel
theorem dX1_raisePrices_13 : decode cX1_raisePrices 13 = .ok (.iload 4, 2) := by decide +kernel
theorem dX1_raisePrices_15 : decode cX1_raisePrices 15 = .ok (.aload_n 0, 1) := by decide +kernel
theorem dX1_raisePrices_16 : decode cX1_raisePrices 16 = .ok (.getfield 30, 3) := by decide +kernel
theorem dX1_raisePrices_19 : decode cX1_raisePrices 19 = .ok (.if_icmp .gt 71, 3) := by decide +kernel
theorem dX1_raisePrices_22 : decode cX1_raisePrices 22 = .ok (.aload_n 0, 1) := by decide +kernel
theorem dX1_raisePrices_23 : decode cX1_raisePrices 23 = .ok (.getfield 70, 3) := by decide +kernel
theorem dX1_raisePrices_26 : decode cX1_raisePrices 26 = .ok (.iload 4, 2) := by decide +kernel
theorem dX1_raisePrices_28 : decode cX1_raisePrices 28 = .ok (.baload, 1) := by decide +kernel
theorem dX1_raisePrices_29 : decode cX1_raisePrices 29 = .ok (.ifCond .eq 44, 3) := by decide +kernel
theorem dX1_raisePrices_32 : decode cX1_raisePrices 32 = .ok (.aload_n 0, 1) := by decide +kernel
theorem dX1_raisePrices_33 : decode cX1_raisePrices 33 = .ok (.getfield 61, 3) := by decide +kernel
theorem dX1_raisePrices_36 : decode cX1_raisePrices 36 = .ok (.iload 4, 2) := by decide +kernel
theorem dX1_raisePrices_38 : decode cX1_raisePrices 38 = .ok (.iaload, 1) := by decide +kernel
theorem dX1_raisePrices_39 : decode cX1_raisePrices 39 = .ok (.iconst (-1), 1) := by decide +kernel
theorem dX1_raisePrices_40 : decode cX1_raisePrices 40 = .ok (.if_icmp .eq 33, 3) := by decide +kernel
theorem dX1_raisePrices_43 : decode cX1_raisePrices 43 = .ok (.aload_n 0, 1) := by decide +kernel
theorem dX1_raisePrices_44 : decode cX1_raisePrices 44 = .ok (.getfield 55, 3) := by decide +kernel
theorem dX1_raisePrices_47 : decode cX1_raisePrices 47 = .ok (.aload_n 0, 1) := by decide +kernel
theorem dX1_raisePrices_48 : decode cX1_raisePrices 48 = .ok (.getfield 61, 3) := by decide +kernel
theorem dX1_raisePrices_51 : decode cX1_raisePrices 51 = .ok (.iload 4, 2) := by decide +kernel
theorem dX1_raisePrices_53 : decode cX1_raisePrices 53 = .ok (.iaload, 1) := by decide +kernel
theorem dX1_raisePrices_54 : decode cX1_raisePrices 54 = .ok (.dup2, 1) := by decide +kernel
theorem dX1_raisePrices_55 : decode cX1_raisePrices 55 = .ok (.laload, 1) := by decide +kernel
theorem dX1_raisePrices_56 : decode cX1_raisePrices 56 = .ok (.lload_n 2, 1) := by decide +kernel
theorem dX1_raisePrices_57 : decode cX1_raisePrices 57 = .ok (.ladd, 1) := by decide +kernel
theorem dX1_raisePrices_58 : decode cX1_raisePrices 58 = .ok (.lastore, 1) := by decide +kernel
theorem dX1_raisePrices_59 : decode cX1_raisePrices 59 = .ok (.aload_n 0, 1) := by decide +kernel
theorem dX1_raisePrices_60 : decode cX1_raisePrices 60 = .ok (.getfield 58, 3) := by decide +kernel
theorem dX1_raisePrices_63 : decode cX1_raisePrices 63 = .ok (.iload 4, 2) := by decide +kernel
theorem dX1_raisePrices_65 : decode cX1_raisePrices 65 = .ok (.dup2, 1) := by decide +kernel
theorem dX1_raisePrices_66 : decode cX1_raisePrices 66 = .ok (.laload, 1) := by decide +kernel
theorem dX1_raisePrices_67 : decode cX1_raisePrices 67 = .ok (.lload_n 2, 1) := by decide +kernel
theorem dX1_raisePrices_68 : decode cX1_raisePrices 68 = .ok (.lsub, 1) := by decide +kernel
theorem dX1_raisePrices_69 : decode cX1_raisePrices 69 = .ok (.lastore, 1) := by decide +kernel
theorem dX1_raisePrices_70 : decode cX1_raisePrices 70 = .ok (.goto 14, 3) := by decide +kernel
theorem dX1_raisePrices_73 : decode cX1_raisePrices 73 = .ok (.aload_n 0, 1) := by decide +kernel
theorem dX1_raisePrices_74 : decode cX1_raisePrices 74 = .ok (.getfield 64, 3) := by decide +kernel
theorem dX1_raisePrices_77 : decode cX1_raisePrices 77 = .ok (.iload 4, 2) := by decide +kernel
theorem dX1_raisePrices_79 : decode cX1_raisePrices 79 = .ok (.dup2, 1) := by decide +kernel
theorem dX1_raisePrices_80 : decode cX1_raisePrices 80 = .ok (.laload, 1) := by decide +kernel
theorem dX1_raisePrices_81 : decode cX1_raisePrices 81 = .ok (.lload_n 2, 1) := by decide +kernel
theorem dX1_raisePrices_82 : decode cX1_raisePrices 82 = .ok (.lsub, 1) := by decide +kernel
theorem dX1_raisePrices_83 : decode cX1_raisePrices 83 = .ok (.lastore, 1) := by decide +kernel
theorem dX1_raisePrices_84 : decode cX1_raisePrices 84 = .ok (.iinc 4 1, 3) := by decide +kernel
theorem dX1_raisePrices_87 : decode cX1_raisePrices 87 = .ok (.goto (-74), 3) := by decide +kernel
theorem dX1_raisePrices_90 : decode cX1_raisePrices 90 = .ok (.return_, 1) := by decide +kernel
theorem dX1_handOn_0 : decode cX1_handOn 0 = .ok (.iload_n 2, 1) := by decide +kernel
theorem dX1_handOn_1 : decode cX1_handOn 1 = .ok (.istore_n 3, 1) := by decide +kernel
theorem dX1_handOn_2 : decode cX1_handOn 2 = .ok (.iconst 0, 1) := by decide +kernel
theorem dX1_handOn_3 : decode cX1_handOn 3 = .ok (.istore 4, 2) := by decide +kernel
theorem dX1_handOn_5 : decode cX1_handOn 5 = .ok (.iload 4, 2) := by decide +kernel
theorem dX1_handOn_7 : decode cX1_handOn 7 = .ok (.aload_n 0, 1) := by decide +kernel
theorem dX1_handOn_8 : decode cX1_handOn 8 = .ok (.getfield 30, 3) := by decide +kernel
theorem dX1_handOn_11 : decode cX1_handOn 11 = .ok (.if_icmp .gt 56, 3) := by decide +kernel
theorem dX1_handOn_14 : decode cX1_handOn 14 = .ok (.iload_n 3, 1) := by decide +kernel
theorem dX1_handOn_15 : decode cX1_handOn 15 = .ok (.iconst (-1), 1) := by decide +kernel
theorem dX1_handOn_16 : decode cX1_handOn 16 = .ok (.if_icmp .eq 51, 3) := by decide +kernel
theorem dX1_handOn_19 : decode cX1_handOn 19 = .ok (.aload_n 0, 1) := by decide +kernel
theorem dX1_handOn_20 : decode cX1_handOn 20 = .ok (.getfield 67, 3) := by decide +kernel
theorem dX1_handOn_23 : decode cX1_handOn 23 = .ok (.iload_n 3, 1) := by decide +kernel
theorem dX1_handOn_24 : decode cX1_handOn 24 = .ok (.iaload, 1) := by decide +kernel
theorem dX1_handOn_25 : decode cX1_handOn 25 = .ok (.istore 5, 2) := by decide +kernel
theorem dX1_handOn_27 : decode cX1_handOn 27 = .ok (.iload_n 3, 1) := by decide +kernel
theorem dX1_handOn_28 : decode cX1_handOn 28 = .ok (.aload_n 0, 1) := by decide +kernel
theorem dX1_handOn_29 : decode cX1_handOn 29 = .ok (.getfield 30, 3) := by decide +kernel
theorem dX1_handOn_32 : decode cX1_handOn 32 = .ok (.if_icmp .ge 26, 3) := by decide +kernel
theorem dX1_handOn_35 : decode cX1_handOn 35 = .ok (.aload_n 0, 1) := by decide +kernel
theorem dX1_handOn_36 : decode cX1_handOn 36 = .ok (.getfield 61, 3) := by decide +kernel
theorem dX1_handOn_39 : decode cX1_handOn 39 = .ok (.iload_n 3, 1) := by decide +kernel
theorem dX1_handOn_40 : decode cX1_handOn 40 = .ok (.iload 5, 2) := by decide +kernel
theorem dX1_handOn_42 : decode cX1_handOn 42 = .ok (.iconst (-1), 1) := by decide +kernel
theorem dX1_handOn_43 : decode cX1_handOn 43 = .ok (.if_icmp .ne 7, 3) := by decide +kernel
theorem dX1_handOn_46 : decode cX1_handOn 46 = .ok (.iload_n 1, 1) := by decide +kernel
theorem dX1_handOn_47 : decode cX1_handOn 47 = .ok (.goto 10, 3) := by decide +kernel
theorem dX1_handOn_50 : decode cX1_handOn 50 = .ok (.aload_n 0, 1) := by decide +kernel
theorem dX1_handOn_51 : decode cX1_handOn 51 = .ok (.getfield 61, 3) := by decide +kernel
theorem dX1_handOn_54 : decode cX1_handOn 54 = .ok (.iload 5, 2) := by decide +kernel
theorem dX1_handOn_56 : decode cX1_handOn 56 = .ok (.iaload, 1) := by decide +kernel
theorem dX1_handOn_57 : decode cX1_handOn 57 = .ok (.iastore, 1) := by decide +kernel
theorem dX1_handOn_58 : decode cX1_handOn 58 = .ok (.iload 5, 2) := by decide +kernel
theorem dX1_handOn_60 : decode cX1_handOn 60 = .ok (.istore_n 3, 1) := by decide +kernel
theorem dX1_handOn_61 : decode cX1_handOn 61 = .ok (.iinc 4 1, 3) := by decide +kernel
theorem dX1_handOn_64 : decode cX1_handOn 64 = .ok (.goto (-59), 3) := by decide +kernel
theorem dX1_handOn_67 : decode cX1_handOn 67 = .ok (.return_, 1) := by decide +kernel
theorem dX2_init_0 : decode cX2_init 0 = .ok (.aload_n 0, 1) := by decide +kernel
theorem dX2_init_1 : decode cX2_init 1 = .ok (.invokespecial 3, 3) := by decide +kernel
theorem dX2_init_4 : decode cX2_init 4 = .ok (.aload_n 0, 1) := by decide +kernel
theorem dX2_init_5 : decode cX2_init 5 = .ok (.bipush 100, 2) := by decide +kernel
theorem dX2_init_7 : decode cX2_init 7 = .ok (.newarray .int, 2) := by decide +kernel
theorem dX2_init_9 : decode cX2_init 9 = .ok (.putfield 9, 3) := by decide +kernel
theorem dX2_init_12 : decode cX2_init 12 = .ok (.aload_n 0, 1) := by decide +kernel
theorem dX2_init_13 : decode cX2_init 13 = .ok (.bipush 16, 2) := by decide +kernel
theorem dX2_init_15 : decode cX2_init 15 = .ok (.newarray .int, 2) := by decide +kernel
theorem dX2_init_17 : decode cX2_init 17 = .ok (.putfield 15, 3) := by decide +kernel
theorem dX2_init_20 : decode cX2_init 20 = .ok (.aload_n 0, 1) := by decide +kernel
theorem dX2_init_21 : decode cX2_init 21 = .ok (.bipush 16, 2) := by decide +kernel
theorem dX2_init_23 : decode cX2_init 23 = .ok (.newarray .int, 2) := by decide +kernel
theorem dX2_init_25 : decode cX2_init 25 = .ok (.putfield 18, 3) := by decide +kernel
theorem dX2_init_28 : decode cX2_init 28 = .ok (.return_, 1) := by decide +kernel
theorem dX2_make_0 : decode cX2_make 0 = .ok (.aload_n 1, 1) := by decide +kernel
theorem dX2_make_1 : decode cX2_make 1 = .ok (.invokevirtual 21, 3) := by decide +kernel
theorem dX2_make_4 : decode cX2_make 4 = .ok (.aload_n 0, 1) := by decide +kernel
theorem dX2_make_5 : decode cX2_make 5 = .ok (.aload_n 1, 1) := by decide +kernel
theorem dX2_make_6 : decode cX2_make 6 = .ok (.iload_n 2, 1) := by decide +kernel
theorem dX2_make_7 : decode cX2_make 7 = .ok (.aload_n 3, 1) := by decide +kernel
theorem dX2_make_8 : decode cX2_make 8 = .ok (.aload 4, 2) := by decide +kernel
theorem dX2_make_10 : decode cX2_make 10 = .ok (.invokevirtual 26, 3) := by decide +kernel
theorem dX2_make_13 : decode cX2_make 13 = .ok (.iconst 1, 1) := by decide +kernel
theorem dX2_make_14 : decode cX2_make 14 = .ok (.istore 5, 2) := by decide +kernel
theorem dX2_make_16 : decode cX2_make 16 = .ok (.iload 5, 2) := by decide +kernel
theorem dX2_make_18 : decode cX2_make 18 = .ok (.bipush 99, 2) := by decide +kernel
theorem dX2_make_20 : decode cX2_make 20 = .ok (.if_icmp .gt 88, 3) := by decide +kernel
theorem dX2_make_23 : decode cX2_make 23 = .ok (.aload_n 0, 1) := by decide +kernel
theorem dX2_make_24 : decode cX2_make 24 = .ok (.getfield 9, 3) := by decide +kernel
theorem dX2_make_27 : decode cX2_make 27 = .ok (.iload 5, 2) := by decide +kernel
theorem dX2_make_29 : decode cX2_make 29 = .ok (.iaload, 1) := by decide +kernel
theorem dX2_make_30 : decode cX2_make 30 = .ok (.ifCond .le 72, 3) := by decide +kernel
theorem dX2_make_33 : decode cX2_make 33 = .ok (.iconst 2, 1) := by decide +kernel
theorem dX2_make_34 : decode cX2_make 34 = .ok (.aload_n 0, 1) := by decide +kernel
theorem dX2_make_35 : decode cX2_make 35 = .ok (.getfield 9, 3) := by decide +kernel
theorem dX2_make_38 : decode cX2_make 38 = .ok (.iload 5, 2) := by decide +kernel
theorem dX2_make_40 : decode cX2_make 40 = .ok (.iaload, 1) := by decide +kernel
theorem dX2_make_41 : decode cX2_make 41 = .ok (.imul, 1) := by decide +kernel
theorem dX2_make_42 : decode cX2_make 42 = .ok (.aload_n 1, 1) := by decide +kernel
theorem dX2_make_43 : decode cX2_make 43 = .ok (.getfield 30, 3) := by decide +kernel
theorem dX2_make_46 : decode cX2_make 46 = .ok (.if_icmp .lt 56, 3) := by decide +kernel
theorem dX2_make_49 : decode cX2_make 49 = .ok (.aload_n 0, 1) := by decide +kernel
theorem dX2_make_50 : decode cX2_make 50 = .ok (.iload 5, 2) := by decide +kernel
theorem dX2_make_52 : decode cX2_make 52 = .ok (.iload_n 2, 1) := by decide +kernel
theorem dX2_make_53 : decode cX2_make 53 = .ok (.aload_n 3, 1) := by decide +kernel
theorem dX2_make_54 : decode cX2_make 54 = .ok (.aload 4, 2) := by decide +kernel
theorem dX2_make_56 : decode cX2_make 56 = .ok (.invokevirtual 34, 3) := by decide +kernel
theorem dX2_make_59 : decode cX2_make 59 = .ok (.istore 6, 2) := by decide +kernel
theorem dX2_make_61 : decode cX2_make 61 = .ok (.aload_n 1, 1) := by decide +kernel
theorem dX2_make_62 : decode cX2_make 62 = .ok (.getfield 38, 3) := by decide +kernel
theorem dX2_make_65 : decode cX2_make 65 = .ok (.iload 5, 2) := by decide +kernel
theorem dX2_make_67 : decode cX2_make 67 = .ok (.aload_n 0, 1) := by decide +kernel
theorem dX2_make_68 : decode cX2_make 68 = .ok (.getfield 15, 3) := by decide +kernel
theorem dX2_make_71 : decode cX2_make 71 = .ok (.iload 6, 2) := by decide +kernel
theorem dX2_make_73 : decode cX2_make 73 = .ok (.invokestatic 42, 3) := by decide +kernel
theorem dX2_make_76 : decode cX2_make 76 = .ok (.aload_n 0, 1) := by decide +kernel
theorem dX2_make_77 : decode cX2_make 77 = .ok (.getfield 18, 3) := by decide +kernel
theorem dX2_make_80 : decode cX2_make 80 = .ok (.iload 6, 2) := by decide +kernel
theorem dX2_make_82 : decode cX2_make 82 = .ok (.invokestatic 42, 3) := by decide +kernel
theorem dX2_make_85 : decode cX2_make 85 = .ok (.iload 6, 2) := by decide +kernel
theorem dX2_make_87 : decode cX2_make 87 = .ok (.aload_n 1, 1) := by decide +kernel
theorem dX2_make_88 : decode cX2_make 88 = .ok (.getfield 30, 3) := by decide +kernel
theorem dX2_make_91 : decode cX2_make 91 = .ok (.if_icmp .ne 7, 3) := by decide +kernel
theorem dX2_make_94 : decode cX2_make 94 = .ok (.iconst 1, 1) := by decide +kernel
theorem dX2_make_95 : decode cX2_make 95 = .ok (.goto 4, 3) := by decide +kernel
theorem dX2_make_98 : decode cX2_make 98 = .ok (.iconst 0, 1) := by decide +kernel
theorem dX2_make_99 : decode cX2_make 99 = .ok (.invokevirtual 46, 3) := by decide +kernel
theorem dX2_make_102 : decode cX2_make 102 = .ok (.iinc 5 1, 3) := by decide +kernel
theorem dX2_make_105 : decode cX2_make 105 = .ok (.goto (-89), 3) := by decide +kernel
theorem dX2_make_108 : decode cX2_make 108 = .ok (.return_, 1) := by decide +kernel
theorem dX2_countCarriers_0 : decode cX2_countCarriers 0 = .ok (.iconst 0, 1) := by decide +kernel
theorem dX2_countCarriers_1 : decode cX2_countCarriers 1 = .ok (.istore 5, 2) := by decide +kernel
theorem dX2_countCarriers_3 : decode cX2_countCarriers 3 = .ok (.iload 5, 2) := by decide +kernel
theorem dX2_countCarriers_5 : decode cX2_countCarriers 5 = .ok (.bipush 99, 2) := by decide +kernel
theorem dX2_countCarriers_7 : decode cX2_countCarriers 7 = .ok (.if_icmp .gt 17, 3) := by decide +kernel
theorem dX2_countCarriers_10 : decode cX2_countCarriers 10 = .ok (.aload_n 0, 1) := by decide +kernel
theorem dX2_countCarriers_11 : decode cX2_countCarriers 11 = .ok (.getfield 9, 3) := by decide +kernel
theorem dX2_countCarriers_14 : decode cX2_countCarriers 14 = .ok (.iload 5, 2) := by decide +kernel
theorem dX2_countCarriers_16 : decode cX2_countCarriers 16 = .ok (.iconst 0, 1) := by decide +kernel
theorem dX2_countCarriers_17 : decode cX2_countCarriers 17 = .ok (.iastore, 1) := by decide +kernel
theorem dX2_countCarriers_18 : decode cX2_countCarriers 18 = .ok (.iinc 5 1, 3) := by decide +kernel
theorem dX2_countCarriers_21 : decode cX2_countCarriers 21 = .ok (.goto (-18), 3) := by decide +kernel
theorem dX2_countCarriers_24 : decode cX2_countCarriers 24 = .ok (.iconst 0, 1) := by decide +kernel
theorem dX2_countCarriers_25 : decode cX2_countCarriers 25 = .ok (.istore 5, 2) := by decide +kernel
theorem dX2_countCarriers_27 : decode cX2_countCarriers 27 = .ok (.iload 5, 2) := by decide +kernel
theorem dX2_countCarriers_29 : decode cX2_countCarriers 29 = .ok (.bipush 16, 2) := by decide +kernel
theorem dX2_countCarriers_31 : decode cX2_countCarriers 31 = .ok (.if_icmp .ge 68, 3) := by decide +kernel
theorem dX2_countCarriers_34 : decode cX2_countCarriers 34 = .ok (.aload 4, 2) := by decide +kernel
theorem dX2_countCarriers_36 : decode cX2_countCarriers 36 = .ok (.iload 5, 2) := by decide +kernel
theorem dX2_countCarriers_38 : decode cX2_countCarriers 38 = .ok (.iaload, 1) := by decide +kernel
theorem dX2_countCarriers_39 : decode cX2_countCarriers 39 = .ok (.iload_n 2, 1) := by decide +kernel
theorem dX2_countCarriers_40 : decode cX2_countCarriers 40 = .ok (.if_icmp .ne 53, 3) := by decide +kernel
theorem dX2_countCarriers_43 : decode cX2_countCarriers 43 = .ok (.aload_n 1, 1) := by decide +kernel
theorem dX2_countCarriers_44 : decode cX2_countCarriers 44 = .ok (.dup, 1) := by decide +kernel
theorem dX2_countCarriers_45 : decode cX2_countCarriers 45 = .ok (.getfield 30, 3) := by decide +kernel
theorem dX2_countCarriers_48 : decode cX2_countCarriers 48 = .ok (.iconst 1, 1) := by decide +kernel
theorem dX2_countCarriers_49 : decode cX2_countCarriers 49 = .ok (.iadd, 1) := by decide +kernel
theorem dX2_countCarriers_50 : decode cX2_countCarriers 50 = .ok (.putfield 30, 3) := by decide +kernel
theorem dX2_countCarriers_53 : decode cX2_countCarriers 53 = .ok (.iconst 0, 1) := by decide +kernel
theorem dX2_countCarriers_54 : decode cX2_countCarriers 54 = .ok (.istore 6, 2) := by decide +kernel
theorem dX2_countCarriers_56 : decode cX2_countCarriers 56 = .ok (.iload 6, 2) := by decide +kernel
theorem dX2_countCarriers_58 : decode cX2_countCarriers 58 = .ok (.aload_n 3, 1) := by decide +kernel
theorem dX2_countCarriers_59 : decode cX2_countCarriers 59 = .ok (.iload 5, 2) := by decide +kernel
theorem dX2_countCarriers_61 : decode cX2_countCarriers 61 = .ok (.aaload, 1) := by decide +kernel
theorem dX2_countCarriers_62 : decode cX2_countCarriers 62 = .ok (.getfield 52, 3) := by decide +kernel
theorem dX2_countCarriers_65 : decode cX2_countCarriers 65 = .ok (.if_icmp .ge 28, 3) := by decide +kernel
theorem dX2_countCarriers_68 : decode cX2_countCarriers 68 = .ok (.aload_n 0, 1) := by decide +kernel
theorem dX2_countCarriers_69 : decode cX2_countCarriers 69 = .ok (.getfield 9, 3) := by decide +kernel
theorem dX2_countCarriers_72 : decode cX2_countCarriers 72 = .ok (.aload_n 3, 1) := by decide +kernel
theorem dX2_countCarriers_73 : decode cX2_countCarriers 73 = .ok (.iload 5, 2) := by decide +kernel
theorem dX2_countCarriers_75 : decode cX2_countCarriers 75 = .ok (.aaload, 1) := by decide +kernel
theorem dX2_countCarriers_76 : decode cX2_countCarriers 76 = .ok (.getfield 55, 3) := by decide +kernel
theorem dX2_countCarriers_79 : decode cX2_countCarriers 79 = .ok (.iload 6, 2) := by decide +kernel
theorem dX2_countCarriers_81 : decode cX2_countCarriers 81 = .ok (.iaload, 1) := by decide +kernel
theorem dX2_countCarriers_82 : decode cX2_countCarriers 82 = .ok (.dup2, 1) := by decide +kernel
theorem dX2_countCarriers_83 : decode cX2_countCarriers 83 = .ok (.iaload, 1) := by decide +kernel
theorem dX2_countCarriers_84 : decode cX2_countCarriers 84 = .ok (.iconst 1, 1) := by decide +kernel
theorem dX2_countCarriers_85 : decode cX2_countCarriers 85 = .ok (.iadd, 1) := by decide +kernel
theorem dX2_countCarriers_86 : decode cX2_countCarriers 86 = .ok (.iastore, 1) := by decide +kernel
theorem dX2_countCarriers_87 : decode cX2_countCarriers 87 = .ok (.iinc 6 1, 3) := by decide +kernel
theorem dX2_countCarriers_90 : decode cX2_countCarriers 90 = .ok (.goto (-34), 3) := by decide +kernel
theorem dX2_countCarriers_93 : decode cX2_countCarriers 93 = .ok (.iinc 5 1, 3) := by decide +kernel
theorem dX2_countCarriers_96 : decode cX2_countCarriers 96 = .ok (.goto (-69), 3) := by decide +kernel
theorem dX2_countCarriers_99 : decode cX2_countCarriers 99 = .ok (.return_, 1) := by decide +kernel
theorem dX2_gather_0 : decode cX2_gather 0 = .ok (.iconst 0, 1) := by decide +kernel
theorem dX2_gather_1 : decode cX2_gather 1 = .ok (.istore 5, 2) := by decide +kernel
theorem dX2_gather_3 : decode cX2_gather 3 = .ok (.iconst 0, 1) := by decide +kernel
theorem dX2_gather_4 : decode cX2_gather 4 = .ok (.istore 6, 2) := by decide +kernel
theorem dX2_gather_6 : decode cX2_gather 6 = .ok (.iload 6, 2) := by decide +kernel
theorem dX2_gather_8 : decode cX2_gather 8 = .ok (.bipush 16, 2) := by decide +kernel
theorem dX2_gather_10 : decode cX2_gather 10 = .ok (.if_icmp .ge 79, 3) := by decide +kernel
theorem dX2_gather_13 : decode cX2_gather 13 = .ok (.aload 4, 2) := by decide +kernel
theorem dX2_gather_15 : decode cX2_gather 15 = .ok (.iload 6, 2) := by decide +kernel
theorem dX2_gather_17 : decode cX2_gather 17 = .ok (.iaload, 1) := by decide +kernel
theorem dX2_gather_18 : decode cX2_gather 18 = .ok (.iload_n 2, 1) := by decide +kernel
theorem dX2_gather_19 : decode cX2_gather 19 = .ok (.if_icmp .ne 14, 3) := by decide +kernel
theorem dX2_gather_22 : decode cX2_gather 22 = .ok (.aload_n 3, 1) := by decide +kernel
theorem dX2_gather_23 : decode cX2_gather 23 = .ok (.iload 6, 2) := by decide +kernel
theorem dX2_gather_25 : decode cX2_gather 25 = .ok (.aaload, 1) := by decide +kernel
theorem dX2_gather_26 : decode cX2_gather 26 = .ok (.iload_n 1, 1) := by decide +kernel
theorem dX2_gather_27 : decode cX2_gather 27 = .ok (.invokevirtual 58, 3) := by decide +kernel
theorem dX2_gather_30 : decode cX2_gather 30 = .ok (.goto 4, 3) := by decide +kernel
theorem dX2_gather_33 : decode cX2_gather 33 = .ok (.iconst (-1), 1) := by decide +kernel
theorem dX2_gather_34 : decode cX2_gather 34 = .ok (.istore 7, 2) := by decide +kernel
theorem dX2_gather_36 : decode cX2_gather 36 = .ok (.iload 7, 2) := by decide +kernel
theorem dX2_gather_38 : decode cX2_gather 38 = .ok (.iconst (-1), 1) := by decide +kernel
theorem dX2_gather_39 : decode cX2_gather 39 = .ok (.if_icmp .eq 44, 3) := by decide +kernel
theorem dX2_gather_42 : decode cX2_gather 42 = .ok (.aload_n 0, 1) := by decide +kernel
theorem dX2_gather_43 : decode cX2_gather 43 = .ok (.getfield 15, 3) := by decide +kernel
theorem dX2_gather_46 : decode cX2_gather 46 = .ok (.iload 5, 2) := by decide +kernel
theorem dX2_gather_48 : decode cX2_gather 48 = .ok (.aload_n 3, 1) := by decide +kernel
theorem dX2_gather_49 : decode cX2_gather 49 = .ok (.iload 6, 2) := by decide +kernel
theorem dX2_gather_51 : decode cX2_gather 51 = .ok (.aaload, 1) := by decide +kernel
theorem dX2_gather_52 : decode cX2_gather 52 = .ok (.getfield 62, 3) := by decide +kernel
theorem dX2_gather_55 : decode cX2_gather 55 = .ok (.iload 7, 2) := by decide +kernel
theorem dX2_gather_57 : decode cX2_gather 57 = .ok (.iaload, 1) := by decide +kernel
theorem dX2_gather_58 : decode cX2_gather 58 = .ok (.invokestatic 63, 3) := by decide +kernel
theorem dX2_gather_61 : decode cX2_gather 61 = .ok (.aload_n 0, 1) := by decide +kernel
theorem dX2_gather_62 : decode cX2_gather 62 = .ok (.getfield 18, 3) := by decide +kernel
theorem dX2_gather_65 : decode cX2_gather 65 = .ok (.iload 5, 2) := by decide +kernel
theorem dX2_gather_67 : decode cX2_gather 67 = .ok (.aload_n 3, 1) := by decide +kernel
theorem dX2_gather_68 : decode cX2_gather 68 = .ok (.iload 6, 2) := by decide +kernel
theorem dX2_gather_70 : decode cX2_gather 70 = .ok (.aaload, 1) := by decide +kernel
theorem dX2_gather_71 : decode cX2_gather 71 = .ok (.getfield 67, 3) := by decide +kernel
theorem dX2_gather_74 : decode cX2_gather 74 = .ok (.iload 7, 2) := by decide +kernel
theorem dX2_gather_76 : decode cX2_gather 76 = .ok (.iaload, 1) := by decide +kernel
theorem dX2_gather_77 : decode cX2_gather 77 = .ok (.invokestatic 63, 3) := by decide +kernel
theorem dX2_gather_80 : decode cX2_gather 80 = .ok (.iinc 5 1, 3) := by decide +kernel
theorem dX2_gather_83 : decode cX2_gather 83 = .ok (.iinc 6 1, 3) := by decide +kernel
theorem dX2_gather_86 : decode cX2_gather 86 = .ok (.goto (-80), 3) := by decide +kernel
theorem dX2_gather_89 : decode cX2_gather 89 = .ok (.iload 5, 2) := by decide +kernel
theorem dX2_gather_91 : decode cX2_gather 91 = .ok (.ireturn, 1) := by decide +kernel
theorem dX2_putByRising_0 : decode cX2_putByRising 0 = .ok (.iload_n 1, 1) := by decide +kernel
theorem dX2_putByRising_1 : decode cX2_putByRising 1 = .ok (.istore_n 3, 1) := by decide +kernel
theorem dX2_putByRising_2 : decode cX2_putByRising 2 = .ok (.iload_n 3, 1) := by decide +kernel
theorem dX2_putByRising_3 : decode cX2_putByRising 3 = .ok (.ifCond .le 26, 3) := by decide +kernel
theorem dX2_putByRising_6 : decode cX2_putByRising 6 = .ok (.aload_n 0, 1) := by decide +kernel
theorem dX2_putByRising_7 : decode cX2_putByRising 7 = .ok (.iload_n 3, 1) := by decide +kernel
theorem dX2_putByRising_8 : decode cX2_putByRising 8 = .ok (.iconst 1, 1) := by decide +kernel
theorem dX2_putByRising_9 : decode cX2_putByRising 9 = .ok (.isub, 1) := by decide +kernel
theorem dX2_putByRising_10 : decode cX2_putByRising 10 = .ok (.iaload, 1) := by decide +kernel
theorem dX2_putByRising_11 : decode cX2_putByRising 11 = .ok (.iload_n 2, 1) := by decide +kernel
theorem dX2_putByRising_12 : decode cX2_putByRising 12 = .ok (.if_icmp .le 17, 3) := by decide +kernel
theorem dX2_putByRising_15 : decode cX2_putByRising 15 = .ok (.aload_n 0, 1) := by decide +kernel
theorem dX2_putByRising_16 : decode cX2_putByRising 16 = .ok (.iload_n 3, 1) := by decide +kernel
theorem dX2_putByRising_17 : decode cX2_putByRising 17 = .ok (.aload_n 0, 1) := by decide +kernel
theorem dX2_putByRising_18 : decode cX2_putByRising 18 = .ok (.iload_n 3, 1) := by decide +kernel
theorem dX2_putByRising_19 : decode cX2_putByRising 19 = .ok (.iconst 1, 1) := by decide +kernel
theorem dX2_putByRising_20 : decode cX2_putByRising 20 = .ok (.isub, 1) := by decide +kernel
theorem dX2_putByRising_21 : decode cX2_putByRising 21 = .ok (.iaload, 1) := by decide +kernel
theorem dX2_putByRising_22 : decode cX2_putByRising 22 = .ok (.iastore, 1) := by decide +kernel
theorem dX2_putByRising_23 : decode cX2_putByRising 23 = .ok (.iinc 3 (-1), 3) := by decide +kernel
theorem dX2_putByRising_26 : decode cX2_putByRising 26 = .ok (.goto (-24), 3) := by decide +kernel
theorem dX2_putByRising_29 : decode cX2_putByRising 29 = .ok (.aload_n 0, 1) := by decide +kernel
theorem dX2_putByRising_30 : decode cX2_putByRising 30 = .ok (.iload_n 3, 1) := by decide +kernel
theorem dX2_putByRising_31 : decode cX2_putByRising 31 = .ok (.iload_n 2, 1) := by decide +kernel
theorem dX2_putByRising_32 : decode cX2_putByRising 32 = .ok (.iastore, 1) := by decide +kernel
theorem dX2_putByRising_33 : decode cX2_putByRising 33 = .ok (.return_, 1) := by decide +kernel
theorem dX2_middle_0 : decode cX2_middle 0 = .ok (.iload_n 1, 1) := by decide +kernel
theorem dX2_middle_1 : decode cX2_middle 1 = .ok (.ifCond .le 13, 3) := by decide +kernel
theorem dX2_middle_4 : decode cX2_middle 4 = .ok (.aload_n 0, 1) := by decide +kernel
theorem dX2_middle_5 : decode cX2_middle 5 = .ok (.iload_n 1, 1) := by decide +kernel
theorem dX2_middle_6 : decode cX2_middle 6 = .ok (.iconst 1, 1) := by decide +kernel
theorem dX2_middle_7 : decode cX2_middle 7 = .ok (.isub, 1) := by decide +kernel
theorem dX2_middle_8 : decode cX2_middle 8 = .ok (.iconst 2, 1) := by decide +kernel
theorem dX2_middle_9 : decode cX2_middle 9 = .ok (.idiv, 1) := by decide +kernel
theorem dX2_middle_10 : decode cX2_middle 10 = .ok (.iaload, 1) := by decide +kernel
theorem dX2_middle_11 : decode cX2_middle 11 = .ok (.goto 4, 3) := by decide +kernel
theorem dX2_middle_14 : decode cX2_middle 14 = .ok (.iconst 0, 1) := by decide +kernel
theorem dX2_middle_15 : decode cX2_middle 15 = .ok (.ireturn, 1) := by decide +kernel
theorem dX3_init_0 : decode cX3_init 0 = .ok (.aload_n 0, 1) := by decide +kernel
theorem dX3_init_1 : decode cX3_init 1 = .ok (.invokespecial 3, 3) := by decide +kernel
theorem dX3_init_4 : decode cX3_init 4 = .ok (.aload_n 0, 1) := by decide +kernel
theorem dX3_init_5 : decode cX3_init 5 = .ok (.iconst (-1), 1) := by decide +kernel
theorem dX3_init_6 : decode cX3_init 6 = .ok (.putfield 9, 3) := by decide +kernel
theorem dX3_init_9 : decode cX3_init 9 = .ok (.aload_n 0, 1) := by decide +kernel
theorem dX3_init_10 : decode cX3_init 10 = .ok (.ldc 15, 2) := by decide +kernel
theorem dX3_init_12 : decode cX3_init 12 = .ok (.putfield 16, 3) := by decide +kernel
theorem dX3_init_15 : decode cX3_init 15 = .ok (.aload_n 0, 1) := by decide +kernel
theorem dX3_init_16 : decode cX3_init 16 = .ok (.ldc 15, 2) := by decide +kernel
theorem dX3_init_18 : decode cX3_init 18 = .ok (.putfield 19, 3) := by decide +kernel
theorem dX3_init_21 : decode cX3_init 21 = .ok (.return_, 1) := by decide +kernel
theorem dX3_clear_0 : decode cX3_clear 0 = .ok (.aload_n 0, 1) := by decide +kernel
theorem dX3_clear_1 : decode cX3_clear 1 = .ok (.iconst (-1), 1) := by decide +kernel
theorem dX3_clear_2 : decode cX3_clear 2 = .ok (.putfield 9, 3) := by decide +kernel
theorem dX3_clear_5 : decode cX3_clear 5 = .ok (.aload_n 0, 1) := by decide +kernel
theorem dX3_clear_6 : decode cX3_clear 6 = .ok (.ldc 15, 2) := by decide +kernel
theorem dX3_clear_8 : decode cX3_clear 8 = .ok (.putfield 16, 3) := by decide +kernel
theorem dX3_clear_11 : decode cX3_clear 11 = .ok (.aload_n 0, 1) := by decide +kernel
theorem dX3_clear_12 : decode cX3_clear 12 = .ok (.ldc 15, 2) := by decide +kernel
theorem dX3_clear_14 : decode cX3_clear 14 = .ok (.putfield 19, 3) := by decide +kernel
theorem dX3_clear_17 : decode cX3_clear 17 = .ok (.return_, 1) := by decide +kernel
theorem dX3_take_0 : decode cX3_take 0 = .ok (.iload_n 2, 1) := by decide +kernel
theorem dX3_take_1 : decode cX3_take 1 = .ok (.aload_n 0, 1) := by decide +kernel
theorem dX3_take_2 : decode cX3_take 2 = .ok (.getfield 16, 3) := by decide +kernel
theorem dX3_take_5 : decode cX3_take 5 = .ok (.if_icmp .ge 24, 3) := by decide +kernel
theorem dX3_take_8 : decode cX3_take 8 = .ok (.aload_n 0, 1) := by decide +kernel
theorem dX3_take_9 : decode cX3_take 9 = .ok (.aload_n 0, 1) := by decide +kernel
theorem dX3_take_10 : decode cX3_take 10 = .ok (.getfield 16, 3) := by decide +kernel
theorem dX3_take_13 : decode cX3_take 13 = .ok (.putfield 19, 3) := by decide +kernel
theorem dX3_take_16 : decode cX3_take 16 = .ok (.aload_n 0, 1) := by decide +kernel
theorem dX3_take_17 : decode cX3_take 17 = .ok (.iload_n 2, 1) := by decide +kernel
theorem dX3_take_18 : decode cX3_take 18 = .ok (.putfield 16, 3) := by decide +kernel
theorem dX3_take_21 : decode cX3_take 21 = .ok (.aload_n 0, 1) := by decide +kernel
theorem dX3_take_22 : decode cX3_take 22 = .ok (.iload_n 1, 1) := by decide +kernel
theorem dX3_take_23 : decode cX3_take 23 = .ok (.putfield 9, 3) := by decide +kernel
theorem dX3_take_26 : decode cX3_take 26 = .ok (.goto 16, 3) := by decide +kernel
theorem dX3_take_29 : decode cX3_take 29 = .ok (.iload_n 2, 1) := by decide +kernel
theorem dX3_take_30 : decode cX3_take 30 = .ok (.aload_n 0, 1) := by decide +kernel
theorem dX3_take_31 : decode cX3_take 31 = .ok (.getfield 19, 3) := by decide +kernel
theorem dX3_take_34 : decode cX3_take 34 = .ok (.if_icmp .ge 8, 3) := by decide +kernel
theorem dX3_take_37 : decode cX3_take 37 = .ok (.aload_n 0, 1) := by decide +kernel
theorem dX3_take_38 : decode cX3_take 38 = .ok (.iload_n 2, 1) := by decide +kernel
theorem dX3_take_39 : decode cX3_take 39 = .ok (.putfield 19, 3) := by decide +kernel
theorem dX3_take_42 : decode cX3_take 42 = .ok (.return_, 1) := by decide +kernel
theorem dX3_spread_0 : decode cX3_spread 0 = .ok (.aload_n 0, 1) := by decide +kernel
theorem dX3_spread_1 : decode cX3_spread 1 = .ok (.getfield 19, 3) := by decide +kernel
theorem dX3_spread_4 : decode cX3_spread 4 = .ok (.aload_n 0, 1) := by decide +kernel
theorem dX3_spread_5 : decode cX3_spread 5 = .ok (.getfield 16, 3) := by decide +kernel
theorem dX3_spread_8 : decode cX3_spread 8 = .ok (.isub, 1) := by decide +kernel
theorem dX3_spread_9 : decode cX3_spread 9 = .ok (.ireturn, 1) := by decide +kernel
theorem dX3_answer_0 : decode cX3_answer 0 = .ok (.aload_n 0, 1) := by decide +kernel
theorem dX3_answer_1 : decode cX3_answer 1 = .ok (.getfield 9, 3) := by decide +kernel
theorem dX3_answer_4 : decode cX3_answer 4 = .ok (.iconst (-1), 1) := by decide +kernel
theorem dX3_answer_5 : decode cX3_answer 5 = .ok (.if_icmp .eq 11, 3) := by decide +kernel
theorem dX3_answer_8 : decode cX3_answer 8 = .ok (.aload_n 0, 1) := by decide +kernel
theorem dX3_answer_9 : decode cX3_answer 9 = .ok (.getfield 16, 3) := by decide +kernel
theorem dX3_answer_12 : decode cX3_answer 12 = .ok (.iload_n 1, 1) := by decide +kernel
theorem dX3_answer_13 : decode cX3_answer 13 = .ok (.if_icmp .le 6, 3) := by decide +kernel
theorem dX3_answer_16 : decode cX3_answer 16 = .ok (.bipush 10, 2) := by decide +kernel
theorem dX3_answer_18 : decode cX3_answer 18 = .ok (.ireturn, 1) := by decide +kernel
theorem dX3_answer_19 : decode cX3_answer 19 = .ok (.aload_n 0, 1) := by decide +kernel
theorem dX3_answer_20 : decode cX3_answer 20 = .ok (.invokevirtual 22, 3) := by decide +kernel
theorem dX3_answer_23 : decode cX3_answer 23 = .ok (.iload_n 2, 1) := by decide +kernel
theorem dX3_answer_24 : decode cX3_answer 24 = .ok (.if_icmp .ge 8, 3) := by decide +kernel
theorem dX3_answer_27 : decode cX3_answer 27 = .ok (.bipush 11, 2) := by decide +kernel
theorem dX3_answer_29 : decode cX3_answer 29 = .ok (.goto 7, 3) := by decide +kernel
theorem dX3_answer_32 : decode cX3_answer 32 = .ok (.aload_n 0, 1) := by decide +kernel
theorem dX3_answer_33 : decode cX3_answer 33 = .ok (.getfield 9, 3) := by decide +kernel
theorem dX3_answer_36 : decode cX3_answer 36 = .ok (.ireturn, 1) := by decide +kernel
theorem dX4_init_0 : decode cX4_init 0 = .ok (.aload_n 0, 1) := by decide +kernel
theorem dX4_init_1 : decode cX4_init 1 = .ok (.invokespecial 3, 3) := by decide +kernel
theorem dX4_init_4 : decode cX4_init 4 = .ok (.aload_n 0, 1) := by decide +kernel
theorem dX4_init_5 : decode cX4_init 5 = .ok (.iconst 0, 1) := by decide +kernel
theorem dX4_init_6 : decode cX4_init 6 = .ok (.putfield 9, 3) := by decide +kernel
theorem dX4_init_9 : decode cX4_init 9 = .ok (.aload_n 0, 1) := by decide +kernel
theorem dX4_init_10 : decode cX4_init 10 = .ok (.iload_n 1, 1) := by decide +kernel
theorem dX4_init_11 : decode cX4_init 11 = .ok (.newarray .int, 2) := by decide +kernel
theorem dX4_init_13 : decode cX4_init 13 = .ok (.putfield 15, 3) := by decide +kernel
theorem dX4_init_16 : decode cX4_init 16 = .ok (.aload_n 0, 1) := by decide +kernel
theorem dX4_init_17 : decode cX4_init 17 = .ok (.iload_n 1, 1) := by decide +kernel
theorem dX4_init_18 : decode cX4_init 18 = .ok (.newarray .int, 2) := by decide +kernel
theorem dX4_init_20 : decode cX4_init 20 = .ok (.putfield 19, 3) := by decide +kernel
theorem dX4_init_23 : decode cX4_init 23 = .ok (.aload_n 0, 1) := by decide +kernel
theorem dX4_init_24 : decode cX4_init 24 = .ok (.iload_n 1, 1) := by decide +kernel
theorem dX4_init_25 : decode cX4_init 25 = .ok (.newarray .int, 2) := by decide +kernel
theorem dX4_init_27 : decode cX4_init 27 = .ok (.putfield 22, 3) := by decide +kernel
theorem dX4_init_30 : decode cX4_init 30 = .ok (.aload_n 0, 1) := by decide +kernel
theorem dX4_init_31 : decode cX4_init 31 = .ok (.iload_n 1, 1) := by decide +kernel
theorem dX4_init_32 : decode cX4_init 32 = .ok (.newarray .boolean, 2) := by decide +kernel
theorem dX4_init_34 : decode cX4_init 34 = .ok (.putfield 25, 3) := by decide +kernel
theorem dX4_init_37 : decode cX4_init 37 = .ok (.return_, 1) := by decide +kernel
theorem dX4_add_0 : decode cX4_add 0 = .ok (.aload_n 0, 1) := by decide +kernel
theorem dX4_add_1 : decode cX4_add 1 = .ok (.getfield 9, 3) := by decide +kernel
theorem dX4_add_4 : decode cX4_add 4 = .ok (.aload_n 0, 1) := by decide +kernel
theorem dX4_add_5 : decode cX4_add 5 = .ok (.getfield 15, 3) := by decide +kernel
theorem dX4_add_8 : decode cX4_add 8 = .ok (.arraylength, 1) := by decide +kernel
theorem dX4_add_9 : decode cX4_add 9 = .ok (.if_icmp .ge 54, 3) := by decide +kernel
theorem dX4_add_12 : decode cX4_add 12 = .ok (.aload_n 0, 1) := by decide +kernel
theorem dX4_add_13 : decode cX4_add 13 = .ok (.getfield 15, 3) := by decide +kernel
theorem dX4_add_16 : decode cX4_add 16 = .ok (.aload_n 0, 1) := by decide +kernel
theorem dX4_add_17 : decode cX4_add 17 = .ok (.getfield 9, 3) := by decide +kernel
theorem dX4_add_20 : decode cX4_add 20 = .ok (.iload_n 1, 1) := by decide +kernel
theorem dX4_add_21 : decode cX4_add 21 = .ok (.iastore, 1) := by decide +kernel
theorem dX4_add_22 : decode cX4_add 22 = .ok (.aload_n 0, 1) := by decide +kernel
theorem dX4_add_23 : decode cX4_add 23 = .ok (.getfield 19, 3) := by decide +kernel
theorem dX4_add_26 : decode cX4_add 26 = .ok (.aload_n 0, 1) := by decide +kernel
theorem dX4_add_27 : decode cX4_add 27 = .ok (.getfield 9, 3) := by decide +kernel
theorem dX4_add_30 : decode cX4_add 30 = .ok (.iload_n 2, 1) := by decide +kernel
theorem dX4_add_31 : decode cX4_add 31 = .ok (.iastore, 1) := by decide +kernel
theorem dX4_add_32 : decode cX4_add 32 = .ok (.aload_n 0, 1) := by decide +kernel
theorem dX4_add_33 : decode cX4_add 33 = .ok (.getfield 22, 3) := by decide +kernel
theorem dX4_add_36 : decode cX4_add 36 = .ok (.aload_n 0, 1) := by decide +kernel
theorem dX4_add_37 : decode cX4_add 37 = .ok (.getfield 9, 3) := by decide +kernel
theorem dX4_add_40 : decode cX4_add 40 = .ok (.iload_n 3, 1) := by decide +kernel
theorem dX4_add_41 : decode cX4_add 41 = .ok (.iastore, 1) := by decide +kernel
theorem dX4_add_42 : decode cX4_add 42 = .ok (.aload_n 0, 1) := by decide +kernel
theorem dX4_add_43 : decode cX4_add 43 = .ok (.getfield 25, 3) := by decide +kernel
theorem dX4_add_46 : decode cX4_add 46 = .ok (.aload_n 0, 1) := by decide +kernel
theorem dX4_add_47 : decode cX4_add 47 = .ok (.getfield 9, 3) := by decide +kernel
theorem dX4_add_50 : decode cX4_add 50 = .ok (.iload 4, 2) := by decide +kernel
theorem dX4_add_52 : decode cX4_add 52 = .ok (.bastore, 1) := by decide +kernel
theorem dX4_add_53 : decode cX4_add 53 = .ok (.aload_n 0, 1) := by decide +kernel
theorem dX4_add_54 : decode cX4_add 54 = .ok (.dup, 1) := by decide +kernel
theorem dX4_add_55 : decode cX4_add 55 = .ok (.getfield 9, 3) := by decide +kernel
theorem dX4_add_58 : decode cX4_add 58 = .ok (.iconst 1, 1) := by decide +kernel
theorem dX4_add_59 : decode cX4_add 59 = .ok (.iadd, 1) := by decide +kernel
theorem dX4_add_60 : decode cX4_add 60 = .ok (.putfield 9, 3) := by decide +kernel
theorem dX4_add_63 : decode cX4_add 63 = .ok (.return_, 1) := by decide +kernel
theorem dX4_find_0 : decode cX4_find 0 = .ok (.iconst 0, 1) := by decide +kernel
theorem dX4_find_1 : decode cX4_find 1 = .ok (.istore_n 2, 1) := by decide +kernel
theorem dX4_find_2 : decode cX4_find 2 = .ok (.iload_n 2, 1) := by decide +kernel
theorem dX4_find_3 : decode cX4_find 3 = .ok (.aload_n 0, 1) := by decide +kernel
theorem dX4_find_4 : decode cX4_find 4 = .ok (.getfield 9, 3) := by decide +kernel
theorem dX4_find_7 : decode cX4_find 7 = .ok (.if_icmp .ge 21, 3) := by decide +kernel
theorem dX4_find_10 : decode cX4_find 10 = .ok (.aload_n 0, 1) := by decide +kernel
theorem dX4_find_11 : decode cX4_find 11 = .ok (.getfield 15, 3) := by decide +kernel
theorem dX4_find_14 : decode cX4_find 14 = .ok (.iload_n 2, 1) := by decide +kernel
theorem dX4_find_15 : decode cX4_find 15 = .ok (.iaload, 1) := by decide +kernel
theorem dX4_find_16 : decode cX4_find 16 = .ok (.iload_n 1, 1) := by decide +kernel
theorem dX4_find_17 : decode cX4_find 17 = .ok (.if_icmp .ne 5, 3) := by decide +kernel
theorem dX4_find_20 : decode cX4_find 20 = .ok (.iload_n 2, 1) := by decide +kernel
theorem dX4_find_21 : decode cX4_find 21 = .ok (.ireturn, 1) := by decide +kernel
theorem dX4_find_22 : decode cX4_find 22 = .ok (.iinc 2 1, 3) := by decide +kernel
theorem dX4_find_25 : decode cX4_find 25 = .ok (.goto (-23), 3) := by decide +kernel
theorem dX4_find_28 : decode cX4_find 28 = .ok (.iconst (-1), 1) := by decide +kernel
theorem dX4_find_29 : decode cX4_find 29 = .ok (.ireturn, 1) := by decide +kernel
