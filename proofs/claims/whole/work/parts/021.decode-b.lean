theorem dX5_init_0 : decode cX5_init 0 = .ok (.aload_n 0, 1) := by decide +kernel
theorem dX5_init_1 : decode cX5_init 1 = .ok (.invokespecial 3, 3) := by decide +kernel
theorem dX5_init_4 : decode cX5_init 4 = .ok (.aload_n 0, 1) := by decide +kernel
theorem dX5_init_5 : decode cX5_init 5 = .ok (.bipush 16, 2) := by decide +kernel
theorem dX5_init_7 : decode cX5_init 7 = .ok (.anewarray 9, 3) := by decide +kernel
theorem dX5_init_10 : decode cX5_init 10 = .ok (.putfield 11, 3) := by decide +kernel
theorem dX5_init_13 : decode cX5_init 13 = .ok (.aload_n 0, 1) := by decide +kernel
theorem dX5_init_14 : decode cX5_init 14 = .ok (.bipush 16, 2) := by decide +kernel
theorem dX5_init_16 : decode cX5_init 16 = .ok (.newarray .int, 2) := by decide +kernel
theorem dX5_init_18 : decode cX5_init 18 = .ok (.putfield 15, 3) := by decide +kernel
theorem dX5_init_21 : decode cX5_init 21 = .ok (.aload_n 0, 1) := by decide +kernel
theorem dX5_init_22 : decode cX5_init 22 = .ok (.iconst 5, 1) := by decide +kernel
theorem dX5_init_23 : decode cX5_init 23 = .ok (.anewarray 19, 3) := by decide +kernel
theorem dX5_init_26 : decode cX5_init 26 = .ok (.putfield 21, 3) := by decide +kernel
theorem dX5_init_29 : decode cX5_init 29 = .ok (.aload_n 0, 1) := by decide +kernel
theorem dX5_init_30 : decode cX5_init 30 = .ok (.new 25, 3) := by decide +kernel
theorem dX5_init_33 : decode cX5_init 33 = .ok (.dup, 1) := by decide +kernel
theorem dX5_init_34 : decode cX5_init 34 = .ok (.invokespecial 27, 3) := by decide +kernel
theorem dX5_init_37 : decode cX5_init 37 = .ok (.putfield 28, 3) := by decide +kernel
theorem dX5_init_40 : decode cX5_init 40 = .ok (.aload_n 0, 1) := by decide +kernel
theorem dX5_init_41 : decode cX5_init 41 = .ok (.new 32, 3) := by decide +kernel
theorem dX5_init_44 : decode cX5_init 44 = .ok (.dup, 1) := by decide +kernel
theorem dX5_init_45 : decode cX5_init 45 = .ok (.invokespecial 34, 3) := by decide +kernel
theorem dX5_init_48 : decode cX5_init 48 = .ok (.putfield 35, 3) := by decide +kernel
theorem dX5_init_51 : decode cX5_init 51 = .ok (.aload_n 0, 1) := by decide +kernel
theorem dX5_init_52 : decode cX5_init 52 = .ok (.new 39, 3) := by decide +kernel
theorem dX5_init_55 : decode cX5_init 55 = .ok (.dup, 1) := by decide +kernel
theorem dX5_init_56 : decode cX5_init 56 = .ok (.invokespecial 41, 3) := by decide +kernel
theorem dX5_init_59 : decode cX5_init 59 = .ok (.putfield 42, 3) := by decide +kernel
theorem dX5_init_62 : decode cX5_init 62 = .ok (.aload_n 0, 1) := by decide +kernel
theorem dX5_init_63 : decode cX5_init 63 = .ok (.bipush 16, 2) := by decide +kernel
theorem dX5_init_65 : decode cX5_init 65 = .ok (.newarray .int, 2) := by decide +kernel
theorem dX5_init_67 : decode cX5_init 67 = .ok (.putfield 46, 3) := by decide +kernel
theorem dX5_init_70 : decode cX5_init 70 = .ok (.aload_n 0, 1) := by decide +kernel
theorem dX5_init_71 : decode cX5_init 71 = .ok (.iconst 5, 1) := by decide +kernel
theorem dX5_init_72 : decode cX5_init 72 = .ok (.anewarray 19, 3) := by decide +kernel
theorem dX5_init_75 : decode cX5_init 75 = .ok (.putfield 49, 3) := by decide +kernel
theorem dX5_init_78 : decode cX5_init 78 = .ok (.aload_n 0, 1) := by decide +kernel
theorem dX5_init_79 : decode cX5_init 79 = .ok (.new 19, 3) := by decide +kernel
theorem dX5_init_82 : decode cX5_init 82 = .ok (.dup, 1) := by decide +kernel
theorem dX5_init_83 : decode cX5_init 83 = .ok (.invokespecial 52, 3) := by decide +kernel
theorem dX5_init_86 : decode cX5_init 86 = .ok (.putfield 53, 3) := by decide +kernel
theorem dX5_init_89 : decode cX5_init 89 = .ok (.aload_n 0, 1) := by decide +kernel
theorem dX5_init_90 : decode cX5_init 90 = .ok (.new 19, 3) := by decide +kernel
theorem dX5_init_93 : decode cX5_init 93 = .ok (.dup, 1) := by decide +kernel
theorem dX5_init_94 : decode cX5_init 94 = .ok (.invokespecial 52, 3) := by decide +kernel
theorem dX5_init_97 : decode cX5_init 97 = .ok (.putfield 57, 3) := by decide +kernel
theorem dX5_init_100 : decode cX5_init 100 = .ok (.aload_n 0, 1) := by decide +kernel
theorem dX5_init_101 : decode cX5_init 101 = .ok (.sipush 256, 3) := by decide +kernel
theorem dX5_init_104 : decode cX5_init 104 = .ok (.newarray .int, 2) := by decide +kernel
theorem dX5_init_106 : decode cX5_init 106 = .ok (.putfield 60, 3) := by decide +kernel
theorem dX5_init_109 : decode cX5_init 109 = .ok (.aload_n 0, 1) := by decide +kernel
theorem dX5_init_110 : decode cX5_init 110 = .ok (.bipush 16, 2) := by decide +kernel
theorem dX5_init_112 : decode cX5_init 112 = .ok (.newarray .int, 2) := by decide +kernel
theorem dX5_init_114 : decode cX5_init 114 = .ok (.putfield 63, 3) := by decide +kernel
theorem dX5_init_117 : decode cX5_init 117 = .ok (.aload_n 0, 1) := by decide +kernel
theorem dX5_init_118 : decode cX5_init 118 = .ok (.iconst 0, 1) := by decide +kernel
theorem dX5_init_119 : decode cX5_init 119 = .ok (.putfield 66, 3) := by decide +kernel
theorem dX5_init_122 : decode cX5_init 122 = .ok (.aload_n 0, 1) := by decide +kernel
theorem dX5_init_123 : decode cX5_init 123 = .ok (.bipush 60, 2) := by decide +kernel
theorem dX5_init_125 : decode cX5_init 125 = .ok (.putfield 70, 3) := by decide +kernel
theorem dX5_init_128 : decode cX5_init 128 = .ok (.aload_n 0, 1) := by decide +kernel
theorem dX5_init_129 : decode cX5_init 129 = .ok (.bipush 10, 2) := by decide +kernel
theorem dX5_init_131 : decode cX5_init 131 = .ok (.putfield 73, 3) := by decide +kernel
theorem dX5_init_134 : decode cX5_init 134 = .ok (.aload_n 0, 1) := by decide +kernel
theorem dX5_init_135 : decode cX5_init 135 = .ok (.bipush 30, 2) := by decide +kernel
theorem dX5_init_137 : decode cX5_init 137 = .ok (.putfield 76, 3) := by decide +kernel
theorem dX5_init_140 : decode cX5_init 140 = .ok (.iconst 0, 1) := by decide +kernel
theorem dX5_init_141 : decode cX5_init 141 = .ok (.istore_n 1, 1) := by decide +kernel
theorem dX5_init_142 : decode cX5_init 142 = .ok (.iload_n 1, 1) := by decide +kernel
theorem dX5_init_143 : decode cX5_init 143 = .ok (.bipush 16, 2) := by decide +kernel
theorem dX5_init_145 : decode cX5_init 145 = .ok (.if_icmp .ge 31, 3) := by decide +kernel
theorem dX5_init_148 : decode cX5_init 148 = .ok (.aload_n 0, 1) := by decide +kernel
theorem dX5_init_149 : decode cX5_init 149 = .ok (.getfield 11, 3) := by decide +kernel
theorem dX5_init_152 : decode cX5_init 152 = .ok (.iload_n 1, 1) := by decide +kernel
theorem dX5_init_153 : decode cX5_init 153 = .ok (.new 9, 3) := by decide +kernel
theorem dX5_init_156 : decode cX5_init 156 = .ok (.dup, 1) := by decide +kernel
theorem dX5_init_157 : decode cX5_init 157 = .ok (.bipush 8, 2) := by decide +kernel
theorem dX5_init_159 : decode cX5_init 159 = .ok (.invokespecial 79, 3) := by decide +kernel
theorem dX5_init_162 : decode cX5_init 162 = .ok (.aastore, 1) := by decide +kernel
theorem dX5_init_163 : decode cX5_init 163 = .ok (.aload_n 0, 1) := by decide +kernel
theorem dX5_init_164 : decode cX5_init 164 = .ok (.getfield 15, 3) := by decide +kernel
theorem dX5_init_167 : decode cX5_init 167 = .ok (.iload_n 1, 1) := by decide +kernel
theorem dX5_init_168 : decode cX5_init 168 = .ok (.iconst (-1), 1) := by decide +kernel
theorem dX5_init_169 : decode cX5_init 169 = .ok (.iastore, 1) := by decide +kernel
theorem dX5_init_170 : decode cX5_init 170 = .ok (.iinc 1 1, 3) := by decide +kernel
theorem dX5_init_173 : decode cX5_init 173 = .ok (.goto (-31), 3) := by decide +kernel
theorem dX5_init_176 : decode cX5_init 176 = .ok (.iconst 0, 1) := by decide +kernel
theorem dX5_init_177 : decode cX5_init 177 = .ok (.istore_n 1, 1) := by decide +kernel
theorem dX5_init_178 : decode cX5_init 178 = .ok (.iload_n 1, 1) := by decide +kernel
theorem dX5_init_179 : decode cX5_init 179 = .ok (.iconst 5, 1) := by decide +kernel
theorem dX5_init_180 : decode cX5_init 180 = .ok (.if_icmp .ge 34, 3) := by decide +kernel
theorem dX5_init_183 : decode cX5_init 183 = .ok (.aload_n 0, 1) := by decide +kernel
theorem dX5_init_184 : decode cX5_init 184 = .ok (.getfield 21, 3) := by decide +kernel
theorem dX5_init_187 : decode cX5_init 187 = .ok (.iload_n 1, 1) := by decide +kernel
theorem dX5_init_188 : decode cX5_init 188 = .ok (.new 19, 3) := by decide +kernel
theorem dX5_init_191 : decode cX5_init 191 = .ok (.dup, 1) := by decide +kernel
theorem dX5_init_192 : decode cX5_init 192 = .ok (.invokespecial 52, 3) := by decide +kernel
theorem dX5_init_195 : decode cX5_init 195 = .ok (.aastore, 1) := by decide +kernel
theorem dX5_init_196 : decode cX5_init 196 = .ok (.aload_n 0, 1) := by decide +kernel
theorem dX5_init_197 : decode cX5_init 197 = .ok (.getfield 49, 3) := by decide +kernel
theorem dX5_init_200 : decode cX5_init 200 = .ok (.iload_n 1, 1) := by decide +kernel
theorem dX5_init_201 : decode cX5_init 201 = .ok (.aload_n 0, 1) := by decide +kernel
theorem dX5_init_202 : decode cX5_init 202 = .ok (.getfield 21, 3) := by decide +kernel
theorem dX5_init_205 : decode cX5_init 205 = .ok (.iload_n 1, 1) := by decide +kernel
theorem dX5_init_206 : decode cX5_init 206 = .ok (.aaload, 1) := by decide +kernel
theorem dX5_init_207 : decode cX5_init 207 = .ok (.aastore, 1) := by decide +kernel
theorem dX5_init_208 : decode cX5_init 208 = .ok (.iinc 1 1, 3) := by decide +kernel
theorem dX5_init_211 : decode cX5_init 211 = .ok (.goto (-33), 3) := by decide +kernel
theorem dX5_init_214 : decode cX5_init 214 = .ok (.aload_n 0, 1) := by decide +kernel
theorem dX5_init_215 : decode cX5_init 215 = .ok (.invokevirtual 82, 3) := by decide +kernel
theorem dX5_init_218 : decode cX5_init 218 = .ok (.return_, 1) := by decide +kernel
theorem dX5_page_0 : decode cX5_page 0 = .ok (.aload_n 0, 1) := by decide +kernel
theorem dX5_page_1 : decode cX5_page 1 = .ok (.getfield 66, 3) := by decide +kernel
theorem dX5_page_4 : decode cX5_page 4 = .ok (.bipush 16, 2) := by decide +kernel
theorem dX5_page_6 : decode cX5_page 6 = .ok (.if_icmp .lt 5, 3) := by decide +kernel
theorem dX5_page_9 : decode cX5_page 9 = .ok (.iconst (-1), 1) := by decide +kernel
theorem dX5_page_10 : decode cX5_page 10 = .ok (.ireturn, 1) := by decide +kernel
theorem dX5_page_11 : decode cX5_page 11 = .ok (.aload_n 0, 1) := by decide +kernel
theorem dX5_page_12 : decode cX5_page 12 = .ok (.dup, 1) := by decide +kernel
theorem dX5_page_13 : decode cX5_page 13 = .ok (.getfield 66, 3) := by decide +kernel
theorem dX5_page_16 : decode cX5_page 16 = .ok (.iconst 1, 1) := by decide +kernel
theorem dX5_page_17 : decode cX5_page 17 = .ok (.iadd, 1) := by decide +kernel
theorem dX5_page_18 : decode cX5_page 18 = .ok (.putfield 66, 3) := by decide +kernel
theorem dX5_page_21 : decode cX5_page 21 = .ok (.aload_n 0, 1) := by decide +kernel
theorem dX5_page_22 : decode cX5_page 22 = .ok (.getfield 66, 3) := by decide +kernel
theorem dX5_page_25 : decode cX5_page 25 = .ok (.iconst 1, 1) := by decide +kernel
theorem dX5_page_26 : decode cX5_page 26 = .ok (.isub, 1) := by decide +kernel
theorem dX5_page_27 : decode cX5_page 27 = .ok (.ireturn, 1) := by decide +kernel
theorem dX5_box_0 : decode cX5_box 0 = .ok (.aload_n 0, 1) := by decide +kernel
theorem dX5_box_1 : decode cX5_box 1 = .ok (.iload_n 1, 1) := by decide +kernel
theorem dX5_box_2 : decode cX5_box 2 = .ok (.invokevirtual 85, 3) := by decide +kernel
theorem dX5_box_5 : decode cX5_box 5 = .ok (.ifCond .eq 34, 3) := by decide +kernel
theorem dX5_box_8 : decode cX5_box 8 = .ok (.iload_n 2, 1) := by decide +kernel
theorem dX5_box_9 : decode cX5_box 9 = .ok (.iconst 0, 1) := by decide +kernel
theorem dX5_box_10 : decode cX5_box 10 = .ok (.bipush 63, 2) := by decide +kernel
theorem dX5_box_12 : decode cX5_box 12 = .ok (.invokestatic 89, 3) := by decide +kernel
theorem dX5_box_15 : decode cX5_box 15 = .ok (.ifCond .eq 24, 3) := by decide +kernel
theorem dX5_box_18 : decode cX5_box 18 = .ok (.iload_n 3, 1) := by decide +kernel
theorem dX5_box_19 : decode cX5_box 19 = .ok (.iconst 0, 1) := by decide +kernel
theorem dX5_box_20 : decode cX5_box 20 = .ok (.bipush 63, 2) := by decide +kernel
theorem dX5_box_22 : decode cX5_box 22 = .ok (.invokestatic 89, 3) := by decide +kernel
theorem dX5_box_25 : decode cX5_box 25 = .ok (.ifCond .eq 14, 3) := by decide +kernel
theorem dX5_box_28 : decode cX5_box 28 = .ok (.iload 4, 2) := by decide +kernel
theorem dX5_box_30 : decode cX5_box 30 = .ok (.iconst 1, 1) := by decide +kernel
theorem dX5_box_31 : decode cX5_box 31 = .ok (.bipush 99, 2) := by decide +kernel
theorem dX5_box_33 : decode cX5_box 33 = .ok (.invokestatic 89, 3) := by decide +kernel
theorem dX5_box_36 : decode cX5_box 36 = .ok (.ifCond .ne 5, 3) := by decide +kernel
theorem dX5_box_39 : decode cX5_box 39 = .ok (.iconst (-1), 1) := by decide +kernel
theorem dX5_box_40 : decode cX5_box 40 = .ok (.ireturn, 1) := by decide +kernel
theorem dX5_box_41 : decode cX5_box 41 = .ok (.aload_n 0, 1) := by decide +kernel
theorem dX5_box_42 : decode cX5_box 42 = .ok (.getfield 11, 3) := by decide +kernel
theorem dX5_box_45 : decode cX5_box 45 = .ok (.iload_n 1, 1) := by decide +kernel
theorem dX5_box_46 : decode cX5_box 46 = .ok (.aaload, 1) := by decide +kernel
theorem dX5_box_47 : decode cX5_box 47 = .ok (.astore 5, 2) := by decide +kernel
theorem dX5_box_49 : decode cX5_box 49 = .ok (.aload 5, 2) := by decide +kernel
theorem dX5_box_51 : decode cX5_box 51 = .ok (.getfield 93, 3) := by decide +kernel
theorem dX5_box_54 : decode cX5_box 54 = .ok (.bipush 8, 2) := by decide +kernel
theorem dX5_box_56 : decode cX5_box 56 = .ok (.if_icmp .ge 14, 3) := by decide +kernel
theorem dX5_box_59 : decode cX5_box 59 = .ok (.aload 5, 2) := by decide +kernel
theorem dX5_box_61 : decode cX5_box 61 = .ok (.iload 4, 2) := by decide +kernel
theorem dX5_box_63 : decode cX5_box 63 = .ok (.invokevirtual 96, 3) := by decide +kernel
theorem dX5_box_66 : decode cX5_box 66 = .ok (.iconst (-1), 1) := by decide +kernel
theorem dX5_box_67 : decode cX5_box 67 = .ok (.if_icmp .eq 5, 3) := by decide +kernel
theorem dX5_box_70 : decode cX5_box 70 = .ok (.iconst (-1), 1) := by decide +kernel
theorem dX5_box_71 : decode cX5_box 71 = .ok (.ireturn, 1) := by decide +kernel
theorem dX5_box_72 : decode cX5_box 72 = .ok (.aload 5, 2) := by decide +kernel
theorem dX5_box_74 : decode cX5_box 74 = .ok (.iload 4, 2) := by decide +kernel
theorem dX5_box_76 : decode cX5_box 76 = .ok (.iload_n 2, 1) := by decide +kernel
theorem dX5_box_77 : decode cX5_box 77 = .ok (.iload_n 3, 1) := by decide +kernel
theorem dX5_box_78 : decode cX5_box 78 = .ok (.iconst 1, 1) := by decide +kernel
theorem dX5_box_79 : decode cX5_box 79 = .ok (.invokevirtual 100, 3) := by decide +kernel
theorem dX5_box_82 : decode cX5_box 82 = .ok (.aload_n 0, 1) := by decide +kernel
theorem dX5_box_83 : decode cX5_box 83 = .ok (.iload_n 1, 1) := by decide +kernel
theorem dX5_box_84 : decode cX5_box 84 = .ok (.invokevirtual 104, 3) := by decide +kernel
theorem dX5_box_87 : decode cX5_box 87 = .ok (.aload_n 0, 1) := by decide +kernel
theorem dX5_box_88 : decode cX5_box 88 = .ok (.aload_n 0, 1) := by decide +kernel
theorem dX5_box_89 : decode cX5_box 89 = .ok (.getfield 15, 3) := by decide +kernel
theorem dX5_box_92 : decode cX5_box 92 = .ok (.iload_n 1, 1) := by decide +kernel
theorem dX5_box_93 : decode cX5_box 93 = .ok (.iaload, 1) := by decide +kernel
theorem dX5_box_94 : decode cX5_box 94 = .ok (.invokevirtual 107, 3) := by decide +kernel
theorem dX5_box_97 : decode cX5_box 97 = .ok (.aload 5, 2) := by decide +kernel
theorem dX5_box_99 : decode cX5_box 99 = .ok (.getfield 93, 3) := by decide +kernel
theorem dX5_box_102 : decode cX5_box 102 = .ok (.iconst 1, 1) := by decide +kernel
theorem dX5_box_103 : decode cX5_box 103 = .ok (.isub, 1) := by decide +kernel
theorem dX5_box_104 : decode cX5_box 104 = .ok (.ireturn, 1) := by decide +kernel
theorem dX5_tell_0 : decode cX5_tell 0 = .ok (.aload_n 0, 1) := by decide +kernel
theorem dX5_tell_1 : decode cX5_tell 1 = .ok (.iload_n 1, 1) := by decide +kernel
theorem dX5_tell_2 : decode cX5_tell 2 = .ok (.iload_n 2, 1) := by decide +kernel
theorem dX5_tell_3 : decode cX5_tell 3 = .ok (.invokevirtual 110, 3) := by decide +kernel
theorem dX5_tell_6 : decode cX5_tell 6 = .ok (.ifCond .ne 5, 3) := by decide +kernel
theorem dX5_tell_9 : decode cX5_tell 9 = .ok (.iconst 0, 1) := by decide +kernel
theorem dX5_tell_10 : decode cX5_tell 10 = .ok (.ireturn, 1) := by decide +kernel
theorem dX5_tell_11 : decode cX5_tell 11 = .ok (.aload_n 0, 1) := by decide +kernel
theorem dX5_tell_12 : decode cX5_tell 12 = .ok (.getfield 15, 3) := by decide +kernel
theorem dX5_tell_15 : decode cX5_tell 15 = .ok (.iload_n 1, 1) := by decide +kernel
theorem dX5_tell_16 : decode cX5_tell 16 = .ok (.iaload, 1) := by decide +kernel
theorem dX5_tell_17 : decode cX5_tell 17 = .ok (.istore_n 3, 1) := by decide +kernel
theorem dX5_tell_18 : decode cX5_tell 18 = .ok (.aload_n 0, 1) := by decide +kernel
theorem dX5_tell_19 : decode cX5_tell 19 = .ok (.getfield 15, 3) := by decide +kernel
theorem dX5_tell_22 : decode cX5_tell 22 = .ok (.iload_n 1, 1) := by decide +kernel
theorem dX5_tell_23 : decode cX5_tell 23 = .ok (.iload_n 2, 1) := by decide +kernel
theorem dX5_tell_24 : decode cX5_tell 24 = .ok (.iastore, 1) := by decide +kernel
theorem dX5_tell_25 : decode cX5_tell 25 = .ok (.aload_n 0, 1) := by decide +kernel
theorem dX5_tell_26 : decode cX5_tell 26 = .ok (.iload_n 3, 1) := by decide +kernel
theorem dX5_tell_27 : decode cX5_tell 27 = .ok (.invokevirtual 107, 3) := by decide +kernel
theorem dX5_tell_30 : decode cX5_tell 30 = .ok (.aload_n 0, 1) := by decide +kernel
theorem dX5_tell_31 : decode cX5_tell 31 = .ok (.iload_n 2, 1) := by decide +kernel
theorem dX5_tell_32 : decode cX5_tell 32 = .ok (.invokevirtual 107, 3) := by decide +kernel
theorem dX5_tell_35 : decode cX5_tell 35 = .ok (.iconst 1, 1) := by decide +kernel
theorem dX5_tell_36 : decode cX5_tell 36 = .ok (.ireturn, 1) := by decide +kernel
theorem dX5_weights_0 : decode cX5_weights 0 = .ok (.iload_n 1, 1) := by decide +kernel
theorem dX5_weights_1 : decode cX5_weights 1 = .ok (.iconst 0, 1) := by decide +kernel
theorem dX5_weights_2 : decode cX5_weights 2 = .ok (.bipush 9, 2) := by decide +kernel
theorem dX5_weights_4 : decode cX5_weights 4 = .ok (.invokestatic 89, 3) := by decide +kernel
theorem dX5_weights_7 : decode cX5_weights 7 = .ok (.ifCond .eq 45, 3) := by decide +kernel
theorem dX5_weights_10 : decode cX5_weights 10 = .ok (.iload_n 2, 1) := by decide +kernel
theorem dX5_weights_11 : decode cX5_weights 11 = .ok (.iconst 0, 1) := by decide +kernel
theorem dX5_weights_12 : decode cX5_weights 12 = .ok (.bipush 9, 2) := by decide +kernel
theorem dX5_weights_14 : decode cX5_weights 14 = .ok (.invokestatic 89, 3) := by decide +kernel
theorem dX5_weights_17 : decode cX5_weights 17 = .ok (.ifCond .eq 35, 3) := by decide +kernel
theorem dX5_weights_20 : decode cX5_weights 20 = .ok (.iload_n 3, 1) := by decide +kernel
theorem dX5_weights_21 : decode cX5_weights 21 = .ok (.iconst 0, 1) := by decide +kernel
theorem dX5_weights_22 : decode cX5_weights 22 = .ok (.bipush 99, 2) := by decide +kernel
theorem dX5_weights_24 : decode cX5_weights 24 = .ok (.invokestatic 89, 3) := by decide +kernel
theorem dX5_weights_27 : decode cX5_weights 27 = .ok (.ifCond .eq 25, 3) := by decide +kernel
theorem dX5_weights_30 : decode cX5_weights 30 = .ok (.iload 4, 2) := by decide +kernel
theorem dX5_weights_32 : decode cX5_weights 32 = .ok (.iconst 0, 1) := by decide +kernel
theorem dX5_weights_33 : decode cX5_weights 33 = .ok (.bipush 99, 2) := by decide +kernel
theorem dX5_weights_35 : decode cX5_weights 35 = .ok (.invokestatic 89, 3) := by decide +kernel
theorem dX5_weights_38 : decode cX5_weights 38 = .ok (.ifCond .eq 14, 3) := by decide +kernel
theorem dX5_weights_41 : decode cX5_weights 41 = .ok (.iload 5, 2) := by decide +kernel
theorem dX5_weights_43 : decode cX5_weights 43 = .ok (.iconst 0, 1) := by decide +kernel
theorem dX5_weights_44 : decode cX5_weights 44 = .ok (.bipush 99, 2) := by decide +kernel
theorem dX5_weights_46 : decode cX5_weights 46 = .ok (.invokestatic 89, 3) := by decide +kernel
theorem dX5_weights_49 : decode cX5_weights 49 = .ok (.ifCond .ne 5, 3) := by decide +kernel
theorem dX5_weights_52 : decode cX5_weights 52 = .ok (.iconst 0, 1) := by decide +kernel
theorem dX5_weights_53 : decode cX5_weights 53 = .ok (.ireturn, 1) := by decide +kernel
theorem dX5_weights_54 : decode cX5_weights 54 = .ok (.aload_n 0, 1) := by decide +kernel
theorem dX5_weights_55 : decode cX5_weights 55 = .ok (.getfield 28, 3) := by decide +kernel
theorem dX5_weights_58 : decode cX5_weights 58 = .ok (.iload_n 1, 1) := by decide +kernel
theorem dX5_weights_59 : decode cX5_weights 59 = .ok (.putfield 114, 3) := by decide +kernel
theorem dX5_weights_62 : decode cX5_weights 62 = .ok (.aload_n 0, 1) := by decide +kernel
theorem dX5_weights_63 : decode cX5_weights 63 = .ok (.getfield 28, 3) := by decide +kernel
theorem dX5_weights_66 : decode cX5_weights 66 = .ok (.iload_n 2, 1) := by decide +kernel
theorem dX5_weights_67 : decode cX5_weights 67 = .ok (.putfield 117, 3) := by decide +kernel
theorem dX5_weights_70 : decode cX5_weights 70 = .ok (.aload_n 0, 1) := by decide +kernel
theorem dX5_weights_71 : decode cX5_weights 71 = .ok (.getfield 28, 3) := by decide +kernel
theorem dX5_weights_74 : decode cX5_weights 74 = .ok (.iload_n 3, 1) := by decide +kernel
theorem dX5_weights_75 : decode cX5_weights 75 = .ok (.putfield 120, 3) := by decide +kernel
theorem dX5_weights_78 : decode cX5_weights 78 = .ok (.aload_n 0, 1) := by decide +kernel
theorem dX5_weights_79 : decode cX5_weights 79 = .ok (.getfield 28, 3) := by decide +kernel
theorem dX5_weights_82 : decode cX5_weights 82 = .ok (.iload 4, 2) := by decide +kernel
theorem dX5_weights_84 : decode cX5_weights 84 = .ok (.putfield 123, 3) := by decide +kernel
theorem dX5_weights_87 : decode cX5_weights 87 = .ok (.aload_n 0, 1) := by decide +kernel
theorem dX5_weights_88 : decode cX5_weights 88 = .ok (.getfield 28, 3) := by decide +kernel
theorem dX5_weights_91 : decode cX5_weights 91 = .ok (.iload 5, 2) := by decide +kernel
theorem dX5_weights_93 : decode cX5_weights 93 = .ok (.putfield 126, 3) := by decide +kernel
theorem dX5_weights_96 : decode cX5_weights 96 = .ok (.aload_n 0, 1) := by decide +kernel
theorem dX5_weights_97 : decode cX5_weights 97 = .ok (.invokevirtual 82, 3) := by decide +kernel
theorem dX5_weights_100 : decode cX5_weights 100 = .ok (.iconst 1, 1) := by decide +kernel
theorem dX5_weights_101 : decode cX5_weights 101 = .ok (.ireturn, 1) := by decide +kernel
theorem dX5_bounds_0 : decode cX5_bounds 0 = .ok (.iload_n 1, 1) := by decide +kernel
theorem dX5_bounds_1 : decode cX5_bounds 1 = .ok (.iconst 0, 1) := by decide +kernel
theorem dX5_bounds_2 : decode cX5_bounds 2 = .ok (.sipush 1000, 3) := by decide +kernel
theorem dX5_bounds_5 : decode cX5_bounds 5 = .ok (.invokestatic 89, 3) := by decide +kernel
theorem dX5_bounds_8 : decode cX5_bounds 8 = .ok (.ifCond .eq 25, 3) := by decide +kernel
theorem dX5_bounds_11 : decode cX5_bounds 11 = .ok (.iload_n 2, 1) := by decide +kernel
theorem dX5_bounds_12 : decode cX5_bounds 12 = .ok (.iconst 0, 1) := by decide +kernel
theorem dX5_bounds_13 : decode cX5_bounds 13 = .ok (.sipush 1000, 3) := by decide +kernel
theorem dX5_bounds_16 : decode cX5_bounds 16 = .ok (.invokestatic 89, 3) := by decide +kernel
theorem dX5_bounds_19 : decode cX5_bounds 19 = .ok (.ifCond .eq 14, 3) := by decide +kernel
theorem dX5_bounds_22 : decode cX5_bounds 22 = .ok (.iload_n 3, 1) := by decide +kernel
theorem dX5_bounds_23 : decode cX5_bounds 23 = .ok (.iconst 0, 1) := by decide +kernel
theorem dX5_bounds_24 : decode cX5_bounds 24 = .ok (.sipush 1000, 3) := by decide +kernel
theorem dX5_bounds_27 : decode cX5_bounds 27 = .ok (.invokestatic 89, 3) := by decide +kernel
theorem dX5_bounds_30 : decode cX5_bounds 30 = .ok (.ifCond .ne 5, 3) := by decide +kernel
theorem dX5_bounds_33 : decode cX5_bounds 33 = .ok (.iconst 0, 1) := by decide +kernel
theorem dX5_bounds_34 : decode cX5_bounds 34 = .ok (.ireturn, 1) := by decide +kernel
theorem dX5_bounds_35 : decode cX5_bounds 35 = .ok (.aload_n 0, 1) := by decide +kernel
theorem dX5_bounds_36 : decode cX5_bounds 36 = .ok (.iload_n 1, 1) := by decide +kernel
theorem dX5_bounds_37 : decode cX5_bounds 37 = .ok (.putfield 70, 3) := by decide +kernel
theorem dX5_bounds_40 : decode cX5_bounds 40 = .ok (.aload_n 0, 1) := by decide +kernel
theorem dX5_bounds_41 : decode cX5_bounds 41 = .ok (.iload_n 2, 1) := by decide +kernel
theorem dX5_bounds_42 : decode cX5_bounds 42 = .ok (.putfield 73, 3) := by decide +kernel
theorem dX5_bounds_45 : decode cX5_bounds 45 = .ok (.aload_n 0, 1) := by decide +kernel
theorem dX5_bounds_46 : decode cX5_bounds 46 = .ok (.iload_n 3, 1) := by decide +kernel
theorem dX5_bounds_47 : decode cX5_bounds 47 = .ok (.putfield 76, 3) := by decide +kernel
theorem dX5_bounds_50 : decode cX5_bounds 50 = .ok (.iconst 1, 1) := by decide +kernel
theorem dX5_bounds_51 : decode cX5_bounds 51 = .ok (.ireturn, 1) := by decide +kernel
theorem dX5_kind_0 : decode cX5_kind 0 = .ok (.iload_n 1, 1) := by decide +kernel
theorem dX5_kind_1 : decode cX5_kind 1 = .ok (.invokestatic 129, 3) := by decide +kernel
theorem dX5_kind_4 : decode cX5_kind 4 = .ok (.ifCond .ne 5, 3) := by decide +kernel
theorem dX5_kind_7 : decode cX5_kind 7 = .ok (.iconst (-1), 1) := by decide +kernel
theorem dX5_kind_8 : decode cX5_kind 8 = .ok (.ireturn, 1) := by decide +kernel
theorem dX5_kind_9 : decode cX5_kind 9 = .ok (.iload_n 2, 1) := by decide +kernel
theorem dX5_kind_10 : decode cX5_kind 10 = .ok (.lookupswitch 49 #[(0, 26), (1, 36)], 26) := by decide +kernel
theorem dX5_kind_36 : decode cX5_kind 36 = .ok (.aload_n 0, 1) := by decide +kernel
theorem dX5_kind_37 : decode cX5_kind 37 = .ok (.getfield 21, 3) := by decide +kernel
theorem dX5_kind_40 : decode cX5_kind 40 = .ok (.iload_n 1, 1) := by decide +kernel
theorem dX5_kind_41 : decode cX5_kind 41 = .ok (.aaload, 1) := by decide +kernel
theorem dX5_kind_42 : decode cX5_kind 42 = .ok (.getfield 132, 3) := by decide +kernel
theorem dX5_kind_45 : decode cX5_kind 45 = .ok (.ireturn, 1) := by decide +kernel
theorem dX5_kind_46 : decode cX5_kind 46 = .ok (.aload_n 0, 1) := by decide +kernel
theorem dX5_kind_47 : decode cX5_kind 47 = .ok (.getfield 21, 3) := by decide +kernel
theorem dX5_kind_50 : decode cX5_kind 50 = .ok (.iload_n 1, 1) := by decide +kernel
theorem dX5_kind_51 : decode cX5_kind 51 = .ok (.aaload, 1) := by decide +kernel
theorem dX5_kind_52 : decode cX5_kind 52 = .ok (.getfield 133, 3) := by decide +kernel
theorem dX5_kind_55 : decode cX5_kind 55 = .ok (.getfield 93, 3) := by decide +kernel
theorem dX5_kind_58 : decode cX5_kind 58 = .ok (.ireturn, 1) := by decide +kernel
theorem dX5_kind_59 : decode cX5_kind 59 = .ok (.iconst (-1), 1) := by decide +kernel
theorem dX5_kind_60 : decode cX5_kind 60 = .ok (.ireturn, 1) := by decide +kernel
theorem dX5_spot_0 : decode cX5_spot 0 = .ok (.iload_n 1, 1) := by decide +kernel
theorem dX5_spot_1 : decode cX5_spot 1 = .ok (.invokestatic 129, 3) := by decide +kernel
theorem dX5_spot_4 : decode cX5_spot 4 = .ok (.ifCond .eq 25, 3) := by decide +kernel
theorem dX5_spot_7 : decode cX5_spot 7 = .ok (.iload_n 2, 1) := by decide +kernel
theorem dX5_spot_8 : decode cX5_spot 8 = .ok (.iconst 0, 1) := by decide +kernel
theorem dX5_spot_9 : decode cX5_spot 9 = .ok (.aload_n 0, 1) := by decide +kernel
theorem dX5_spot_10 : decode cX5_spot 10 = .ok (.getfield 21, 3) := by decide +kernel
theorem dX5_spot_13 : decode cX5_spot 13 = .ok (.iload_n 1, 1) := by decide +kernel
theorem dX5_spot_14 : decode cX5_spot 14 = .ok (.aaload, 1) := by decide +kernel
theorem dX5_spot_15 : decode cX5_spot 15 = .ok (.getfield 133, 3) := by decide +kernel
theorem dX5_spot_18 : decode cX5_spot 18 = .ok (.getfield 93, 3) := by decide +kernel
theorem dX5_spot_21 : decode cX5_spot 21 = .ok (.iconst 1, 1) := by decide +kernel
theorem dX5_spot_22 : decode cX5_spot 22 = .ok (.isub, 1) := by decide +kernel
theorem dX5_spot_23 : decode cX5_spot 23 = .ok (.invokestatic 89, 3) := by decide +kernel
theorem dX5_spot_26 : decode cX5_spot 26 = .ok (.ifCond .ne 5, 3) := by decide +kernel
theorem dX5_spot_29 : decode cX5_spot 29 = .ok (.iconst (-1), 1) := by decide +kernel
theorem dX5_spot_30 : decode cX5_spot 30 = .ok (.ireturn, 1) := by decide +kernel
theorem dX5_spot_31 : decode cX5_spot 31 = .ok (.aload_n 0, 1) := by decide +kernel
theorem dX5_spot_32 : decode cX5_spot 32 = .ok (.getfield 21, 3) := by decide +kernel
theorem dX5_spot_35 : decode cX5_spot 35 = .ok (.iload_n 1, 1) := by decide +kernel
theorem dX5_spot_36 : decode cX5_spot 36 = .ok (.aaload, 1) := by decide +kernel
theorem dX5_spot_37 : decode cX5_spot 37 = .ok (.getfield 133, 3) := by decide +kernel
theorem dX5_spot_40 : decode cX5_spot 40 = .ok (.astore 4, 2) := by decide +kernel
theorem dX5_spot_42 : decode cX5_spot 42 = .ok (.iload_n 3, 1) := by decide +kernel
theorem dX5_spot_43 : decode cX5_spot 43 = .ok (.tableswitch 69 0 3 #[29, 37, 45, 53], 29) := by decide +kernel
theorem dX5_spot_72 : decode cX5_spot 72 = .ok (.aload 4, 2) := by decide +kernel
theorem dX5_spot_74 : decode cX5_spot 74 = .ok (.getfield 137, 3) := by decide +kernel
theorem dX5_spot_77 : decode cX5_spot 77 = .ok (.iload_n 2, 1) := by decide +kernel
theorem dX5_spot_78 : decode cX5_spot 78 = .ok (.iaload, 1) := by decide +kernel
theorem dX5_spot_79 : decode cX5_spot 79 = .ok (.ireturn, 1) := by decide +kernel
theorem dX5_spot_80 : decode cX5_spot 80 = .ok (.aload 4, 2) := by decide +kernel
theorem dX5_spot_82 : decode cX5_spot 82 = .ok (.getfield 140, 3) := by decide +kernel
theorem dX5_spot_85 : decode cX5_spot 85 = .ok (.iload_n 2, 1) := by decide +kernel
theorem dX5_spot_86 : decode cX5_spot 86 = .ok (.iaload, 1) := by decide +kernel
theorem dX5_spot_87 : decode cX5_spot 87 = .ok (.ireturn, 1) := by decide +kernel
theorem dX5_spot_88 : decode cX5_spot 88 = .ok (.aload 4, 2) := by decide +kernel
theorem dX5_spot_90 : decode cX5_spot 90 = .ok (.getfield 143, 3) := by decide +kernel
theorem dX5_spot_93 : decode cX5_spot 93 = .ok (.iload_n 2, 1) := by decide +kernel
theorem dX5_spot_94 : decode cX5_spot 94 = .ok (.iaload, 1) := by decide +kernel
theorem dX5_spot_95 : decode cX5_spot 95 = .ok (.ireturn, 1) := by decide +kernel
theorem dX5_spot_96 : decode cX5_spot 96 = .ok (.aload 4, 2) := by decide +kernel
theorem dX5_spot_98 : decode cX5_spot 98 = .ok (.getfield 146, 3) := by decide +kernel
theorem dX5_spot_101 : decode cX5_spot 101 = .ok (.iload_n 2, 1) := by decide +kernel
theorem dX5_spot_102 : decode cX5_spot 102 = .ok (.baload, 1) := by decide +kernel
theorem dX5_spot_103 : decode cX5_spot 103 = .ok (.ifCond .eq 7, 3) := by decide +kernel
theorem dX5_spot_106 : decode cX5_spot 106 = .ok (.iconst 1, 1) := by decide +kernel
theorem dX5_spot_107 : decode cX5_spot 107 = .ok (.goto 4, 3) := by decide +kernel
theorem dX5_spot_110 : decode cX5_spot 110 = .ok (.iconst 0, 1) := by decide +kernel
theorem dX5_spot_111 : decode cX5_spot 111 = .ok (.ireturn, 1) := by decide +kernel
theorem dX5_spot_112 : decode cX5_spot 112 = .ok (.iconst (-1), 1) := by decide +kernel
theorem dX5_spot_113 : decode cX5_spot 113 = .ok (.ireturn, 1) := by decide +kernel
theorem dX5_lay_0 : decode cX5_lay 0 = .ok (.aload_n 0, 1) := by decide +kernel
theorem dX5_lay_1 : decode cX5_lay 1 = .ok (.iload_n 1, 1) := by decide +kernel
theorem dX5_lay_2 : decode cX5_lay 2 = .ok (.invokevirtual 85, 3) := by decide +kernel
theorem dX5_lay_5 : decode cX5_lay 5 = .ok (.ifCond .eq 11, 3) := by decide +kernel
theorem dX5_lay_8 : decode cX5_lay 8 = .ok (.aload_n 0, 1) := by decide +kernel
theorem dX5_lay_9 : decode cX5_lay 9 = .ok (.iload_n 2, 1) := by decide +kernel
theorem dX5_lay_10 : decode cX5_lay 10 = .ok (.invokevirtual 150, 3) := by decide +kernel
theorem dX5_lay_13 : decode cX5_lay 13 = .ok (.ifCond .ne 5, 3) := by decide +kernel
theorem dX5_lay_16 : decode cX5_lay 16 = .ok (.iconst (-1), 1) := by decide +kernel
theorem dX5_lay_17 : decode cX5_lay 17 = .ok (.ireturn, 1) := by decide +kernel
theorem dX5_lay_18 : decode cX5_lay 18 = .ok (.iload_n 3, 1) := by decide +kernel
theorem dX5_lay_19 : decode cX5_lay 19 = .ok (.ifCond .ne 18, 3) := by decide +kernel
theorem dX5_lay_22 : decode cX5_lay 22 = .ok (.aload_n 0, 1) := by decide +kernel
theorem dX5_lay_23 : decode cX5_lay 23 = .ok (.iload_n 1, 1) := by decide +kernel
theorem dX5_lay_24 : decode cX5_lay 24 = .ok (.aload_n 0, 1) := by decide +kernel
theorem dX5_lay_25 : decode cX5_lay 25 = .ok (.getfield 21, 3) := by decide +kernel
theorem dX5_lay_28 : decode cX5_lay 28 = .ok (.iload_n 2, 1) := by decide +kernel
theorem dX5_lay_29 : decode cX5_lay 29 = .ok (.aaload, 1) := by decide +kernel
theorem dX5_lay_30 : decode cX5_lay 30 = .ok (.invokevirtual 153, 3) := by decide +kernel
theorem dX5_lay_33 : decode cX5_lay 33 = .ok (.invokestatic 157, 3) := by decide +kernel
theorem dX5_lay_36 : decode cX5_lay 36 = .ok (.ireturn, 1) := by decide +kernel
theorem dX5_lay_37 : decode cX5_lay 37 = .ok (.iload_n 3, 1) := by decide +kernel
theorem dX5_lay_38 : decode cX5_lay 38 = .ok (.bipush 10, 2) := by decide +kernel
theorem dX5_lay_40 : decode cX5_lay 40 = .ok (.if_icmp .lt 19, 3) := by decide +kernel
theorem dX5_lay_43 : decode cX5_lay 43 = .ok (.iload_n 3, 1) := by decide +kernel
theorem dX5_lay_44 : decode cX5_lay 44 = .ok (.bipush 10, 2) := by decide +kernel
theorem dX5_lay_46 : decode cX5_lay 46 = .ok (.isub, 1) := by decide +kernel
theorem dX5_lay_47 : decode cX5_lay 47 = .ok (.aload_n 0, 1) := by decide +kernel
theorem dX5_lay_48 : decode cX5_lay 48 = .ok (.getfield 11, 3) := by decide +kernel
theorem dX5_lay_51 : decode cX5_lay 51 = .ok (.iload_n 1, 1) := by decide +kernel
theorem dX5_lay_52 : decode cX5_lay 52 = .ok (.aaload, 1) := by decide +kernel
theorem dX5_lay_53 : decode cX5_lay 53 = .ok (.getfield 93, 3) := by decide +kernel
theorem dX5_lay_56 : decode cX5_lay 56 = .ok (.if_icmp .lt 5, 3) := by decide +kernel
theorem dX5_lay_59 : decode cX5_lay 59 = .ok (.iconst (-1), 1) := by decide +kernel
theorem dX5_lay_60 : decode cX5_lay 60 = .ok (.ireturn, 1) := by decide +kernel
theorem dX5_lay_61 : decode cX5_lay 61 = .ok (.aload_n 0, 1) := by decide +kernel
theorem dX5_lay_62 : decode cX5_lay 62 = .ok (.iload_n 1, 1) := by decide +kernel
theorem dX5_lay_63 : decode cX5_lay 63 = .ok (.aload_n 0, 1) := by decide +kernel
theorem dX5_lay_64 : decode cX5_lay 64 = .ok (.getfield 21, 3) := by decide +kernel
theorem dX5_lay_67 : decode cX5_lay 67 = .ok (.iload_n 2, 1) := by decide +kernel
theorem dX5_lay_68 : decode cX5_lay 68 = .ok (.aaload, 1) := by decide +kernel
theorem dX5_lay_69 : decode cX5_lay 69 = .ok (.invokevirtual 153, 3) := by decide +kernel
theorem dX5_lay_72 : decode cX5_lay 72 = .ok (.iload_n 3, 1) := by decide +kernel
theorem dX5_lay_73 : decode cX5_lay 73 = .ok (.bipush 10, 2) := by decide +kernel
theorem dX5_lay_75 : decode cX5_lay 75 = .ok (.isub, 1) := by decide +kernel
theorem dX5_lay_76 : decode cX5_lay 76 = .ok (.invokestatic 161, 3) := by decide +kernel
theorem dX5_lay_79 : decode cX5_lay 79 = .ok (.ireturn, 1) := by decide +kernel
theorem dX5_moved_0 : decode cX5_moved 0 = .ok (.aload_n 0, 1) := by decide +kernel
theorem dX5_moved_1 : decode cX5_moved 1 = .ok (.iload_n 1, 1) := by decide +kernel
theorem dX5_moved_2 : decode cX5_moved 2 = .ok (.invokevirtual 85, 3) := by decide +kernel
theorem dX5_moved_5 : decode cX5_moved 5 = .ok (.ifCond .eq 11, 3) := by decide +kernel
theorem dX5_moved_8 : decode cX5_moved 8 = .ok (.aload_n 0, 1) := by decide +kernel
theorem dX5_moved_9 : decode cX5_moved 9 = .ok (.iload_n 2, 1) := by decide +kernel
theorem dX5_moved_10 : decode cX5_moved 10 = .ok (.invokevirtual 150, 3) := by decide +kernel
theorem dX5_moved_13 : decode cX5_moved 13 = .ok (.ifCond .ne 6, 3) := by decide +kernel
theorem dX5_moved_16 : decode cX5_moved 16 = .ok (.bipush (-10), 2) := by decide +kernel
theorem dX5_moved_18 : decode cX5_moved 18 = .ok (.ireturn, 1) := by decide +kernel
theorem dX5_moved_19 : decode cX5_moved 19 = .ok (.aload_n 0, 1) := by decide +kernel
theorem dX5_moved_20 : decode cX5_moved 20 = .ok (.iload_n 1, 1) := by decide +kernel
theorem dX5_moved_21 : decode cX5_moved 21 = .ok (.aload_n 0, 1) := by decide +kernel
theorem dX5_moved_22 : decode cX5_moved 22 = .ok (.getfield 21, 3) := by decide +kernel
theorem dX5_moved_25 : decode cX5_moved 25 = .ok (.iload_n 2, 1) := by decide +kernel
theorem dX5_moved_26 : decode cX5_moved 26 = .ok (.aaload, 1) := by decide +kernel
theorem dX5_moved_27 : decode cX5_moved 27 = .ok (.invokevirtual 153, 3) := by decide +kernel
theorem dX5_moved_30 : decode cX5_moved 30 = .ok (.invokestatic 165, 3) := by decide +kernel
theorem dX5_moved_33 : decode cX5_moved 33 = .ok (.istore 4, 2) := by decide +kernel
theorem dX5_moved_35 : decode cX5_moved 35 = .ok (.iload_n 3, 1) := by decide +kernel
theorem dX5_moved_36 : decode cX5_moved 36 = .ok (.ifCond .eq 11, 3) := by decide +kernel
theorem dX5_moved_39 : decode cX5_moved 39 = .ok (.iload 4, 2) := by decide +kernel
theorem dX5_moved_41 : decode cX5_moved 41 = .ok (.invokestatic 168, 3) := by decide +kernel
theorem dX5_moved_44 : decode cX5_moved 44 = .ok (.goto 8, 3) := by decide +kernel
theorem dX5_moved_47 : decode cX5_moved 47 = .ok (.iload 4, 2) := by decide +kernel
theorem dX5_moved_49 : decode cX5_moved 49 = .ok (.invokestatic 171, 3) := by decide +kernel
theorem dX5_moved_52 : decode cX5_moved 52 = .ok (.ireturn, 1) := by decide +kernel
theorem dX5_read_0 : decode cX5_read 0 = .ok (.aload_n 0, 1) := by decide +kernel
theorem dX5_read_1 : decode cX5_read 1 = .ok (.iload_n 1, 1) := by decide +kernel
theorem dX5_read_2 : decode cX5_read 2 = .ok (.invokevirtual 85, 3) := by decide +kernel
theorem dX5_read_5 : decode cX5_read 5 = .ok (.ifCond .eq 33, 3) := by decide +kernel
theorem dX5_read_8 : decode cX5_read 8 = .ok (.aload_n 0, 1) := by decide +kernel
theorem dX5_read_9 : decode cX5_read 9 = .ok (.iload_n 2, 1) := by decide +kernel
theorem dX5_read_10 : decode cX5_read 10 = .ok (.invokevirtual 150, 3) := by decide +kernel
theorem dX5_read_13 : decode cX5_read 13 = .ok (.ifCond .eq 25, 3) := by decide +kernel
theorem dX5_read_16 : decode cX5_read 16 = .ok (.iload_n 3, 1) := by decide +kernel
theorem dX5_read_17 : decode cX5_read 17 = .ok (.iconst 0, 1) := by decide +kernel
theorem dX5_read_18 : decode cX5_read 18 = .ok (.aload_n 0, 1) := by decide +kernel
theorem dX5_read_19 : decode cX5_read 19 = .ok (.getfield 21, 3) := by decide +kernel
theorem dX5_read_22 : decode cX5_read 22 = .ok (.iload_n 2, 1) := by decide +kernel
theorem dX5_read_23 : decode cX5_read 23 = .ok (.aaload, 1) := by decide +kernel
theorem dX5_read_24 : decode cX5_read 24 = .ok (.getfield 133, 3) := by decide +kernel
theorem dX5_read_27 : decode cX5_read 27 = .ok (.getfield 93, 3) := by decide +kernel
theorem dX5_read_30 : decode cX5_read 30 = .ok (.iconst 1, 1) := by decide +kernel
theorem dX5_read_31 : decode cX5_read 31 = .ok (.isub, 1) := by decide +kernel
theorem dX5_read_32 : decode cX5_read 32 = .ok (.invokestatic 89, 3) := by decide +kernel
theorem dX5_read_35 : decode cX5_read 35 = .ok (.ifCond .ne 5, 3) := by decide +kernel
theorem dX5_read_38 : decode cX5_read 38 = .ok (.iconst (-1), 1) := by decide +kernel
theorem dX5_read_39 : decode cX5_read 39 = .ok (.ireturn, 1) := by decide +kernel
theorem dX5_read_40 : decode cX5_read 40 = .ok (.aload_n 0, 1) := by decide +kernel
theorem dX5_read_41 : decode cX5_read 41 = .ok (.iload_n 1, 1) := by decide +kernel
theorem dX5_read_42 : decode cX5_read 42 = .ok (.aload_n 0, 1) := by decide +kernel
theorem dX5_read_43 : decode cX5_read 43 = .ok (.getfield 21, 3) := by decide +kernel
theorem dX5_read_46 : decode cX5_read 46 = .ok (.iload_n 2, 1) := by decide +kernel
theorem dX5_read_47 : decode cX5_read 47 = .ok (.aaload, 1) := by decide +kernel
theorem dX5_read_48 : decode cX5_read 48 = .ok (.invokevirtual 153, 3) := by decide +kernel
theorem dX5_read_51 : decode cX5_read 51 = .ok (.lstore 4, 2) := by decide +kernel
theorem dX5_read_53 : decode cX5_read 53 = .ok (.aload_n 0, 1) := by decide +kernel
theorem dX5_read_54 : decode cX5_read 54 = .ok (.getfield 11, 3) := by decide +kernel
theorem dX5_read_57 : decode cX5_read 57 = .ok (.iload_n 1, 1) := by decide +kernel
theorem dX5_read_58 : decode cX5_read 58 = .ok (.aaload, 1) := by decide +kernel
theorem dX5_read_59 : decode cX5_read 59 = .ok (.astore 6, 2) := by decide +kernel
theorem dX5_read_61 : decode cX5_read 61 = .ok (.iconst 0, 1) := by decide +kernel
theorem dX5_read_62 : decode cX5_read 62 = .ok (.istore 7, 2) := by decide +kernel
theorem dX5_read_64 : decode cX5_read 64 = .ok (.iload 7, 2) := by decide +kernel
theorem dX5_read_66 : decode cX5_read 66 = .ok (.aload 6, 2) := by decide +kernel
theorem dX5_read_68 : decode cX5_read 68 = .ok (.getfield 93, 3) := by decide +kernel
theorem dX5_read_71 : decode cX5_read 71 = .ok (.if_icmp .ge 29, 3) := by decide +kernel
theorem dX5_read_74 : decode cX5_read 74 = .ok (.lload 4, 2) := by decide +kernel
theorem dX5_read_76 : decode cX5_read 76 = .ok (.iload 7, 2) := by decide +kernel
theorem dX5_read_78 : decode cX5_read 78 = .ok (.invokestatic 161, 3) := by decide +kernel
theorem dX5_read_81 : decode cX5_read 81 = .ok (.iload_n 3, 1) := by decide +kernel
theorem dX5_read_82 : decode cX5_read 82 = .ok (.if_icmp .ne 12, 3) := by decide +kernel
theorem dX5_read_85 : decode cX5_read 85 = .ok (.aload 6, 2) := by decide +kernel
theorem dX5_read_87 : decode cX5_read 87 = .ok (.getfield 137, 3) := by decide +kernel
theorem dX5_read_90 : decode cX5_read 90 = .ok (.iload 7, 2) := by decide +kernel
theorem dX5_read_92 : decode cX5_read 92 = .ok (.iaload, 1) := by decide +kernel
theorem dX5_read_93 : decode cX5_read 93 = .ok (.ireturn, 1) := by decide +kernel
theorem dX5_read_94 : decode cX5_read 94 = .ok (.iinc 7 1, 3) := by decide +kernel
theorem dX5_read_97 : decode cX5_read 97 = .ok (.goto (-33), 3) := by decide +kernel
theorem dX5_read_100 : decode cX5_read 100 = .ok (.iconst (-1), 1) := by decide +kernel
theorem dX5_read_101 : decode cX5_read 101 = .ok (.ireturn, 1) := by decide +kernel
theorem dX5_sorted_0 : decode cX5_sorted 0 = .ok (.aload_n 0, 1) := by decide +kernel
theorem dX5_sorted_1 : decode cX5_sorted 1 = .ok (.iload_n 1, 1) := by decide +kernel
theorem dX5_sorted_2 : decode cX5_sorted 2 = .ok (.invokevirtual 85, 3) := by decide +kernel
theorem dX5_sorted_5 : decode cX5_sorted 5 = .ok (.ifCond .eq 15, 3) := by decide +kernel
theorem dX5_sorted_8 : decode cX5_sorted 8 = .ok (.aload_n 0, 1) := by decide +kernel
theorem dX5_sorted_9 : decode cX5_sorted 9 = .ok (.iload_n 1, 1) := by decide +kernel
theorem dX5_sorted_10 : decode cX5_sorted 10 = .ok (.aload_n 0, 1) := by decide +kernel
theorem dX5_sorted_11 : decode cX5_sorted 11 = .ok (.getfield 21, 3) := by decide +kernel
theorem dX5_sorted_14 : decode cX5_sorted 14 = .ok (.invokevirtual 174, 3) := by decide +kernel
theorem dX5_sorted_17 : decode cX5_sorted 17 = .ok (.goto 4, 3) := by decide +kernel
theorem dX5_sorted_20 : decode cX5_sorted 20 = .ok (.iconst (-1), 1) := by decide +kernel
theorem dX5_sorted_21 : decode cX5_sorted 21 = .ok (.ireturn, 1) := by decide +kernel
theorem dX5_told_0 : decode cX5_told 0 = .ok (.aload_n 0, 1) := by decide +kernel
theorem dX5_told_1 : decode cX5_told 1 = .ok (.iload_n 1, 1) := by decide +kernel
theorem dX5_told_2 : decode cX5_told 2 = .ok (.invokevirtual 85, 3) := by decide +kernel
theorem dX5_told_5 : decode cX5_told 5 = .ok (.ifCond .eq 12, 3) := by decide +kernel
theorem dX5_told_8 : decode cX5_told 8 = .ok (.aload_n 0, 1) := by decide +kernel
theorem dX5_told_9 : decode cX5_told 9 = .ok (.getfield 15, 3) := by decide +kernel
theorem dX5_told_12 : decode cX5_told 12 = .ok (.iload_n 1, 1) := by decide +kernel
theorem dX5_told_13 : decode cX5_told 13 = .ok (.iaload, 1) := by decide +kernel
theorem dX5_told_14 : decode cX5_told 14 = .ok (.goto 4, 3) := by decide +kernel
theorem dX5_told_17 : decode cX5_told 17 = .ok (.iconst (-1), 1) := by decide +kernel
theorem dX5_told_18 : decode cX5_told 18 = .ok (.ireturn, 1) := by decide +kernel
theorem dX5_look_0 : decode cX5_look 0 = .ok (.iconst (-1), 1) := by decide +kernel
theorem dX5_look_1 : decode cX5_look 1 = .ok (.istore_n 1, 1) := by decide +kernel
theorem dX5_look_2 : decode cX5_look 2 = .ok (.ldc 178, 2) := by decide +kernel
theorem dX5_look_4 : decode cX5_look 4 = .ok (.istore_n 2, 1) := by decide +kernel
theorem dX5_look_5 : decode cX5_look 5 = .ok (.iconst 0, 1) := by decide +kernel
theorem dX5_look_6 : decode cX5_look 6 = .ok (.istore_n 3, 1) := by decide +kernel
theorem dX5_look_7 : decode cX5_look 7 = .ok (.iload_n 3, 1) := by decide +kernel
theorem dX5_look_8 : decode cX5_look 8 = .ok (.aload_n 0, 1) := by decide +kernel
theorem dX5_look_9 : decode cX5_look 9 = .ok (.getfield 66, 3) := by decide +kernel
theorem dX5_look_12 : decode cX5_look 12 = .ok (.if_icmp .ge 54, 3) := by decide +kernel
theorem dX5_look_15 : decode cX5_look 15 = .ok (.aload_n 0, 1) := by decide +kernel
theorem dX5_look_16 : decode cX5_look 16 = .ok (.getfield 15, 3) := by decide +kernel
theorem dX5_look_19 : decode cX5_look 19 = .ok (.iload_n 3, 1) := by decide +kernel
theorem dX5_look_20 : decode cX5_look 20 = .ok (.iaload, 1) := by decide +kernel
theorem dX5_look_21 : decode cX5_look 21 = .ok (.iconst (-1), 1) := by decide +kernel
theorem dX5_look_22 : decode cX5_look 22 = .ok (.if_icmp .ne 38, 3) := by decide +kernel
theorem dX5_look_25 : decode cX5_look 25 = .ok (.aload_n 0, 1) := by decide +kernel
theorem dX5_look_26 : decode cX5_look 26 = .ok (.iload_n 3, 1) := by decide +kernel
theorem dX5_look_27 : decode cX5_look 27 = .ok (.aload_n 0, 1) := by decide +kernel
theorem dX5_look_28 : decode cX5_look 28 = .ok (.getfield 21, 3) := by decide +kernel
theorem dX5_look_31 : decode cX5_look 31 = .ok (.invokevirtual 174, 3) := by decide +kernel
theorem dX5_look_34 : decode cX5_look 34 = .ok (.bipush 11, 2) := by decide +kernel
theorem dX5_look_36 : decode cX5_look 36 = .ok (.if_icmp .ne 24, 3) := by decide +kernel
theorem dX5_look_39 : decode cX5_look 39 = .ok (.aload_n 0, 1) := by decide +kernel
theorem dX5_look_40 : decode cX5_look 40 = .ok (.getfield 42, 3) := by decide +kernel
theorem dX5_look_43 : decode cX5_look 43 = .ok (.invokevirtual 179, 3) := by decide +kernel
theorem dX5_look_46 : decode cX5_look 46 = .ok (.iload_n 2, 1) := by decide +kernel
theorem dX5_look_47 : decode cX5_look 47 = .ok (.if_icmp .ge 13, 3) := by decide +kernel
theorem dX5_look_50 : decode cX5_look 50 = .ok (.iload_n 3, 1) := by decide +kernel
theorem dX5_look_51 : decode cX5_look 51 = .ok (.istore_n 1, 1) := by decide +kernel
theorem dX5_look_52 : decode cX5_look 52 = .ok (.aload_n 0, 1) := by decide +kernel
theorem dX5_look_53 : decode cX5_look 53 = .ok (.getfield 42, 3) := by decide +kernel
theorem dX5_look_56 : decode cX5_look 56 = .ok (.invokevirtual 179, 3) := by decide +kernel
theorem dX5_look_59 : decode cX5_look 59 = .ok (.istore_n 2, 1) := by decide +kernel
theorem dX5_look_60 : decode cX5_look 60 = .ok (.iinc 3 1, 3) := by decide +kernel
theorem dX5_look_63 : decode cX5_look 63 = .ok (.goto (-56), 3) := by decide +kernel
theorem dX5_look_66 : decode cX5_look 66 = .ok (.iload_n 1, 1) := by decide +kernel
theorem dX5_look_67 : decode cX5_look 67 = .ok (.ireturn, 1) := by decide +kernel
theorem dX5_heaps_0 : decode cX5_heaps 0 = .ok (.aload_n 0, 1) := by decide +kernel
theorem dX5_heaps_1 : decode cX5_heaps 1 = .ok (.invokevirtual 183, 3) := by decide +kernel
theorem dX5_heaps_4 : decode cX5_heaps 4 = .ok (.iconst 0, 1) := by decide +kernel
theorem dX5_heaps_5 : decode cX5_heaps 5 = .ok (.istore_n 1, 1) := by decide +kernel
theorem dX5_heaps_6 : decode cX5_heaps 6 = .ok (.iconst 0, 1) := by decide +kernel
theorem dX5_heaps_7 : decode cX5_heaps 7 = .ok (.istore_n 2, 1) := by decide +kernel
theorem dX5_heaps_8 : decode cX5_heaps 8 = .ok (.iload_n 2, 1) := by decide +kernel
theorem dX5_heaps_9 : decode cX5_heaps 9 = .ok (.aload_n 0, 1) := by decide +kernel
theorem dX5_heaps_10 : decode cX5_heaps 10 = .ok (.getfield 66, 3) := by decide +kernel
theorem dX5_heaps_13 : decode cX5_heaps 13 = .ok (.if_icmp .ge 22, 3) := by decide +kernel
theorem dX5_heaps_16 : decode cX5_heaps 16 = .ok (.aload_n 0, 1) := by decide +kernel
theorem dX5_heaps_17 : decode cX5_heaps 17 = .ok (.getfield 63, 3) := by decide +kernel
theorem dX5_heaps_20 : decode cX5_heaps 20 = .ok (.iload_n 2, 1) := by decide +kernel
theorem dX5_heaps_21 : decode cX5_heaps 21 = .ok (.iaload, 1) := by decide +kernel
theorem dX5_heaps_22 : decode cX5_heaps 22 = .ok (.iload_n 2, 1) := by decide +kernel
theorem dX5_heaps_23 : decode cX5_heaps 23 = .ok (.if_icmp .ne 6, 3) := by decide +kernel
theorem dX5_heaps_26 : decode cX5_heaps 26 = .ok (.iinc 1 1, 3) := by decide +kernel
theorem dX5_heaps_29 : decode cX5_heaps 29 = .ok (.iinc 2 1, 3) := by decide +kernel
theorem dX5_heaps_32 : decode cX5_heaps 32 = .ok (.goto (-24), 3) := by decide +kernel
theorem dX5_heaps_35 : decode cX5_heaps 35 = .ok (.iload_n 1, 1) := by decide +kernel
theorem dX5_heaps_36 : decode cX5_heaps 36 = .ok (.ireturn, 1) := by decide +kernel
theorem dX5_heap_0 : decode cX5_heap 0 = .ok (.aload_n 0, 1) := by decide +kernel
theorem dX5_heap_1 : decode cX5_heap 1 = .ok (.iload_n 1, 1) := by decide +kernel
theorem dX5_heap_2 : decode cX5_heap 2 = .ok (.invokevirtual 85, 3) := by decide +kernel
theorem dX5_heap_5 : decode cX5_heap 5 = .ok (.ifCond .ne 5, 3) := by decide +kernel
theorem dX5_heap_8 : decode cX5_heap 8 = .ok (.iconst (-1), 1) := by decide +kernel
theorem dX5_heap_9 : decode cX5_heap 9 = .ok (.ireturn, 1) := by decide +kernel
theorem dX5_heap_10 : decode cX5_heap 10 = .ok (.aload_n 0, 1) := by decide +kernel
theorem dX5_heap_11 : decode cX5_heap 11 = .ok (.invokevirtual 183, 3) := by decide +kernel
theorem dX5_heap_14 : decode cX5_heap 14 = .ok (.aload_n 0, 1) := by decide +kernel
theorem dX5_heap_15 : decode cX5_heap 15 = .ok (.getfield 63, 3) := by decide +kernel
theorem dX5_heap_18 : decode cX5_heap 18 = .ok (.iload_n 1, 1) := by decide +kernel
theorem dX5_heap_19 : decode cX5_heap 19 = .ok (.iaload, 1) := by decide +kernel
theorem dX5_heap_20 : decode cX5_heap 20 = .ok (.ireturn, 1) := by decide +kernel
theorem dX5_versions_0 : decode cX5_versions 0 = .ok (.aload_n 0, 1) := by decide +kernel
theorem dX5_versions_1 : decode cX5_versions 1 = .ok (.iload_n 1, 1) := by decide +kernel
theorem dX5_versions_2 : decode cX5_versions 2 = .ok (.invokevirtual 150, 3) := by decide +kernel
theorem dX5_versions_5 : decode cX5_versions 5 = .ok (.ifCond .eq 16, 3) := by decide +kernel
theorem dX5_versions_8 : decode cX5_versions 8 = .ok (.aload_n 0, 1) := by decide +kernel
theorem dX5_versions_9 : decode cX5_versions 9 = .ok (.iload_n 2, 1) := by decide +kernel
theorem dX5_versions_10 : decode cX5_versions 10 = .ok (.invokevirtual 150, 3) := by decide +kernel
theorem dX5_versions_13 : decode cX5_versions 13 = .ok (.ifCond .eq 8, 3) := by decide +kernel
theorem dX5_versions_16 : decode cX5_versions 16 = .ok (.iload_n 1, 1) := by decide +kernel
theorem dX5_versions_17 : decode cX5_versions 17 = .ok (.iload_n 2, 1) := by decide +kernel
theorem dX5_versions_18 : decode cX5_versions 18 = .ok (.if_icmp .ne 5, 3) := by decide +kernel
theorem dX5_versions_21 : decode cX5_versions 21 = .ok (.iconst (-1), 1) := by decide +kernel
theorem dX5_versions_22 : decode cX5_versions 22 = .ok (.ireturn, 1) := by decide +kernel
theorem dX5_versions_23 : decode cX5_versions 23 = .ok (.aload_n 0, 1) := by decide +kernel
theorem dX5_versions_24 : decode cX5_versions 24 = .ok (.getfield 21, 3) := by decide +kernel
theorem dX5_versions_27 : decode cX5_versions 27 = .ok (.iload_n 1, 1) := by decide +kernel
theorem dX5_versions_28 : decode cX5_versions 28 = .ok (.iload_n 2, 1) := by decide +kernel
theorem dX5_versions_29 : decode cX5_versions 29 = .ok (.invokestatic 186, 3) := by decide +kernel
theorem dX5_versions_32 : decode cX5_versions 32 = .ok (.aaload, 1) := by decide +kernel
theorem dX5_versions_33 : decode cX5_versions 33 = .ok (.getfield 133, 3) := by decide +kernel
theorem dX5_versions_36 : decode cX5_versions 36 = .ok (.astore 4, 2) := by decide +kernel
theorem dX5_versions_38 : decode cX5_versions 38 = .ok (.aload_n 0, 1) := by decide +kernel
theorem dX5_versions_39 : decode cX5_versions 39 = .ok (.getfield 21, 3) := by decide +kernel
theorem dX5_versions_42 : decode cX5_versions 42 = .ok (.iload_n 1, 1) := by decide +kernel
theorem dX5_versions_43 : decode cX5_versions 43 = .ok (.iload_n 2, 1) := by decide +kernel
theorem dX5_versions_44 : decode cX5_versions 44 = .ok (.invokestatic 192, 3) := by decide +kernel
theorem dX5_versions_47 : decode cX5_versions 47 = .ok (.aaload, 1) := by decide +kernel
theorem dX5_versions_48 : decode cX5_versions 48 = .ok (.getfield 133, 3) := by decide +kernel
theorem dX5_versions_51 : decode cX5_versions 51 = .ok (.astore 5, 2) := by decide +kernel
theorem dX5_versions_53 : decode cX5_versions 53 = .ok (.iload_n 3, 1) := by decide +kernel
theorem dX5_versions_54 : decode cX5_versions 54 = .ok (.lookupswitch 61 #[(0, 26), (1, 53)], 26) := by decide +kernel
theorem dX5_versions_80 : decode cX5_versions 80 = .ok (.aload_n 0, 1) := by decide +kernel
theorem dX5_versions_81 : decode cX5_versions 81 = .ok (.getfield 28, 3) := by decide +kernel
theorem dX5_versions_84 : decode cX5_versions 84 = .ok (.aload 4, 2) := by decide +kernel
theorem dX5_versions_86 : decode cX5_versions 86 = .ok (.aload 5, 2) := by decide +kernel
theorem dX5_versions_88 : decode cX5_versions 88 = .ok (.invokevirtual 195, 3) := by decide +kernel
theorem dX5_versions_91 : decode cX5_versions 91 = .ok (.invokestatic 157, 3) := by decide +kernel
theorem dX5_versions_94 : decode cX5_versions 94 = .ok (.aload_n 0, 1) := by decide +kernel
theorem dX5_versions_95 : decode cX5_versions 95 = .ok (.getfield 76, 3) := by decide +kernel
theorem dX5_versions_98 : decode cX5_versions 98 = .ok (.if_icmp .gt 7, 3) := by decide +kernel
theorem dX5_versions_101 : decode cX5_versions 101 = .ok (.iconst 1, 1) := by decide +kernel
theorem dX5_versions_102 : decode cX5_versions 102 = .ok (.goto 4, 3) := by decide +kernel
theorem dX5_versions_105 : decode cX5_versions 105 = .ok (.iconst 0, 1) := by decide +kernel
theorem dX5_versions_106 : decode cX5_versions 106 = .ok (.ireturn, 1) := by decide +kernel
theorem dX5_versions_107 : decode cX5_versions 107 = .ok (.aload 4, 2) := by decide +kernel
theorem dX5_versions_109 : decode cX5_versions 109 = .ok (.aload 5, 2) := by decide +kernel
theorem dX5_versions_111 : decode cX5_versions 111 = .ok (.invokestatic 199, 3) := by decide +kernel
theorem dX5_versions_114 : decode cX5_versions 114 = .ok (.ireturn, 1) := by decide +kernel
theorem dX5_versions_115 : decode cX5_versions 115 = .ok (.iconst (-1), 1) := by decide +kernel
theorem dX5_versions_116 : decode cX5_versions 116 = .ok (.ireturn, 1) := by decide +kernel
theorem dX5_touch_0 : decode cX5_touch 0 = .ok (.aload_n 0, 1) := by decide +kernel
theorem dX5_touch_1 : decode cX5_touch 1 = .ok (.iload_n 1, 1) := by decide +kernel
theorem dX5_touch_2 : decode cX5_touch 2 = .ok (.iload_n 2, 1) := by decide +kernel
theorem dX5_touch_3 : decode cX5_touch 3 = .ok (.invokevirtual 110, 3) := by decide +kernel
theorem dX5_touch_6 : decode cX5_touch 6 = .ok (.ifCond .ne 5, 3) := by decide +kernel
theorem dX5_touch_9 : decode cX5_touch 9 = .ok (.iconst (-1), 1) := by decide +kernel
theorem dX5_touch_10 : decode cX5_touch 10 = .ok (.ireturn, 1) := by decide +kernel
theorem dX5_touch_11 : decode cX5_touch 11 = .ok (.aload_n 0, 1) := by decide +kernel
theorem dX5_touch_12 : decode cX5_touch 12 = .ok (.iload_n 1, 1) := by decide +kernel
theorem dX5_touch_13 : decode cX5_touch 13 = .ok (.iload_n 2, 1) := by decide +kernel
theorem dX5_touch_14 : decode cX5_touch 14 = .ok (.invokevirtual 203, 3) := by decide +kernel
theorem dX5_touch_17 : decode cX5_touch 17 = .ok (.iconst 0, 1) := by decide +kernel
theorem dX5_touch_18 : decode cX5_touch 18 = .ok (.istore_n 3, 1) := by decide +kernel
theorem dX5_touch_19 : decode cX5_touch 19 = .ok (.iconst 0, 1) := by decide +kernel
theorem dX5_touch_20 : decode cX5_touch 20 = .ok (.istore 4, 2) := by decide +kernel
theorem dX5_touch_22 : decode cX5_touch 22 = .ok (.iload 4, 2) := by decide +kernel
theorem dX5_touch_24 : decode cX5_touch 24 = .ok (.aload_n 0, 1) := by decide +kernel
theorem dX5_touch_25 : decode cX5_touch 25 = .ok (.getfield 66, 3) := by decide +kernel
theorem dX5_touch_28 : decode cX5_touch 28 = .ok (.if_icmp .ge 35, 3) := by decide +kernel
theorem dX5_touch_31 : decode cX5_touch 31 = .ok (.aload_n 0, 1) := by decide +kernel
theorem dX5_touch_32 : decode cX5_touch 32 = .ok (.iload 4, 2) := by decide +kernel
theorem dX5_touch_34 : decode cX5_touch 34 = .ok (.aload_n 0, 1) := by decide +kernel
theorem dX5_touch_35 : decode cX5_touch 35 = .ok (.getfield 21, 3) := by decide +kernel
theorem dX5_touch_38 : decode cX5_touch 38 = .ok (.invokevirtual 174, 3) := by decide +kernel
theorem dX5_touch_41 : decode cX5_touch 41 = .ok (.aload_n 0, 1) := by decide +kernel
theorem dX5_touch_42 : decode cX5_touch 42 = .ok (.iload 4, 2) := by decide +kernel
theorem dX5_touch_44 : decode cX5_touch 44 = .ok (.aload_n 0, 1) := by decide +kernel
theorem dX5_touch_45 : decode cX5_touch 45 = .ok (.getfield 49, 3) := by decide +kernel
theorem dX5_touch_48 : decode cX5_touch 48 = .ok (.invokevirtual 174, 3) := by decide +kernel
theorem dX5_touch_51 : decode cX5_touch 51 = .ok (.if_icmp .eq 6, 3) := by decide +kernel
theorem dX5_touch_54 : decode cX5_touch 54 = .ok (.iinc 3 1, 3) := by decide +kernel
theorem dX5_touch_57 : decode cX5_touch 57 = .ok (.iinc 4 1, 3) := by decide +kernel
theorem dX5_touch_60 : decode cX5_touch 60 = .ok (.goto (-38), 3) := by decide +kernel
theorem dX5_touch_63 : decode cX5_touch 63 = .ok (.iload_n 3, 1) := by decide +kernel
theorem dX5_touch_64 : decode cX5_touch 64 = .ok (.ireturn, 1) := by decide +kernel
theorem dX5_about_0 : decode cX5_about 0 = .ok (.iload_n 1, 1) := by decide +kernel
theorem dX5_about_1 : decode cX5_about 1 = .ok (.tableswitch 111 0 8 #[51, 56, 64, 72, 80, 88, 96, 101, 106], 51) := by decide +kernel
theorem dX5_about_52 : decode cX5_about 52 = .ok (.aload_n 0, 1) := by decide +kernel
theorem dX5_about_53 : decode cX5_about 53 = .ok (.getfield 66, 3) := by decide +kernel
theorem dX5_about_56 : decode cX5_about 56 = .ok (.ireturn, 1) := by decide +kernel
theorem dX5_about_57 : decode cX5_about 57 = .ok (.aload_n 0, 1) := by decide +kernel
theorem dX5_about_58 : decode cX5_about 58 = .ok (.getfield 28, 3) := by decide +kernel
theorem dX5_about_61 : decode cX5_about 61 = .ok (.getfield 114, 3) := by decide +kernel
theorem dX5_about_64 : decode cX5_about 64 = .ok (.ireturn, 1) := by decide +kernel
theorem dX5_about_65 : decode cX5_about 65 = .ok (.aload_n 0, 1) := by decide +kernel
theorem dX5_about_66 : decode cX5_about 66 = .ok (.getfield 28, 3) := by decide +kernel
theorem dX5_about_69 : decode cX5_about 69 = .ok (.getfield 117, 3) := by decide +kernel
theorem dX5_about_72 : decode cX5_about 72 = .ok (.ireturn, 1) := by decide +kernel
theorem dX5_about_73 : decode cX5_about 73 = .ok (.aload_n 0, 1) := by decide +kernel
theorem dX5_about_74 : decode cX5_about 74 = .ok (.getfield 28, 3) := by decide +kernel
theorem dX5_about_77 : decode cX5_about 77 = .ok (.getfield 120, 3) := by decide +kernel
theorem dX5_about_80 : decode cX5_about 80 = .ok (.ireturn, 1) := by decide +kernel
theorem dX5_about_81 : decode cX5_about 81 = .ok (.aload_n 0, 1) := by decide +kernel
theorem dX5_about_82 : decode cX5_about 82 = .ok (.getfield 28, 3) := by decide +kernel
theorem dX5_about_85 : decode cX5_about 85 = .ok (.getfield 123, 3) := by decide +kernel
theorem dX5_about_88 : decode cX5_about 88 = .ok (.ireturn, 1) := by decide +kernel
theorem dX5_about_89 : decode cX5_about 89 = .ok (.aload_n 0, 1) := by decide +kernel
theorem dX5_about_90 : decode cX5_about 90 = .ok (.getfield 28, 3) := by decide +kernel
theorem dX5_about_93 : decode cX5_about 93 = .ok (.getfield 126, 3) := by decide +kernel
theorem dX5_about_96 : decode cX5_about 96 = .ok (.ireturn, 1) := by decide +kernel
theorem dX5_about_97 : decode cX5_about 97 = .ok (.aload_n 0, 1) := by decide +kernel
theorem dX5_about_98 : decode cX5_about 98 = .ok (.getfield 70, 3) := by decide +kernel
theorem dX5_about_101 : decode cX5_about 101 = .ok (.ireturn, 1) := by decide +kernel
theorem dX5_about_102 : decode cX5_about 102 = .ok (.aload_n 0, 1) := by decide +kernel
theorem dX5_about_103 : decode cX5_about 103 = .ok (.getfield 73, 3) := by decide +kernel
theorem dX5_about_106 : decode cX5_about 106 = .ok (.ireturn, 1) := by decide +kernel
theorem dX5_about_107 : decode cX5_about 107 = .ok (.aload_n 0, 1) := by decide +kernel
theorem dX5_about_108 : decode cX5_about 108 = .ok (.getfield 76, 3) := by decide +kernel
theorem dX5_about_111 : decode cX5_about 111 = .ok (.ireturn, 1) := by decide +kernel
theorem dX5_about_112 : decode cX5_about 112 = .ok (.aload_n 0, 1) := by decide +kernel
theorem dX5_about_113 : decode cX5_about 113 = .ok (.iload_n 1, 1) := by decide +kernel
theorem dX5_about_114 : decode cX5_about 114 = .ok (.invokevirtual 207, 3) := by decide +kernel
theorem dX5_about_117 : decode cX5_about 117 = .ok (.ireturn, 1) := by decide +kernel
theorem dX5_boxesAskedFor_0 : decode cX5_boxesAskedFor 0 = .ok (.iload_n 1, 1) := by decide +kernel
theorem dX5_boxesAskedFor_1 : decode cX5_boxesAskedFor 1 = .ok (.bipush 20, 2) := by decide +kernel
theorem dX5_boxesAskedFor_3 : decode cX5_boxesAskedFor 3 = .ok (.if_icmp .lt 14, 3) := by decide +kernel
theorem dX5_boxesAskedFor_6 : decode cX5_boxesAskedFor 6 = .ok (.aload_n 0, 1) := by decide +kernel
theorem dX5_boxesAskedFor_7 : decode cX5_boxesAskedFor 7 = .ok (.iload_n 1, 1) := by decide +kernel
theorem dX5_boxesAskedFor_8 : decode cX5_boxesAskedFor 8 = .ok (.bipush 20, 2) := by decide +kernel
theorem dX5_boxesAskedFor_10 : decode cX5_boxesAskedFor 10 = .ok (.isub, 1) := by decide +kernel
theorem dX5_boxesAskedFor_11 : decode cX5_boxesAskedFor 11 = .ok (.invokevirtual 85, 3) := by decide +kernel
theorem dX5_boxesAskedFor_14 : decode cX5_boxesAskedFor 14 = .ok (.ifCond .ne 5, 3) := by decide +kernel
theorem dX5_boxesAskedFor_17 : decode cX5_boxesAskedFor 17 = .ok (.iconst (-1), 1) := by decide +kernel
theorem dX5_boxesAskedFor_18 : decode cX5_boxesAskedFor 18 = .ok (.ireturn, 1) := by decide +kernel
theorem dX5_boxesAskedFor_19 : decode cX5_boxesAskedFor 19 = .ok (.aload_n 0, 1) := by decide +kernel
theorem dX5_boxesAskedFor_20 : decode cX5_boxesAskedFor 20 = .ok (.getfield 11, 3) := by decide +kernel
theorem dX5_boxesAskedFor_23 : decode cX5_boxesAskedFor 23 = .ok (.iload_n 1, 1) := by decide +kernel
theorem dX5_boxesAskedFor_24 : decode cX5_boxesAskedFor 24 = .ok (.bipush 20, 2) := by decide +kernel
theorem dX5_boxesAskedFor_26 : decode cX5_boxesAskedFor 26 = .ok (.isub, 1) := by decide +kernel
theorem dX5_boxesAskedFor_27 : decode cX5_boxesAskedFor 27 = .ok (.aaload, 1) := by decide +kernel
theorem dX5_boxesAskedFor_28 : decode cX5_boxesAskedFor 28 = .ok (.getfield 93, 3) := by decide +kernel
theorem dX5_boxesAskedFor_31 : decode cX5_boxesAskedFor 31 = .ok (.ireturn, 1) := by decide +kernel
theorem dX5_isIn_0 : decode cX5_isIn 0 = .ok (.iload_n 0, 1) := by decide +kernel
theorem dX5_isIn_1 : decode cX5_isIn 1 = .ok (.iload_n 1, 1) := by decide +kernel
theorem dX5_isIn_2 : decode cX5_isIn 2 = .ok (.if_icmp .lt 12, 3) := by decide +kernel
theorem dX5_isIn_5 : decode cX5_isIn 5 = .ok (.iload_n 0, 1) := by decide +kernel
theorem dX5_isIn_6 : decode cX5_isIn 6 = .ok (.iload_n 2, 1) := by decide +kernel
theorem dX5_isIn_7 : decode cX5_isIn 7 = .ok (.if_icmp .gt 7, 3) := by decide +kernel
theorem dX5_isIn_10 : decode cX5_isIn 10 = .ok (.iconst 1, 1) := by decide +kernel
theorem dX5_isIn_11 : decode cX5_isIn 11 = .ok (.goto 4, 3) := by decide +kernel
theorem dX5_isIn_14 : decode cX5_isIn 14 = .ok (.iconst 0, 1) := by decide +kernel
theorem dX5_isIn_15 : decode cX5_isIn 15 = .ok (.ireturn, 1) := by decide +kernel
theorem dX5_isPage_0 : decode cX5_isPage 0 = .ok (.iload_n 1, 1) := by decide +kernel
theorem dX5_isPage_1 : decode cX5_isPage 1 = .ok (.ifCond .lt 15, 3) := by decide +kernel
theorem dX5_isPage_4 : decode cX5_isPage 4 = .ok (.iload_n 1, 1) := by decide +kernel
theorem dX5_isPage_5 : decode cX5_isPage 5 = .ok (.aload_n 0, 1) := by decide +kernel
theorem dX5_isPage_6 : decode cX5_isPage 6 = .ok (.getfield 66, 3) := by decide +kernel
theorem dX5_isPage_9 : decode cX5_isPage 9 = .ok (.if_icmp .ge 7, 3) := by decide +kernel
theorem dX5_isPage_12 : decode cX5_isPage 12 = .ok (.iconst 1, 1) := by decide +kernel
theorem dX5_isPage_13 : decode cX5_isPage 13 = .ok (.goto 4, 3) := by decide +kernel
theorem dX5_isPage_16 : decode cX5_isPage 16 = .ok (.iconst 0, 1) := by decide +kernel
theorem dX5_isPage_17 : decode cX5_isPage 17 = .ok (.ireturn, 1) := by decide +kernel
theorem dX5_isKind_0 : decode cX5_isKind 0 = .ok (.iload_n 0, 1) := by decide +kernel
theorem dX5_isKind_1 : decode cX5_isKind 1 = .ok (.ifCond .lt 12, 3) := by decide +kernel
theorem dX5_isKind_4 : decode cX5_isKind 4 = .ok (.iload_n 0, 1) := by decide +kernel
theorem dX5_isKind_5 : decode cX5_isKind 5 = .ok (.iconst 5, 1) := by decide +kernel
theorem dX5_isKind_6 : decode cX5_isKind 6 = .ok (.if_icmp .ge 7, 3) := by decide +kernel
theorem dX5_isKind_9 : decode cX5_isKind 9 = .ok (.iconst 1, 1) := by decide +kernel
theorem dX5_isKind_10 : decode cX5_isKind 10 = .ok (.goto 4, 3) := by decide +kernel
theorem dX5_isKind_13 : decode cX5_isKind 13 = .ok (.iconst 0, 1) := by decide +kernel
theorem dX5_isKind_14 : decode cX5_isKind 14 = .ok (.ireturn, 1) := by decide +kernel
theorem dX5_hasPages_0 : decode cX5_hasPages 0 = .ok (.iload_n 1, 1) := by decide +kernel
theorem dX5_hasPages_1 : decode cX5_hasPages 1 = .ok (.invokestatic 129, 3) := by decide +kernel
theorem dX5_hasPages_4 : decode cX5_hasPages 4 = .ok (.ifCond .eq 19, 3) := by decide +kernel
theorem dX5_hasPages_7 : decode cX5_hasPages 7 = .ok (.aload_n 0, 1) := by decide +kernel
theorem dX5_hasPages_8 : decode cX5_hasPages 8 = .ok (.getfield 21, 3) := by decide +kernel
theorem dX5_hasPages_11 : decode cX5_hasPages 11 = .ok (.iload_n 1, 1) := by decide +kernel
theorem dX5_hasPages_12 : decode cX5_hasPages 12 = .ok (.aaload, 1) := by decide +kernel
theorem dX5_hasPages_13 : decode cX5_hasPages 13 = .ok (.getfield 132, 3) := by decide +kernel
theorem dX5_hasPages_16 : decode cX5_hasPages 16 = .ok (.ifCond .le 7, 3) := by decide +kernel
theorem dX5_hasPages_19 : decode cX5_hasPages 19 = .ok (.iconst 1, 1) := by decide +kernel
theorem dX5_hasPages_20 : decode cX5_hasPages 20 = .ok (.goto 4, 3) := by decide +kernel
theorem dX5_hasPages_23 : decode cX5_hasPages 23 = .ok (.iconst 0, 1) := by decide +kernel
theorem dX5_hasPages_24 : decode cX5_hasPages 24 = .ok (.ireturn, 1) := by decide +kernel
theorem dX5_isTellable_0 : decode cX5_isTellable 0 = .ok (.aload_n 0, 1) := by decide +kernel
theorem dX5_isTellable_1 : decode cX5_isTellable 1 = .ok (.iload_n 1, 1) := by decide +kernel
theorem dX5_isTellable_2 : decode cX5_isTellable 2 = .ok (.invokevirtual 85, 3) := by decide +kernel
theorem dX5_isTellable_5 : decode cX5_isTellable 5 = .ok (.ifCond .eq 31, 3) := by decide +kernel
theorem dX5_isTellable_8 : decode cX5_isTellable 8 = .ok (.aload_n 0, 1) := by decide +kernel
theorem dX5_isTellable_9 : decode cX5_isTellable 9 = .ok (.getfield 11, 3) := by decide +kernel
theorem dX5_isTellable_12 : decode cX5_isTellable 12 = .ok (.iload_n 1, 1) := by decide +kernel
theorem dX5_isTellable_13 : decode cX5_isTellable 13 = .ok (.aaload, 1) := by decide +kernel
theorem dX5_isTellable_14 : decode cX5_isTellable 14 = .ok (.getfield 93, 3) := by decide +kernel
theorem dX5_isTellable_17 : decode cX5_isTellable 17 = .ok (.ifCond .le 19, 3) := by decide +kernel
theorem dX5_isTellable_20 : decode cX5_isTellable 20 = .ok (.iload_n 2, 1) := by decide +kernel
theorem dX5_isTellable_21 : decode cX5_isTellable 21 = .ok (.iconst (-1), 1) := by decide +kernel
theorem dX5_isTellable_22 : decode cX5_isTellable 22 = .ok (.if_icmp .eq 10, 3) := by decide +kernel
theorem dX5_isTellable_25 : decode cX5_isTellable 25 = .ok (.iload_n 2, 1) := by decide +kernel
theorem dX5_isTellable_26 : decode cX5_isTellable 26 = .ok (.invokestatic 129, 3) := by decide +kernel
theorem dX5_isTellable_29 : decode cX5_isTellable 29 = .ok (.ifCond .eq 7, 3) := by decide +kernel
theorem dX5_isTellable_32 : decode cX5_isTellable 32 = .ok (.iconst 1, 1) := by decide +kernel
theorem dX5_isTellable_33 : decode cX5_isTellable 33 = .ok (.goto 4, 3) := by decide +kernel
theorem dX5_isTellable_36 : decode cX5_isTellable 36 = .ok (.iconst 0, 1) := by decide +kernel
theorem dX5_isTellable_37 : decode cX5_isTellable 37 = .ok (.ireturn, 1) := by decide +kernel
theorem dX5_remake_0 : decode cX5_remake 0 = .ok (.iload_n 1, 1) := by decide +kernel
theorem dX5_remake_1 : decode cX5_remake 1 = .ok (.invokestatic 129, 3) := by decide +kernel
theorem dX5_remake_4 : decode cX5_remake 4 = .ok (.ifCond .eq 25, 3) := by decide +kernel
theorem dX5_remake_7 : decode cX5_remake 7 = .ok (.aload_n 0, 1) := by decide +kernel
theorem dX5_remake_8 : decode cX5_remake 8 = .ok (.getfield 35, 3) := by decide +kernel
theorem dX5_remake_11 : decode cX5_remake 11 = .ok (.aload_n 0, 1) := by decide +kernel
theorem dX5_remake_12 : decode cX5_remake 12 = .ok (.getfield 21, 3) := by decide +kernel
theorem dX5_remake_15 : decode cX5_remake 15 = .ok (.iload_n 1, 1) := by decide +kernel
theorem dX5_remake_16 : decode cX5_remake 16 = .ok (.aaload, 1) := by decide +kernel
theorem dX5_remake_17 : decode cX5_remake 17 = .ok (.iload_n 1, 1) := by decide +kernel
theorem dX5_remake_18 : decode cX5_remake 18 = .ok (.aload_n 0, 1) := by decide +kernel
theorem dX5_remake_19 : decode cX5_remake 19 = .ok (.getfield 11, 3) := by decide +kernel
theorem dX5_remake_22 : decode cX5_remake 22 = .ok (.aload_n 0, 1) := by decide +kernel
theorem dX5_remake_23 : decode cX5_remake 23 = .ok (.getfield 15, 3) := by decide +kernel
theorem dX5_remake_26 : decode cX5_remake 26 = .ok (.invokevirtual 210, 3) := by decide +kernel
theorem dX5_remake_29 : decode cX5_remake 29 = .ok (.return_, 1) := by decide +kernel
theorem dX5_forgetLayings_0 : decode cX5_forgetLayings 0 = .ok (.iconst 0, 1) := by decide +kernel
theorem dX5_forgetLayings_1 : decode cX5_forgetLayings 1 = .ok (.istore_n 1, 1) := by decide +kernel
theorem dX5_forgetLayings_2 : decode cX5_forgetLayings 2 = .ok (.iload_n 1, 1) := by decide +kernel
theorem dX5_forgetLayings_3 : decode cX5_forgetLayings 3 = .ok (.bipush 16, 2) := by decide +kernel
theorem dX5_forgetLayings_5 : decode cX5_forgetLayings 5 = .ok (.if_icmp .ge 14, 3) := by decide +kernel
theorem dX5_forgetLayings_8 : decode cX5_forgetLayings 8 = .ok (.aload_n 0, 1) := by decide +kernel
theorem dX5_forgetLayings_9 : decode cX5_forgetLayings 9 = .ok (.iload_n 1, 1) := by decide +kernel
theorem dX5_forgetLayings_10 : decode cX5_forgetLayings 10 = .ok (.invokevirtual 104, 3) := by decide +kernel
theorem dX5_forgetLayings_13 : decode cX5_forgetLayings 13 = .ok (.iinc 1 1, 3) := by decide +kernel
theorem dX5_forgetLayings_16 : decode cX5_forgetLayings 16 = .ok (.goto (-14), 3) := by decide +kernel
theorem dX5_forgetLayings_19 : decode cX5_forgetLayings 19 = .ok (.return_, 1) := by decide +kernel
theorem dX5_forgetPage_0 : decode cX5_forgetPage 0 = .ok (.iconst 0, 1) := by decide +kernel
theorem dX5_forgetPage_1 : decode cX5_forgetPage 1 = .ok (.istore_n 2, 1) := by decide +kernel
theorem dX5_forgetPage_2 : decode cX5_forgetPage 2 = .ok (.iload_n 2, 1) := by decide +kernel
theorem dX5_forgetPage_3 : decode cX5_forgetPage 3 = .ok (.iconst 5, 1) := by decide +kernel
theorem dX5_forgetPage_4 : decode cX5_forgetPage 4 = .ok (.if_icmp .ge 23, 3) := by decide +kernel
theorem dX5_forgetPage_7 : decode cX5_forgetPage 7 = .ok (.aload_n 0, 1) := by decide +kernel
theorem dX5_forgetPage_8 : decode cX5_forgetPage 8 = .ok (.getfield 21, 3) := by decide +kernel
theorem dX5_forgetPage_11 : decode cX5_forgetPage 11 = .ok (.iload_n 2, 1) := by decide +kernel
theorem dX5_forgetPage_12 : decode cX5_forgetPage 12 = .ok (.aaload, 1) := by decide +kernel
theorem dX5_forgetPage_13 : decode cX5_forgetPage 13 = .ok (.getfield 214, 3) := by decide +kernel
theorem dX5_forgetPage_16 : decode cX5_forgetPage 16 = .ok (.iload_n 1, 1) := by decide +kernel
theorem dX5_forgetPage_17 : decode cX5_forgetPage 17 = .ok (.ldc2_w 218, 3) := by decide +kernel
theorem dX5_forgetPage_20 : decode cX5_forgetPage 20 = .ok (.lastore, 1) := by decide +kernel
theorem dX5_forgetPage_21 : decode cX5_forgetPage 21 = .ok (.iinc 2 1, 3) := by decide +kernel
theorem dX5_forgetPage_24 : decode cX5_forgetPage 24 = .ok (.goto (-22), 3) := by decide +kernel
theorem dX5_forgetPage_27 : decode cX5_forgetPage 27 = .ok (.iconst 0, 1) := by decide +kernel
theorem dX5_forgetPage_28 : decode cX5_forgetPage 28 = .ok (.istore_n 2, 1) := by decide +kernel
theorem dX5_forgetPage_29 : decode cX5_forgetPage 29 = .ok (.iload_n 2, 1) := by decide +kernel
theorem dX5_forgetPage_30 : decode cX5_forgetPage 30 = .ok (.bipush 16, 2) := by decide +kernel
theorem dX5_forgetPage_32 : decode cX5_forgetPage 32 = .ok (.if_icmp .ge 33, 3) := by decide +kernel
theorem dX5_forgetPage_35 : decode cX5_forgetPage 35 = .ok (.aload_n 0, 1) := by decide +kernel
theorem dX5_forgetPage_36 : decode cX5_forgetPage 36 = .ok (.getfield 60, 3) := by decide +kernel
theorem dX5_forgetPage_39 : decode cX5_forgetPage 39 = .ok (.iload_n 1, 1) := by decide +kernel
theorem dX5_forgetPage_40 : decode cX5_forgetPage 40 = .ok (.bipush 16, 2) := by decide +kernel
theorem dX5_forgetPage_42 : decode cX5_forgetPage 42 = .ok (.imul, 1) := by decide +kernel
theorem dX5_forgetPage_43 : decode cX5_forgetPage 43 = .ok (.iload_n 2, 1) := by decide +kernel
theorem dX5_forgetPage_44 : decode cX5_forgetPage 44 = .ok (.iadd, 1) := by decide +kernel
theorem dX5_forgetPage_45 : decode cX5_forgetPage 45 = .ok (.iconst (-1), 1) := by decide +kernel
theorem dX5_forgetPage_46 : decode cX5_forgetPage 46 = .ok (.iastore, 1) := by decide +kernel
theorem dX5_forgetPage_47 : decode cX5_forgetPage 47 = .ok (.aload_n 0, 1) := by decide +kernel
theorem dX5_forgetPage_48 : decode cX5_forgetPage 48 = .ok (.getfield 60, 3) := by decide +kernel
theorem dX5_forgetPage_51 : decode cX5_forgetPage 51 = .ok (.iload_n 2, 1) := by decide +kernel
theorem dX5_forgetPage_52 : decode cX5_forgetPage 52 = .ok (.bipush 16, 2) := by decide +kernel
theorem dX5_forgetPage_54 : decode cX5_forgetPage 54 = .ok (.imul, 1) := by decide +kernel
theorem dX5_forgetPage_55 : decode cX5_forgetPage 55 = .ok (.iload_n 1, 1) := by decide +kernel
theorem dX5_forgetPage_56 : decode cX5_forgetPage 56 = .ok (.iadd, 1) := by decide +kernel
theorem dX5_forgetPage_57 : decode cX5_forgetPage 57 = .ok (.iconst (-1), 1) := by decide +kernel
theorem dX5_forgetPage_58 : decode cX5_forgetPage 58 = .ok (.iastore, 1) := by decide +kernel
theorem dX5_forgetPage_59 : decode cX5_forgetPage 59 = .ok (.iinc 2 1, 3) := by decide +kernel
theorem dX5_forgetPage_62 : decode cX5_forgetPage 62 = .ok (.goto (-33), 3) := by decide +kernel
theorem dX5_forgetPage_65 : decode cX5_forgetPage 65 = .ok (.return_, 1) := by decide +kernel
theorem dX5_laying_0 : decode cX5_laying 0 = .ok (.aload_n 2, 1) := by decide +kernel
theorem dX5_laying_1 : decode cX5_laying 1 = .ok (.getfield 214, 3) := by decide +kernel
theorem dX5_laying_4 : decode cX5_laying 4 = .ok (.iload_n 1, 1) := by decide +kernel
theorem dX5_laying_5 : decode cX5_laying 5 = .ok (.laload, 1) := by decide +kernel
theorem dX5_laying_6 : decode cX5_laying 6 = .ok (.ldc2_w 218, 3) := by decide +kernel
theorem dX5_laying_9 : decode cX5_laying 9 = .ok (.lcmp, 1) := by decide +kernel
theorem dX5_laying_10 : decode cX5_laying 10 = .ok (.ifCond .ne 26, 3) := by decide +kernel
theorem dX5_laying_13 : decode cX5_laying 13 = .ok (.aload_n 2, 1) := by decide +kernel
theorem dX5_laying_14 : decode cX5_laying 14 = .ok (.getfield 214, 3) := by decide +kernel
theorem dX5_laying_17 : decode cX5_laying 17 = .ok (.iload_n 1, 1) := by decide +kernel
theorem dX5_laying_18 : decode cX5_laying 18 = .ok (.aload_n 0, 1) := by decide +kernel
theorem dX5_laying_19 : decode cX5_laying 19 = .ok (.getfield 28, 3) := by decide +kernel
theorem dX5_laying_22 : decode cX5_laying 22 = .ok (.aload_n 0, 1) := by decide +kernel
theorem dX5_laying_23 : decode cX5_laying 23 = .ok (.getfield 11, 3) := by decide +kernel
theorem dX5_laying_26 : decode cX5_laying 26 = .ok (.iload_n 1, 1) := by decide +kernel
theorem dX5_laying_27 : decode cX5_laying 27 = .ok (.aaload, 1) := by decide +kernel
theorem dX5_laying_28 : decode cX5_laying 28 = .ok (.aload_n 2, 1) := by decide +kernel
theorem dX5_laying_29 : decode cX5_laying 29 = .ok (.getfield 133, 3) := by decide +kernel
theorem dX5_laying_32 : decode cX5_laying 32 = .ok (.invokevirtual 195, 3) := by decide +kernel
theorem dX5_laying_35 : decode cX5_laying 35 = .ok (.lastore, 1) := by decide +kernel
theorem dX5_laying_36 : decode cX5_laying 36 = .ok (.aload_n 2, 1) := by decide +kernel
theorem dX5_laying_37 : decode cX5_laying 37 = .ok (.getfield 214, 3) := by decide +kernel
theorem dX5_laying_40 : decode cX5_laying 40 = .ok (.iload_n 1, 1) := by decide +kernel
theorem dX5_laying_41 : decode cX5_laying 41 = .ok (.laload, 1) := by decide +kernel
theorem dX5_laying_42 : decode cX5_laying 42 = .ok (.lreturn, 1) := by decide +kernel
theorem dX5_costIn_0 : decode cX5_costIn 0 = .ok (.lload_n 0, 1) := by decide +kernel
theorem dX5_costIn_1 : decode cX5_costIn 1 = .ok (.ldc2_w 220, 3) := by decide +kernel
theorem dX5_costIn_4 : decode cX5_costIn 4 = .ok (.ldiv, 1) := by decide +kernel
theorem dX5_costIn_5 : decode cX5_costIn 5 = .ok (.l2i, 1) := by decide +kernel
theorem dX5_costIn_6 : decode cX5_costIn 6 = .ok (.ireturn, 1) := by decide +kernel
theorem dX5_moveIn_0 : decode cX5_moveIn 0 = .ok (.lload_n 0, 1) := by decide +kernel
theorem dX5_moveIn_1 : decode cX5_moveIn 1 = .ok (.ldc2_w 222, 3) := by decide +kernel
theorem dX5_moveIn_4 : decode cX5_moveIn 4 = .ok (.ldiv, 1) := by decide +kernel
theorem dX5_moveIn_5 : decode cX5_moveIn 5 = .ok (.ldc2_w 224, 3) := by decide +kernel
theorem dX5_moveIn_8 : decode cX5_moveIn 8 = .ok (.lrem, 1) := by decide +kernel
theorem dX5_moveIn_9 : decode cX5_moveIn 9 = .ok (.l2i, 1) := by decide +kernel
theorem dX5_moveIn_10 : decode cX5_moveIn 10 = .ok (.ireturn, 1) := by decide +kernel
theorem dX5_spotIn_0 : decode cX5_spotIn 0 = .ok (.lload_n 0, 1) := by decide +kernel
theorem dX5_spotIn_1 : decode cX5_spotIn 1 = .ok (.getstatic 226, 3) := by decide +kernel
theorem dX5_spotIn_4 : decode cX5_spotIn 4 = .ok (.iload_n 2, 1) := by decide +kernel
theorem dX5_spotIn_5 : decode cX5_spotIn 5 = .ok (.laload, 1) := by decide +kernel
theorem dX5_spotIn_6 : decode cX5_spotIn 6 = .ok (.ldiv, 1) := by decide +kernel
theorem dX5_spotIn_7 : decode cX5_spotIn 7 = .ok (.ldc2_w 229, 3) := by decide +kernel
theorem dX5_spotIn_10 : decode cX5_spotIn 10 = .ok (.lrem, 1) := by decide +kernel
theorem dX5_spotIn_11 : decode cX5_spotIn 11 = .ok (.l2i, 1) := by decide +kernel
theorem dX5_spotIn_12 : decode cX5_spotIn 12 = .ok (.istore_n 3, 1) := by decide +kernel
theorem dX5_spotIn_13 : decode cX5_spotIn 13 = .ok (.iload_n 3, 1) := by decide +kernel
theorem dX5_spotIn_14 : decode cX5_spotIn 14 = .ok (.bipush 16, 2) := by decide +kernel
theorem dX5_spotIn_16 : decode cX5_spotIn 16 = .ok (.if_icmp .ne 7, 3) := by decide +kernel
theorem dX5_spotIn_19 : decode cX5_spotIn 19 = .ok (.iconst (-1), 1) := by decide +kernel
theorem dX5_spotIn_20 : decode cX5_spotIn 20 = .ok (.goto 4, 3) := by decide +kernel
theorem dX5_spotIn_23 : decode cX5_spotIn 23 = .ok (.iload_n 3, 1) := by decide +kernel
theorem dX5_spotIn_24 : decode cX5_spotIn 24 = .ok (.ireturn, 1) := by decide +kernel
theorem dX5_acrossOf_0 : decode cX5_acrossOf 0 = .ok (.iload_n 0, 1) := by decide +kernel
theorem dX5_acrossOf_1 : decode cX5_acrossOf 1 = .ok (.bipush 7, 2) := by decide +kernel
theorem dX5_acrossOf_3 : decode cX5_acrossOf 3 = .ok (.idiv, 1) := by decide +kernel
theorem dX5_acrossOf_4 : decode cX5_acrossOf 4 = .ok (.iconst 3, 1) := by decide +kernel
theorem dX5_acrossOf_5 : decode cX5_acrossOf 5 = .ok (.isub, 1) := by decide +kernel
theorem dX5_acrossOf_6 : decode cX5_acrossOf 6 = .ok (.ireturn, 1) := by decide +kernel
theorem dX5_downOf_0 : decode cX5_downOf 0 = .ok (.iload_n 0, 1) := by decide +kernel
theorem dX5_downOf_1 : decode cX5_downOf 1 = .ok (.bipush 7, 2) := by decide +kernel
theorem dX5_downOf_3 : decode cX5_downOf 3 = .ok (.irem, 1) := by decide +kernel
theorem dX5_downOf_4 : decode cX5_downOf 4 = .ok (.iconst 3, 1) := by decide +kernel
theorem dX5_downOf_5 : decode cX5_downOf 5 = .ok (.isub, 1) := by decide +kernel
theorem dX5_downOf_6 : decode cX5_downOf 6 = .ok (.ireturn, 1) := by decide +kernel
theorem dX5_rank_0 : decode cX5_rank 0 = .ok (.aload_n 0, 1) := by decide +kernel
theorem dX5_rank_1 : decode cX5_rank 1 = .ok (.getfield 42, 3) := by decide +kernel
theorem dX5_rank_4 : decode cX5_rank 4 = .ok (.invokevirtual 231, 3) := by decide +kernel
theorem dX5_rank_7 : decode cX5_rank 7 = .ok (.iconst 0, 1) := by decide +kernel
theorem dX5_rank_8 : decode cX5_rank 8 = .ok (.istore_n 3, 1) := by decide +kernel
theorem dX5_rank_9 : decode cX5_rank 9 = .ok (.iload_n 3, 1) := by decide +kernel
theorem dX5_rank_10 : decode cX5_rank 10 = .ok (.iconst 5, 1) := by decide +kernel
theorem dX5_rank_11 : decode cX5_rank 11 = .ok (.if_icmp .ge 37, 3) := by decide +kernel
theorem dX5_rank_14 : decode cX5_rank 14 = .ok (.aload_n 2, 1) := by decide +kernel
theorem dX5_rank_15 : decode cX5_rank 15 = .ok (.iload_n 3, 1) := by decide +kernel
theorem dX5_rank_16 : decode cX5_rank 16 = .ok (.aaload, 1) := by decide +kernel
theorem dX5_rank_17 : decode cX5_rank 17 = .ok (.getfield 132, 3) := by decide +kernel
theorem dX5_rank_20 : decode cX5_rank 20 = .ok (.ifCond .le 22, 3) := by decide +kernel
theorem dX5_rank_23 : decode cX5_rank 23 = .ok (.aload_n 0, 1) := by decide +kernel
theorem dX5_rank_24 : decode cX5_rank 24 = .ok (.getfield 42, 3) := by decide +kernel
theorem dX5_rank_27 : decode cX5_rank 27 = .ok (.iload_n 3, 1) := by decide +kernel
theorem dX5_rank_28 : decode cX5_rank 28 = .ok (.aload_n 0, 1) := by decide +kernel
theorem dX5_rank_29 : decode cX5_rank 29 = .ok (.iload_n 1, 1) := by decide +kernel
theorem dX5_rank_30 : decode cX5_rank 30 = .ok (.aload_n 2, 1) := by decide +kernel
theorem dX5_rank_31 : decode cX5_rank 31 = .ok (.iload_n 3, 1) := by decide +kernel
theorem dX5_rank_32 : decode cX5_rank 32 = .ok (.aaload, 1) := by decide +kernel
theorem dX5_rank_33 : decode cX5_rank 33 = .ok (.invokevirtual 153, 3) := by decide +kernel
theorem dX5_rank_36 : decode cX5_rank 36 = .ok (.invokestatic 157, 3) := by decide +kernel
theorem dX5_rank_39 : decode cX5_rank 39 = .ok (.invokevirtual 234, 3) := by decide +kernel
theorem dX5_rank_42 : decode cX5_rank 42 = .ok (.iinc 3 1, 3) := by decide +kernel
theorem dX5_rank_45 : decode cX5_rank 45 = .ok (.goto (-36), 3) := by decide +kernel
theorem dX5_rank_48 : decode cX5_rank 48 = .ok (.aload_n 0, 1) := by decide +kernel
theorem dX5_rank_49 : decode cX5_rank 49 = .ok (.getfield 42, 3) := by decide +kernel
theorem dX5_rank_52 : decode cX5_rank 52 = .ok (.aload_n 0, 1) := by decide +kernel
theorem dX5_rank_53 : decode cX5_rank 53 = .ok (.getfield 70, 3) := by decide +kernel
theorem dX5_rank_56 : decode cX5_rank 56 = .ok (.aload_n 0, 1) := by decide +kernel
theorem dX5_rank_57 : decode cX5_rank 57 = .ok (.getfield 73, 3) := by decide +kernel
theorem dX5_rank_60 : decode cX5_rank 60 = .ok (.invokevirtual 237, 3) := by decide +kernel
theorem dX5_rank_63 : decode cX5_rank 63 = .ok (.ireturn, 1) := by decide +kernel
theorem dX5_findHeaps_0 : decode cX5_findHeaps 0 = .ok (.iconst 0, 1) := by decide +kernel
theorem dX5_findHeaps_1 : decode cX5_findHeaps 1 = .ok (.istore_n 1, 1) := by decide +kernel
theorem dX5_findHeaps_2 : decode cX5_findHeaps 2 = .ok (.iload_n 1, 1) := by decide +kernel
theorem dX5_findHeaps_3 : decode cX5_findHeaps 3 = .ok (.aload_n 0, 1) := by decide +kernel
theorem dX5_findHeaps_4 : decode cX5_findHeaps 4 = .ok (.getfield 66, 3) := by decide +kernel
theorem dX5_findHeaps_7 : decode cX5_findHeaps 7 = .ok (.if_icmp .ge 54, 3) := by decide +kernel
theorem dX5_findHeaps_10 : decode cX5_findHeaps 10 = .ok (.aload_n 0, 1) := by decide +kernel
theorem dX5_findHeaps_11 : decode cX5_findHeaps 11 = .ok (.getfield 15, 3) := by decide +kernel
theorem dX5_findHeaps_14 : decode cX5_findHeaps 14 = .ok (.iload_n 1, 1) := by decide +kernel
theorem dX5_findHeaps_15 : decode cX5_findHeaps 15 = .ok (.iaload, 1) := by decide +kernel
theorem dX5_findHeaps_16 : decode cX5_findHeaps 16 = .ok (.iconst (-1), 1) := by decide +kernel
theorem dX5_findHeaps_17 : decode cX5_findHeaps 17 = .ok (.if_icmp .ne 21, 3) := by decide +kernel
theorem dX5_findHeaps_20 : decode cX5_findHeaps 20 = .ok (.aload_n 0, 1) := by decide +kernel
theorem dX5_findHeaps_21 : decode cX5_findHeaps 21 = .ok (.iload_n 1, 1) := by decide +kernel
theorem dX5_findHeaps_22 : decode cX5_findHeaps 22 = .ok (.aload_n 0, 1) := by decide +kernel
theorem dX5_findHeaps_23 : decode cX5_findHeaps 23 = .ok (.getfield 21, 3) := by decide +kernel
theorem dX5_findHeaps_26 : decode cX5_findHeaps 26 = .ok (.invokevirtual 174, 3) := by decide +kernel
theorem dX5_findHeaps_29 : decode cX5_findHeaps 29 = .ok (.bipush 10, 2) := by decide +kernel
theorem dX5_findHeaps_31 : decode cX5_findHeaps 31 = .ok (.if_icmp .ne 7, 3) := by decide +kernel
theorem dX5_findHeaps_34 : decode cX5_findHeaps 34 = .ok (.iconst 1, 1) := by decide +kernel
theorem dX5_findHeaps_35 : decode cX5_findHeaps 35 = .ok (.goto 4, 3) := by decide +kernel
theorem dX5_findHeaps_38 : decode cX5_findHeaps 38 = .ok (.iconst 0, 1) := by decide +kernel
theorem dX5_findHeaps_39 : decode cX5_findHeaps 39 = .ok (.istore_n 2, 1) := by decide +kernel
theorem dX5_findHeaps_40 : decode cX5_findHeaps 40 = .ok (.aload_n 0, 1) := by decide +kernel
theorem dX5_findHeaps_41 : decode cX5_findHeaps 41 = .ok (.getfield 63, 3) := by decide +kernel
theorem dX5_findHeaps_44 : decode cX5_findHeaps 44 = .ok (.iload_n 1, 1) := by decide +kernel
theorem dX5_findHeaps_45 : decode cX5_findHeaps 45 = .ok (.iload_n 2, 1) := by decide +kernel
theorem dX5_findHeaps_46 : decode cX5_findHeaps 46 = .ok (.ifCond .eq 7, 3) := by decide +kernel
theorem dX5_findHeaps_49 : decode cX5_findHeaps 49 = .ok (.iload_n 1, 1) := by decide +kernel
theorem dX5_findHeaps_50 : decode cX5_findHeaps 50 = .ok (.goto 4, 3) := by decide +kernel
theorem dX5_findHeaps_53 : decode cX5_findHeaps 53 = .ok (.iconst (-1), 1) := by decide +kernel
theorem dX5_findHeaps_54 : decode cX5_findHeaps 54 = .ok (.iastore, 1) := by decide +kernel
theorem dX5_findHeaps_55 : decode cX5_findHeaps 55 = .ok (.iinc 1 1, 3) := by decide +kernel
theorem dX5_findHeaps_58 : decode cX5_findHeaps 58 = .ok (.goto (-56), 3) := by decide +kernel
theorem dX5_findHeaps_61 : decode cX5_findHeaps 61 = .ok (.iconst 0, 1) := by decide +kernel
theorem dX5_findHeaps_62 : decode cX5_findHeaps 62 = .ok (.istore_n 1, 1) := by decide +kernel
theorem dX5_findHeaps_63 : decode cX5_findHeaps 63 = .ok (.iload_n 1, 1) := by decide +kernel
theorem dX5_findHeaps_64 : decode cX5_findHeaps 64 = .ok (.aload_n 0, 1) := by decide +kernel
theorem dX5_findHeaps_65 : decode cX5_findHeaps 65 = .ok (.getfield 66, 3) := by decide +kernel
theorem dX5_findHeaps_68 : decode cX5_findHeaps 68 = .ok (.if_icmp .ge 91, 3) := by decide +kernel
theorem dX5_findHeaps_71 : decode cX5_findHeaps 71 = .ok (.iload_n 1, 1) := by decide +kernel
theorem dX5_findHeaps_72 : decode cX5_findHeaps 72 = .ok (.iconst 1, 1) := by decide +kernel
theorem dX5_findHeaps_73 : decode cX5_findHeaps 73 = .ok (.iadd, 1) := by decide +kernel
theorem dX5_findHeaps_74 : decode cX5_findHeaps 74 = .ok (.istore_n 2, 1) := by decide +kernel
theorem dX5_findHeaps_75 : decode cX5_findHeaps 75 = .ok (.iload_n 2, 1) := by decide +kernel
theorem dX5_findHeaps_76 : decode cX5_findHeaps 76 = .ok (.aload_n 0, 1) := by decide +kernel
theorem dX5_findHeaps_77 : decode cX5_findHeaps 77 = .ok (.getfield 66, 3) := by decide +kernel
theorem dX5_findHeaps_80 : decode cX5_findHeaps 80 = .ok (.if_icmp .ge 73, 3) := by decide +kernel
theorem dX5_findHeaps_83 : decode cX5_findHeaps 83 = .ok (.aload_n 0, 1) := by decide +kernel
theorem dX5_findHeaps_84 : decode cX5_findHeaps 84 = .ok (.getfield 63, 3) := by decide +kernel
theorem dX5_findHeaps_87 : decode cX5_findHeaps 87 = .ok (.iload_n 1, 1) := by decide +kernel
theorem dX5_findHeaps_88 : decode cX5_findHeaps 88 = .ok (.iaload, 1) := by decide +kernel
theorem dX5_findHeaps_89 : decode cX5_findHeaps 89 = .ok (.iconst (-1), 1) := by decide +kernel
theorem dX5_findHeaps_90 : decode cX5_findHeaps 90 = .ok (.if_icmp .eq 57, 3) := by decide +kernel
theorem dX5_findHeaps_93 : decode cX5_findHeaps 93 = .ok (.aload_n 0, 1) := by decide +kernel
theorem dX5_findHeaps_94 : decode cX5_findHeaps 94 = .ok (.getfield 63, 3) := by decide +kernel
theorem dX5_findHeaps_97 : decode cX5_findHeaps 97 = .ok (.iload_n 2, 1) := by decide +kernel
theorem dX5_findHeaps_98 : decode cX5_findHeaps 98 = .ok (.iaload, 1) := by decide +kernel
theorem dX5_findHeaps_99 : decode cX5_findHeaps 99 = .ok (.iconst (-1), 1) := by decide +kernel
theorem dX5_findHeaps_100 : decode cX5_findHeaps 100 = .ok (.if_icmp .eq 47, 3) := by decide +kernel
theorem dX5_findHeaps_103 : decode cX5_findHeaps 103 = .ok (.aload_n 0, 1) := by decide +kernel
theorem dX5_findHeaps_104 : decode cX5_findHeaps 104 = .ok (.getfield 63, 3) := by decide +kernel
theorem dX5_findHeaps_107 : decode cX5_findHeaps 107 = .ok (.iload_n 1, 1) := by decide +kernel
theorem dX5_findHeaps_108 : decode cX5_findHeaps 108 = .ok (.iaload, 1) := by decide +kernel
theorem dX5_findHeaps_109 : decode cX5_findHeaps 109 = .ok (.aload_n 0, 1) := by decide +kernel
theorem dX5_findHeaps_110 : decode cX5_findHeaps 110 = .ok (.getfield 63, 3) := by decide +kernel
theorem dX5_findHeaps_113 : decode cX5_findHeaps 113 = .ok (.iload_n 2, 1) := by decide +kernel
theorem dX5_findHeaps_114 : decode cX5_findHeaps 114 = .ok (.iaload, 1) := by decide +kernel
theorem dX5_findHeaps_115 : decode cX5_findHeaps 115 = .ok (.if_icmp .eq 32, 3) := by decide +kernel
theorem dX5_findHeaps_118 : decode cX5_findHeaps 118 = .ok (.aload_n 0, 1) := by decide +kernel
theorem dX5_findHeaps_119 : decode cX5_findHeaps 119 = .ok (.iload_n 1, 1) := by decide +kernel
theorem dX5_findHeaps_120 : decode cX5_findHeaps 120 = .ok (.iload_n 2, 1) := by decide +kernel
theorem dX5_findHeaps_121 : decode cX5_findHeaps 121 = .ok (.invokevirtual 240, 3) := by decide +kernel
theorem dX5_findHeaps_124 : decode cX5_findHeaps 124 = .ok (.aload_n 0, 1) := by decide +kernel
theorem dX5_findHeaps_125 : decode cX5_findHeaps 125 = .ok (.getfield 76, 3) := by decide +kernel
theorem dX5_findHeaps_128 : decode cX5_findHeaps 128 = .ok (.if_icmp .gt 19, 3) := by decide +kernel
theorem dX5_findHeaps_131 : decode cX5_findHeaps 131 = .ok (.aload_n 0, 1) := by decide +kernel
theorem dX5_findHeaps_132 : decode cX5_findHeaps 132 = .ok (.aload_n 0, 1) := by decide +kernel
theorem dX5_findHeaps_133 : decode cX5_findHeaps 133 = .ok (.getfield 63, 3) := by decide +kernel
theorem dX5_findHeaps_136 : decode cX5_findHeaps 136 = .ok (.iload_n 1, 1) := by decide +kernel
theorem dX5_findHeaps_137 : decode cX5_findHeaps 137 = .ok (.iaload, 1) := by decide +kernel
theorem dX5_findHeaps_138 : decode cX5_findHeaps 138 = .ok (.aload_n 0, 1) := by decide +kernel
theorem dX5_findHeaps_139 : decode cX5_findHeaps 139 = .ok (.getfield 63, 3) := by decide +kernel
theorem dX5_findHeaps_142 : decode cX5_findHeaps 142 = .ok (.iload_n 2, 1) := by decide +kernel
theorem dX5_findHeaps_143 : decode cX5_findHeaps 143 = .ok (.iaload, 1) := by decide +kernel
theorem dX5_findHeaps_144 : decode cX5_findHeaps 144 = .ok (.invokevirtual 243, 3) := by decide +kernel
theorem dX5_findHeaps_147 : decode cX5_findHeaps 147 = .ok (.iinc 2 1, 3) := by decide +kernel
theorem dX5_findHeaps_150 : decode cX5_findHeaps 150 = .ok (.goto (-75), 3) := by decide +kernel
theorem dX5_findHeaps_153 : decode cX5_findHeaps 153 = .ok (.iinc 1 1, 3) := by decide +kernel
theorem dX5_findHeaps_156 : decode cX5_findHeaps 156 = .ok (.goto (-93), 3) := by decide +kernel
theorem dX5_findHeaps_159 : decode cX5_findHeaps 159 = .ok (.return_, 1) := by decide +kernel
theorem dX5_joinHeaps_0 : decode cX5_joinHeaps 0 = .ok (.iload_n 1, 1) := by decide +kernel
theorem dX5_joinHeaps_1 : decode cX5_joinHeaps 1 = .ok (.iload_n 2, 1) := by decide +kernel
theorem dX5_joinHeaps_2 : decode cX5_joinHeaps 2 = .ok (.invokestatic 186, 3) := by decide +kernel
theorem dX5_joinHeaps_5 : decode cX5_joinHeaps 5 = .ok (.istore_n 3, 1) := by decide +kernel
theorem dX5_joinHeaps_6 : decode cX5_joinHeaps 6 = .ok (.iload_n 1, 1) := by decide +kernel
theorem dX5_joinHeaps_7 : decode cX5_joinHeaps 7 = .ok (.iload_n 2, 1) := by decide +kernel
theorem dX5_joinHeaps_8 : decode cX5_joinHeaps 8 = .ok (.invokestatic 192, 3) := by decide +kernel
theorem dX5_joinHeaps_11 : decode cX5_joinHeaps 11 = .ok (.istore 4, 2) := by decide +kernel
theorem dX5_joinHeaps_13 : decode cX5_joinHeaps 13 = .ok (.iconst 0, 1) := by decide +kernel
theorem dX5_joinHeaps_14 : decode cX5_joinHeaps 14 = .ok (.istore 5, 2) := by decide +kernel
theorem dX5_joinHeaps_16 : decode cX5_joinHeaps 16 = .ok (.iload 5, 2) := by decide +kernel
theorem dX5_joinHeaps_18 : decode cX5_joinHeaps 18 = .ok (.aload_n 0, 1) := by decide +kernel
theorem dX5_joinHeaps_19 : decode cX5_joinHeaps 19 = .ok (.getfield 66, 3) := by decide +kernel
theorem dX5_joinHeaps_22 : decode cX5_joinHeaps 22 = .ok (.if_icmp .ge 29, 3) := by decide +kernel
theorem dX5_joinHeaps_25 : decode cX5_joinHeaps 25 = .ok (.aload_n 0, 1) := by decide +kernel
theorem dX5_joinHeaps_26 : decode cX5_joinHeaps 26 = .ok (.getfield 63, 3) := by decide +kernel
theorem dX5_joinHeaps_29 : decode cX5_joinHeaps 29 = .ok (.iload 5, 2) := by decide +kernel
theorem dX5_joinHeaps_31 : decode cX5_joinHeaps 31 = .ok (.iaload, 1) := by decide +kernel
theorem dX5_joinHeaps_32 : decode cX5_joinHeaps 32 = .ok (.iload 4, 2) := by decide +kernel
theorem dX5_joinHeaps_34 : decode cX5_joinHeaps 34 = .ok (.if_icmp .ne 11, 3) := by decide +kernel
theorem dX5_joinHeaps_37 : decode cX5_joinHeaps 37 = .ok (.aload_n 0, 1) := by decide +kernel
theorem dX5_joinHeaps_38 : decode cX5_joinHeaps 38 = .ok (.getfield 63, 3) := by decide +kernel
theorem dX5_joinHeaps_41 : decode cX5_joinHeaps 41 = .ok (.iload 5, 2) := by decide +kernel
theorem dX5_joinHeaps_43 : decode cX5_joinHeaps 43 = .ok (.iload_n 3, 1) := by decide +kernel
theorem dX5_joinHeaps_44 : decode cX5_joinHeaps 44 = .ok (.iastore, 1) := by decide +kernel
theorem dX5_joinHeaps_45 : decode cX5_joinHeaps 45 = .ok (.iinc 5 1, 3) := by decide +kernel
theorem dX5_joinHeaps_48 : decode cX5_joinHeaps 48 = .ok (.goto (-32), 3) := by decide +kernel
theorem dX5_joinHeaps_51 : decode cX5_joinHeaps 51 = .ok (.return_, 1) := by decide +kernel
theorem dX5_nearCost_0 : decode cX5_nearCost 0 = .ok (.iload_n 1, 1) := by decide +kernel
theorem dX5_nearCost_1 : decode cX5_nearCost 1 = .ok (.bipush 16, 2) := by decide +kernel
theorem dX5_nearCost_3 : decode cX5_nearCost 3 = .ok (.imul, 1) := by decide +kernel
theorem dX5_nearCost_4 : decode cX5_nearCost 4 = .ok (.iload_n 2, 1) := by decide +kernel
theorem dX5_nearCost_5 : decode cX5_nearCost 5 = .ok (.iadd, 1) := by decide +kernel
theorem dX5_nearCost_6 : decode cX5_nearCost 6 = .ok (.istore_n 3, 1) := by decide +kernel
theorem dX5_nearCost_7 : decode cX5_nearCost 7 = .ok (.aload_n 0, 1) := by decide +kernel
theorem dX5_nearCost_8 : decode cX5_nearCost 8 = .ok (.getfield 60, 3) := by decide +kernel
theorem dX5_nearCost_11 : decode cX5_nearCost 11 = .ok (.iload_n 3, 1) := by decide +kernel
theorem dX5_nearCost_12 : decode cX5_nearCost 12 = .ok (.iaload, 1) := by decide +kernel
theorem dX5_nearCost_13 : decode cX5_nearCost 13 = .ok (.iconst (-1), 1) := by decide +kernel
theorem dX5_nearCost_14 : decode cX5_nearCost 14 = .ok (.if_icmp .ne 31, 3) := by decide +kernel
theorem dX5_nearCost_17 : decode cX5_nearCost 17 = .ok (.aload_n 0, 1) := by decide +kernel
theorem dX5_nearCost_18 : decode cX5_nearCost 18 = .ok (.getfield 60, 3) := by decide +kernel
theorem dX5_nearCost_21 : decode cX5_nearCost 21 = .ok (.iload_n 3, 1) := by decide +kernel
theorem dX5_nearCost_22 : decode cX5_nearCost 22 = .ok (.aload_n 0, 1) := by decide +kernel
theorem dX5_nearCost_23 : decode cX5_nearCost 23 = .ok (.getfield 28, 3) := by decide +kernel
theorem dX5_nearCost_26 : decode cX5_nearCost 26 = .ok (.aload_n 0, 1) := by decide +kernel
theorem dX5_nearCost_27 : decode cX5_nearCost 27 = .ok (.getfield 11, 3) := by decide +kernel
theorem dX5_nearCost_30 : decode cX5_nearCost 30 = .ok (.iload_n 1, 1) := by decide +kernel
theorem dX5_nearCost_31 : decode cX5_nearCost 31 = .ok (.aaload, 1) := by decide +kernel
theorem dX5_nearCost_32 : decode cX5_nearCost 32 = .ok (.aload_n 0, 1) := by decide +kernel
theorem dX5_nearCost_33 : decode cX5_nearCost 33 = .ok (.getfield 11, 3) := by decide +kernel
theorem dX5_nearCost_36 : decode cX5_nearCost 36 = .ok (.iload_n 2, 1) := by decide +kernel
theorem dX5_nearCost_37 : decode cX5_nearCost 37 = .ok (.aaload, 1) := by decide +kernel
theorem dX5_nearCost_38 : decode cX5_nearCost 38 = .ok (.invokevirtual 195, 3) := by decide +kernel
theorem dX5_nearCost_41 : decode cX5_nearCost 41 = .ok (.invokestatic 157, 3) := by decide +kernel
theorem dX5_nearCost_44 : decode cX5_nearCost 44 = .ok (.iastore, 1) := by decide +kernel
theorem dX5_nearCost_45 : decode cX5_nearCost 45 = .ok (.aload_n 0, 1) := by decide +kernel
theorem dX5_nearCost_46 : decode cX5_nearCost 46 = .ok (.getfield 60, 3) := by decide +kernel
theorem dX5_nearCost_49 : decode cX5_nearCost 49 = .ok (.iload_n 3, 1) := by decide +kernel
theorem dX5_nearCost_50 : decode cX5_nearCost 50 = .ok (.iaload, 1) := by decide +kernel
theorem dX5_nearCost_51 : decode cX5_nearCost 51 = .ok (.ireturn, 1) := by decide +kernel
theorem dX5_codeApart_0 : decode cX5_codeApart 0 = .ok (.iconst (-1), 1) := by decide +kernel
theorem dX5_codeApart_1 : decode cX5_codeApart 1 = .ok (.istore_n 2, 1) := by decide +kernel
theorem dX5_codeApart_2 : decode cX5_codeApart 2 = .ok (.iconst 1, 1) := by decide +kernel
theorem dX5_codeApart_3 : decode cX5_codeApart 3 = .ok (.istore_n 3, 1) := by decide +kernel
theorem dX5_codeApart_4 : decode cX5_codeApart 4 = .ok (.iload_n 3, 1) := by decide +kernel
theorem dX5_codeApart_5 : decode cX5_codeApart 5 = .ok (.bipush 99, 2) := by decide +kernel
theorem dX5_codeApart_7 : decode cX5_codeApart 7 = .ok (.if_icmp .gt 97, 3) := by decide +kernel
theorem dX5_codeApart_10 : decode cX5_codeApart 10 = .ok (.aload_n 0, 1) := by decide +kernel
theorem dX5_codeApart_11 : decode cX5_codeApart 11 = .ok (.iload_n 3, 1) := by decide +kernel
theorem dX5_codeApart_12 : decode cX5_codeApart 12 = .ok (.invokevirtual 96, 3) := by decide +kernel
theorem dX5_codeApart_15 : decode cX5_codeApart 15 = .ok (.istore 4, 2) := by decide +kernel
theorem dX5_codeApart_17 : decode cX5_codeApart 17 = .ok (.aload_n 1, 1) := by decide +kernel
theorem dX5_codeApart_18 : decode cX5_codeApart 18 = .ok (.iload_n 3, 1) := by decide +kernel
theorem dX5_codeApart_19 : decode cX5_codeApart 19 = .ok (.invokevirtual 96, 3) := by decide +kernel
theorem dX5_codeApart_22 : decode cX5_codeApart 22 = .ok (.istore 5, 2) := by decide +kernel
theorem dX5_codeApart_24 : decode cX5_codeApart 24 = .ok (.iload 4, 2) := by decide +kernel
theorem dX5_codeApart_26 : decode cX5_codeApart 26 = .ok (.iconst (-1), 1) := by decide +kernel
theorem dX5_codeApart_27 : decode cX5_codeApart 27 = .ok (.if_icmp .ne 7, 3) := by decide +kernel
theorem dX5_codeApart_30 : decode cX5_codeApart 30 = .ok (.iconst 1, 1) := by decide +kernel
theorem dX5_codeApart_31 : decode cX5_codeApart 31 = .ok (.goto 4, 3) := by decide +kernel
theorem dX5_codeApart_34 : decode cX5_codeApart 34 = .ok (.iconst 0, 1) := by decide +kernel
theorem dX5_codeApart_35 : decode cX5_codeApart 35 = .ok (.iload 5, 2) := by decide +kernel
theorem dX5_codeApart_37 : decode cX5_codeApart 37 = .ok (.iconst (-1), 1) := by decide +kernel
theorem dX5_codeApart_38 : decode cX5_codeApart 38 = .ok (.if_icmp .ne 7, 3) := by decide +kernel
theorem dX5_codeApart_41 : decode cX5_codeApart 41 = .ok (.iconst 1, 1) := by decide +kernel
theorem dX5_codeApart_42 : decode cX5_codeApart 42 = .ok (.goto 4, 3) := by decide +kernel
theorem dX5_codeApart_45 : decode cX5_codeApart 45 = .ok (.iconst 0, 1) := by decide +kernel
theorem dX5_codeApart_46 : decode cX5_codeApart 46 = .ok (.if_icmp .eq 5, 3) := by decide +kernel
theorem dX5_codeApart_49 : decode cX5_codeApart 49 = .ok (.iload_n 3, 1) := by decide +kernel
theorem dX5_codeApart_50 : decode cX5_codeApart 50 = .ok (.ireturn, 1) := by decide +kernel
theorem dX5_codeApart_51 : decode cX5_codeApart 51 = .ok (.iload_n 2, 1) := by decide +kernel
theorem dX5_codeApart_52 : decode cX5_codeApart 52 = .ok (.iconst (-1), 1) := by decide +kernel
theorem dX5_codeApart_53 : decode cX5_codeApart 53 = .ok (.if_icmp .ne 45, 3) := by decide +kernel
theorem dX5_codeApart_56 : decode cX5_codeApart 56 = .ok (.iload 4, 2) := by decide +kernel
theorem dX5_codeApart_58 : decode cX5_codeApart 58 = .ok (.iconst (-1), 1) := by decide +kernel
theorem dX5_codeApart_59 : decode cX5_codeApart 59 = .ok (.if_icmp .eq 39, 3) := by decide +kernel
theorem dX5_codeApart_62 : decode cX5_codeApart 62 = .ok (.aload_n 0, 1) := by decide +kernel
theorem dX5_codeApart_63 : decode cX5_codeApart 63 = .ok (.getfield 140, 3) := by decide +kernel
theorem dX5_codeApart_66 : decode cX5_codeApart 66 = .ok (.iload 4, 2) := by decide +kernel
theorem dX5_codeApart_68 : decode cX5_codeApart 68 = .ok (.iaload, 1) := by decide +kernel
theorem dX5_codeApart_69 : decode cX5_codeApart 69 = .ok (.aload_n 1, 1) := by decide +kernel
theorem dX5_codeApart_70 : decode cX5_codeApart 70 = .ok (.getfield 140, 3) := by decide +kernel
theorem dX5_codeApart_73 : decode cX5_codeApart 73 = .ok (.iload 5, 2) := by decide +kernel
theorem dX5_codeApart_75 : decode cX5_codeApart 75 = .ok (.iaload, 1) := by decide +kernel
theorem dX5_codeApart_76 : decode cX5_codeApart 76 = .ok (.if_icmp .ne 20, 3) := by decide +kernel
theorem dX5_codeApart_79 : decode cX5_codeApart 79 = .ok (.aload_n 0, 1) := by decide +kernel
theorem dX5_codeApart_80 : decode cX5_codeApart 80 = .ok (.getfield 143, 3) := by decide +kernel
theorem dX5_codeApart_83 : decode cX5_codeApart 83 = .ok (.iload 4, 2) := by decide +kernel
theorem dX5_codeApart_85 : decode cX5_codeApart 85 = .ok (.iaload, 1) := by decide +kernel
theorem dX5_codeApart_86 : decode cX5_codeApart 86 = .ok (.aload_n 1, 1) := by decide +kernel
theorem dX5_codeApart_87 : decode cX5_codeApart 87 = .ok (.getfield 143, 3) := by decide +kernel
theorem dX5_codeApart_90 : decode cX5_codeApart 90 = .ok (.iload 5, 2) := by decide +kernel
theorem dX5_codeApart_92 : decode cX5_codeApart 92 = .ok (.iaload, 1) := by decide +kernel
theorem dX5_codeApart_93 : decode cX5_codeApart 93 = .ok (.if_icmp .eq 5, 3) := by decide +kernel
theorem dX5_codeApart_96 : decode cX5_codeApart 96 = .ok (.iload_n 3, 1) := by decide +kernel
theorem dX5_codeApart_97 : decode cX5_codeApart 97 = .ok (.istore_n 2, 1) := by decide +kernel
theorem dX5_codeApart_98 : decode cX5_codeApart 98 = .ok (.iinc 3 1, 3) := by decide +kernel
theorem dX5_codeApart_101 : decode cX5_codeApart 101 = .ok (.goto (-97), 3) := by decide +kernel
theorem dX5_codeApart_104 : decode cX5_codeApart 104 = .ok (.iload_n 2, 1) := by decide +kernel
theorem dX5_codeApart_105 : decode cX5_codeApart 105 = .ok (.ireturn, 1) := by decide +kernel
theorem dX5_tryTelling_0 : decode cX5_tryTelling 0 = .ok (.iconst 0, 1) := by decide +kernel
theorem dX5_tryTelling_1 : decode cX5_tryTelling 1 = .ok (.istore_n 3, 1) := by decide +kernel
theorem dX5_tryTelling_2 : decode cX5_tryTelling 2 = .ok (.iload_n 3, 1) := by decide +kernel
theorem dX5_tryTelling_3 : decode cX5_tryTelling 3 = .ok (.bipush 16, 2) := by decide +kernel
theorem dX5_tryTelling_5 : decode cX5_tryTelling 5 = .ok (.if_icmp .ge 21, 3) := by decide +kernel
theorem dX5_tryTelling_8 : decode cX5_tryTelling 8 = .ok (.aload_n 0, 1) := by decide +kernel
theorem dX5_tryTelling_9 : decode cX5_tryTelling 9 = .ok (.getfield 46, 3) := by decide +kernel
theorem dX5_tryTelling_12 : decode cX5_tryTelling 12 = .ok (.iload_n 3, 1) := by decide +kernel
theorem dX5_tryTelling_13 : decode cX5_tryTelling 13 = .ok (.aload_n 0, 1) := by decide +kernel
theorem dX5_tryTelling_14 : decode cX5_tryTelling 14 = .ok (.getfield 15, 3) := by decide +kernel
theorem dX5_tryTelling_17 : decode cX5_tryTelling 17 = .ok (.iload_n 3, 1) := by decide +kernel
theorem dX5_tryTelling_18 : decode cX5_tryTelling 18 = .ok (.iaload, 1) := by decide +kernel
theorem dX5_tryTelling_19 : decode cX5_tryTelling 19 = .ok (.iastore, 1) := by decide +kernel
theorem dX5_tryTelling_20 : decode cX5_tryTelling 20 = .ok (.iinc 3 1, 3) := by decide +kernel
theorem dX5_tryTelling_23 : decode cX5_tryTelling 23 = .ok (.goto (-21), 3) := by decide +kernel
theorem dX5_tryTelling_26 : decode cX5_tryTelling 26 = .ok (.aload_n 0, 1) := by decide +kernel
theorem dX5_tryTelling_27 : decode cX5_tryTelling 27 = .ok (.getfield 46, 3) := by decide +kernel
theorem dX5_tryTelling_30 : decode cX5_tryTelling 30 = .ok (.iload_n 1, 1) := by decide +kernel
theorem dX5_tryTelling_31 : decode cX5_tryTelling 31 = .ok (.iload_n 2, 1) := by decide +kernel
theorem dX5_tryTelling_32 : decode cX5_tryTelling 32 = .ok (.iastore, 1) := by decide +kernel
theorem dX5_tryTelling_33 : decode cX5_tryTelling 33 = .ok (.iconst 0, 1) := by decide +kernel
theorem dX5_tryTelling_34 : decode cX5_tryTelling 34 = .ok (.istore_n 3, 1) := by decide +kernel
theorem dX5_tryTelling_35 : decode cX5_tryTelling 35 = .ok (.iload_n 3, 1) := by decide +kernel
theorem dX5_tryTelling_36 : decode cX5_tryTelling 36 = .ok (.iconst 5, 1) := by decide +kernel
theorem dX5_tryTelling_37 : decode cX5_tryTelling 37 = .ok (.if_icmp .ge 21, 3) := by decide +kernel
theorem dX5_tryTelling_40 : decode cX5_tryTelling 40 = .ok (.aload_n 0, 1) := by decide +kernel
theorem dX5_tryTelling_41 : decode cX5_tryTelling 41 = .ok (.getfield 49, 3) := by decide +kernel
theorem dX5_tryTelling_44 : decode cX5_tryTelling 44 = .ok (.iload_n 3, 1) := by decide +kernel
theorem dX5_tryTelling_45 : decode cX5_tryTelling 45 = .ok (.aload_n 0, 1) := by decide +kernel
theorem dX5_tryTelling_46 : decode cX5_tryTelling 46 = .ok (.getfield 21, 3) := by decide +kernel
theorem dX5_tryTelling_49 : decode cX5_tryTelling 49 = .ok (.iload_n 3, 1) := by decide +kernel
theorem dX5_tryTelling_50 : decode cX5_tryTelling 50 = .ok (.aaload, 1) := by decide +kernel
theorem dX5_tryTelling_51 : decode cX5_tryTelling 51 = .ok (.aastore, 1) := by decide +kernel
theorem dX5_tryTelling_52 : decode cX5_tryTelling 52 = .ok (.iinc 3 1, 3) := by decide +kernel
theorem dX5_tryTelling_55 : decode cX5_tryTelling 55 = .ok (.goto (-20), 3) := by decide +kernel
theorem dX5_tryTelling_58 : decode cX5_tryTelling 58 = .ok (.aload_n 0, 1) := by decide +kernel
theorem dX5_tryTelling_59 : decode cX5_tryTelling 59 = .ok (.aload_n 0, 1) := by decide +kernel
theorem dX5_tryTelling_60 : decode cX5_tryTelling 60 = .ok (.getfield 53, 3) := by decide +kernel
theorem dX5_tryTelling_63 : decode cX5_tryTelling 63 = .ok (.aload_n 0, 1) := by decide +kernel
theorem dX5_tryTelling_64 : decode cX5_tryTelling 64 = .ok (.getfield 15, 3) := by decide +kernel
theorem dX5_tryTelling_67 : decode cX5_tryTelling 67 = .ok (.iload_n 1, 1) := by decide +kernel
theorem dX5_tryTelling_68 : decode cX5_tryTelling 68 = .ok (.iaload, 1) := by decide +kernel
theorem dX5_tryTelling_69 : decode cX5_tryTelling 69 = .ok (.invokevirtual 246, 3) := by decide +kernel
theorem dX5_tryTelling_72 : decode cX5_tryTelling 72 = .ok (.aload_n 0, 1) := by decide +kernel
theorem dX5_tryTelling_73 : decode cX5_tryTelling 73 = .ok (.aload_n 0, 1) := by decide +kernel
theorem dX5_tryTelling_74 : decode cX5_tryTelling 74 = .ok (.getfield 57, 3) := by decide +kernel
theorem dX5_tryTelling_77 : decode cX5_tryTelling 77 = .ok (.iload_n 2, 1) := by decide +kernel
theorem dX5_tryTelling_78 : decode cX5_tryTelling 78 = .ok (.invokevirtual 246, 3) := by decide +kernel
theorem dX5_tryTelling_81 : decode cX5_tryTelling 81 = .ok (.return_, 1) := by decide +kernel
theorem dX5_tryMaking_0 : decode cX5_tryMaking 0 = .ok (.iload_n 2, 1) := by decide +kernel
theorem dX5_tryMaking_1 : decode cX5_tryMaking 1 = .ok (.invokestatic 129, 3) := by decide +kernel
theorem dX5_tryMaking_4 : decode cX5_tryMaking 4 = .ok (.ifCond .eq 27, 3) := by decide +kernel
theorem dX5_tryMaking_7 : decode cX5_tryMaking 7 = .ok (.aload_n 0, 1) := by decide +kernel
theorem dX5_tryMaking_8 : decode cX5_tryMaking 8 = .ok (.getfield 35, 3) := by decide +kernel
theorem dX5_tryMaking_11 : decode cX5_tryMaking 11 = .ok (.aload_n 1, 1) := by decide +kernel
theorem dX5_tryMaking_12 : decode cX5_tryMaking 12 = .ok (.iload_n 2, 1) := by decide +kernel
theorem dX5_tryMaking_13 : decode cX5_tryMaking 13 = .ok (.aload_n 0, 1) := by decide +kernel
theorem dX5_tryMaking_14 : decode cX5_tryMaking 14 = .ok (.getfield 11, 3) := by decide +kernel
theorem dX5_tryMaking_17 : decode cX5_tryMaking 17 = .ok (.aload_n 0, 1) := by decide +kernel
theorem dX5_tryMaking_18 : decode cX5_tryMaking 18 = .ok (.getfield 46, 3) := by decide +kernel
theorem dX5_tryMaking_21 : decode cX5_tryMaking 21 = .ok (.invokevirtual 210, 3) := by decide +kernel
theorem dX5_tryMaking_24 : decode cX5_tryMaking 24 = .ok (.aload_n 0, 1) := by decide +kernel
theorem dX5_tryMaking_25 : decode cX5_tryMaking 25 = .ok (.getfield 49, 3) := by decide +kernel
theorem dX5_tryMaking_28 : decode cX5_tryMaking 28 = .ok (.iload_n 2, 1) := by decide +kernel
theorem dX5_tryMaking_29 : decode cX5_tryMaking 29 = .ok (.aload_n 1, 1) := by decide +kernel
theorem dX5_tryMaking_30 : decode cX5_tryMaking 30 = .ok (.aastore, 1) := by decide +kernel
theorem dX5_tryMaking_31 : decode cX5_tryMaking 31 = .ok (.return_, 1) := by decide +kernel
