theorem dX6_init_0 : decode cX6_init 0 = .ok (.aload_n 0, 1) := by decide +kernel
theorem dX6_init_1 : decode cX6_init 1 = .ok (.invokespecial 1, 3) := by decide +kernel
theorem dX6_init_4 : decode cX6_init 4 = .ok (.aload_n 0, 1) := by decide +kernel
theorem dX6_init_5 : decode cX6_init 5 = .ok (.bipush 16, 2) := by decide +kernel
theorem dX6_init_7 : decode cX6_init 7 = .ok (.newarray .int, 2) := by decide +kernel
theorem dX6_init_9 : decode cX6_init 9 = .ok (.putfield 7, 3) := by decide +kernel
theorem dX6_init_12 : decode cX6_init 12 = .ok (.aload_n 0, 1) := by decide +kernel
theorem dX6_init_13 : decode cX6_init 13 = .ok (.sipush 128, 3) := by decide +kernel
theorem dX6_init_16 : decode cX6_init 16 = .ok (.newarray .int, 2) := by decide +kernel
theorem dX6_init_18 : decode cX6_init 18 = .ok (.putfield 13, 3) := by decide +kernel
theorem dX6_init_21 : decode cX6_init 21 = .ok (.aload_n 0, 1) := by decide +kernel
theorem dX6_init_22 : decode cX6_init 22 = .ok (.sipush 128, 3) := by decide +kernel
theorem dX6_init_25 : decode cX6_init 25 = .ok (.newarray .int, 2) := by decide +kernel
theorem dX6_init_27 : decode cX6_init 27 = .ok (.putfield 16, 3) := by decide +kernel
theorem dX6_init_30 : decode cX6_init 30 = .ok (.aload_n 0, 1) := by decide +kernel
theorem dX6_init_31 : decode cX6_init 31 = .ok (.sipush 128, 3) := by decide +kernel
theorem dX6_init_34 : decode cX6_init 34 = .ok (.newarray .int, 2) := by decide +kernel
theorem dX6_init_36 : decode cX6_init 36 = .ok (.putfield 19, 3) := by decide +kernel
theorem dX6_init_39 : decode cX6_init 39 = .ok (.aload_n 0, 1) := by decide +kernel
theorem dX6_init_40 : decode cX6_init 40 = .ok (.bipush 16, 2) := by decide +kernel
theorem dX6_init_42 : decode cX6_init 42 = .ok (.newarray .int, 2) := by decide +kernel
theorem dX6_init_44 : decode cX6_init 44 = .ok (.dup, 1) := by decide +kernel
theorem dX6_init_45 : decode cX6_init 45 = .ok (.iconst 0, 1) := by decide +kernel
theorem dX6_init_46 : decode cX6_init 46 = .ok (.iconst (-1), 1) := by decide +kernel
theorem dX6_init_47 : decode cX6_init 47 = .ok (.iastore, 1) := by decide +kernel
theorem dX6_init_48 : decode cX6_init 48 = .ok (.dup, 1) := by decide +kernel
theorem dX6_init_49 : decode cX6_init 49 = .ok (.iconst 1, 1) := by decide +kernel
theorem dX6_init_50 : decode cX6_init 50 = .ok (.iconst (-1), 1) := by decide +kernel
theorem dX6_init_51 : decode cX6_init 51 = .ok (.iastore, 1) := by decide +kernel
theorem dX6_init_52 : decode cX6_init 52 = .ok (.dup, 1) := by decide +kernel
theorem dX6_init_53 : decode cX6_init 53 = .ok (.iconst 2, 1) := by decide +kernel
theorem dX6_init_54 : decode cX6_init 54 = .ok (.iconst (-1), 1) := by decide +kernel
theorem dX6_init_55 : decode cX6_init 55 = .ok (.iastore, 1) := by decide +kernel
theorem dX6_init_56 : decode cX6_init 56 = .ok (.dup, 1) := by decide +kernel
theorem dX6_init_57 : decode cX6_init 57 = .ok (.iconst 3, 1) := by decide +kernel
theorem dX6_init_58 : decode cX6_init 58 = .ok (.iconst (-1), 1) := by decide +kernel
theorem dX6_init_59 : decode cX6_init 59 = .ok (.iastore, 1) := by decide +kernel
theorem dX6_init_60 : decode cX6_init 60 = .ok (.dup, 1) := by decide +kernel
theorem dX6_init_61 : decode cX6_init 61 = .ok (.iconst 4, 1) := by decide +kernel
theorem dX6_init_62 : decode cX6_init 62 = .ok (.iconst (-1), 1) := by decide +kernel
theorem dX6_init_63 : decode cX6_init 63 = .ok (.iastore, 1) := by decide +kernel
theorem dX6_init_64 : decode cX6_init 64 = .ok (.dup, 1) := by decide +kernel
theorem dX6_init_65 : decode cX6_init 65 = .ok (.iconst 5, 1) := by decide +kernel
theorem dX6_init_66 : decode cX6_init 66 = .ok (.iconst (-1), 1) := by decide +kernel
theorem dX6_init_67 : decode cX6_init 67 = .ok (.iastore, 1) := by decide +kernel
theorem dX6_init_68 : decode cX6_init 68 = .ok (.dup, 1) := by decide +kernel
theorem dX6_init_69 : decode cX6_init 69 = .ok (.bipush 6, 2) := by decide +kernel
theorem dX6_init_71 : decode cX6_init 71 = .ok (.iconst (-1), 1) := by decide +kernel
theorem dX6_init_72 : decode cX6_init 72 = .ok (.iastore, 1) := by decide +kernel
theorem dX6_init_73 : decode cX6_init 73 = .ok (.dup, 1) := by decide +kernel
theorem dX6_init_74 : decode cX6_init 74 = .ok (.bipush 7, 2) := by decide +kernel
theorem dX6_init_76 : decode cX6_init 76 = .ok (.iconst (-1), 1) := by decide +kernel
theorem dX6_init_77 : decode cX6_init 77 = .ok (.iastore, 1) := by decide +kernel
theorem dX6_init_78 : decode cX6_init 78 = .ok (.dup, 1) := by decide +kernel
theorem dX6_init_79 : decode cX6_init 79 = .ok (.bipush 8, 2) := by decide +kernel
theorem dX6_init_81 : decode cX6_init 81 = .ok (.iconst (-1), 1) := by decide +kernel
theorem dX6_init_82 : decode cX6_init 82 = .ok (.iastore, 1) := by decide +kernel
theorem dX6_init_83 : decode cX6_init 83 = .ok (.dup, 1) := by decide +kernel
theorem dX6_init_84 : decode cX6_init 84 = .ok (.bipush 9, 2) := by decide +kernel
theorem dX6_init_86 : decode cX6_init 86 = .ok (.iconst (-1), 1) := by decide +kernel
theorem dX6_init_87 : decode cX6_init 87 = .ok (.iastore, 1) := by decide +kernel
theorem dX6_init_88 : decode cX6_init 88 = .ok (.dup, 1) := by decide +kernel
theorem dX6_init_89 : decode cX6_init 89 = .ok (.bipush 10, 2) := by decide +kernel
theorem dX6_init_91 : decode cX6_init 91 = .ok (.iconst (-1), 1) := by decide +kernel
theorem dX6_init_92 : decode cX6_init 92 = .ok (.iastore, 1) := by decide +kernel
theorem dX6_init_93 : decode cX6_init 93 = .ok (.dup, 1) := by decide +kernel
theorem dX6_init_94 : decode cX6_init 94 = .ok (.bipush 11, 2) := by decide +kernel
theorem dX6_init_96 : decode cX6_init 96 = .ok (.iconst (-1), 1) := by decide +kernel
theorem dX6_init_97 : decode cX6_init 97 = .ok (.iastore, 1) := by decide +kernel
theorem dX6_init_98 : decode cX6_init 98 = .ok (.dup, 1) := by decide +kernel
theorem dX6_init_99 : decode cX6_init 99 = .ok (.bipush 12, 2) := by decide +kernel
theorem dX6_init_101 : decode cX6_init 101 = .ok (.iconst (-1), 1) := by decide +kernel
theorem dX6_init_102 : decode cX6_init 102 = .ok (.iastore, 1) := by decide +kernel
theorem dX6_init_103 : decode cX6_init 103 = .ok (.dup, 1) := by decide +kernel
theorem dX6_init_104 : decode cX6_init 104 = .ok (.bipush 13, 2) := by decide +kernel
theorem dX6_init_106 : decode cX6_init 106 = .ok (.iconst (-1), 1) := by decide +kernel
theorem dX6_init_107 : decode cX6_init 107 = .ok (.iastore, 1) := by decide +kernel
theorem dX6_init_108 : decode cX6_init 108 = .ok (.dup, 1) := by decide +kernel
theorem dX6_init_109 : decode cX6_init 109 = .ok (.bipush 14, 2) := by decide +kernel
theorem dX6_init_111 : decode cX6_init 111 = .ok (.iconst (-1), 1) := by decide +kernel
theorem dX6_init_112 : decode cX6_init 112 = .ok (.iastore, 1) := by decide +kernel
theorem dX6_init_113 : decode cX6_init 113 = .ok (.dup, 1) := by decide +kernel
theorem dX6_init_114 : decode cX6_init 114 = .ok (.bipush 15, 2) := by decide +kernel
theorem dX6_init_116 : decode cX6_init 116 = .ok (.iconst (-1), 1) := by decide +kernel
theorem dX6_init_117 : decode cX6_init 117 = .ok (.iastore, 1) := by decide +kernel
theorem dX6_init_118 : decode cX6_init 118 = .ok (.putfield 22, 3) := by decide +kernel
theorem dX6_init_121 : decode cX6_init 121 = .ok (.aload_n 0, 1) := by decide +kernel
theorem dX6_init_122 : decode cX6_init 122 = .ok (.iconst 5, 1) := by decide +kernel
theorem dX6_init_123 : decode cX6_init 123 = .ok (.newarray .int, 2) := by decide +kernel
theorem dX6_init_125 : decode cX6_init 125 = .ok (.dup, 1) := by decide +kernel
theorem dX6_init_126 : decode cX6_init 126 = .ok (.iconst 0, 1) := by decide +kernel
theorem dX6_init_127 : decode cX6_init 127 = .ok (.iconst 1, 1) := by decide +kernel
theorem dX6_init_128 : decode cX6_init 128 = .ok (.iastore, 1) := by decide +kernel
theorem dX6_init_129 : decode cX6_init 129 = .ok (.dup, 1) := by decide +kernel
theorem dX6_init_130 : decode cX6_init 130 = .ok (.iconst 1, 1) := by decide +kernel
theorem dX6_init_131 : decode cX6_init 131 = .ok (.iconst 1, 1) := by decide +kernel
theorem dX6_init_132 : decode cX6_init 132 = .ok (.iastore, 1) := by decide +kernel
theorem dX6_init_133 : decode cX6_init 133 = .ok (.dup, 1) := by decide +kernel
theorem dX6_init_134 : decode cX6_init 134 = .ok (.iconst 2, 1) := by decide +kernel
theorem dX6_init_135 : decode cX6_init 135 = .ok (.bipush 20, 2) := by decide +kernel
theorem dX6_init_137 : decode cX6_init 137 = .ok (.iastore, 1) := by decide +kernel
theorem dX6_init_138 : decode cX6_init 138 = .ok (.dup, 1) := by decide +kernel
theorem dX6_init_139 : decode cX6_init 139 = .ok (.iconst 3, 1) := by decide +kernel
theorem dX6_init_140 : decode cX6_init 140 = .ok (.bipush 16, 2) := by decide +kernel
theorem dX6_init_142 : decode cX6_init 142 = .ok (.iastore, 1) := by decide +kernel
theorem dX6_init_143 : decode cX6_init 143 = .ok (.dup, 1) := by decide +kernel
theorem dX6_init_144 : decode cX6_init 144 = .ok (.iconst 4, 1) := by decide +kernel
theorem dX6_init_145 : decode cX6_init 145 = .ok (.bipush 8, 2) := by decide +kernel
theorem dX6_init_147 : decode cX6_init 147 = .ok (.iastore, 1) := by decide +kernel
theorem dX6_init_148 : decode cX6_init 148 = .ok (.putfield 25, 3) := by decide +kernel
theorem dX6_init_151 : decode cX6_init 151 = .ok (.aload_n 0, 1) := by decide +kernel
theorem dX6_init_152 : decode cX6_init 152 = .ok (.bipush 60, 2) := by decide +kernel
theorem dX6_init_154 : decode cX6_init 154 = .ok (.putfield 28, 3) := by decide +kernel
theorem dX6_init_157 : decode cX6_init 157 = .ok (.aload_n 0, 1) := by decide +kernel
theorem dX6_init_158 : decode cX6_init 158 = .ok (.bipush 10, 2) := by decide +kernel
theorem dX6_init_160 : decode cX6_init 160 = .ok (.putfield 32, 3) := by decide +kernel
theorem dX6_init_163 : decode cX6_init 163 = .ok (.aload_n 0, 1) := by decide +kernel
theorem dX6_init_164 : decode cX6_init 164 = .ok (.bipush 30, 2) := by decide +kernel
theorem dX6_init_166 : decode cX6_init 166 = .ok (.putfield 35, 3) := by decide +kernel
theorem dX6_init_169 : decode cX6_init 169 = .ok (.aload_n 0, 1) := by decide +kernel
theorem dX6_init_170 : decode cX6_init 170 = .ok (.iconst 5, 1) := by decide +kernel
theorem dX6_init_171 : decode cX6_init 171 = .ok (.newarray .int, 2) := by decide +kernel
theorem dX6_init_173 : decode cX6_init 173 = .ok (.putfield 38, 3) := by decide +kernel
theorem dX6_init_176 : decode cX6_init 176 = .ok (.aload_n 0, 1) := by decide +kernel
theorem dX6_init_177 : decode cX6_init 177 = .ok (.iconst 5, 1) := by decide +kernel
theorem dX6_init_178 : decode cX6_init 178 = .ok (.newarray .int, 2) := by decide +kernel
theorem dX6_init_180 : decode cX6_init 180 = .ok (.putfield 41, 3) := by decide +kernel
theorem dX6_init_183 : decode cX6_init 183 = .ok (.aload_n 0, 1) := by decide +kernel
theorem dX6_init_184 : decode cX6_init 184 = .ok (.bipush 80, 2) := by decide +kernel
theorem dX6_init_186 : decode cX6_init 186 = .ok (.newarray .int, 2) := by decide +kernel
theorem dX6_init_188 : decode cX6_init 188 = .ok (.putfield 44, 3) := by decide +kernel
theorem dX6_init_191 : decode cX6_init 191 = .ok (.aload_n 0, 1) := by decide +kernel
theorem dX6_init_192 : decode cX6_init 192 = .ok (.bipush 80, 2) := by decide +kernel
theorem dX6_init_194 : decode cX6_init 194 = .ok (.newarray .int, 2) := by decide +kernel
theorem dX6_init_196 : decode cX6_init 196 = .ok (.putfield 47, 3) := by decide +kernel
theorem dX6_init_199 : decode cX6_init 199 = .ok (.aload_n 0, 1) := by decide +kernel
theorem dX6_init_200 : decode cX6_init 200 = .ok (.bipush 80, 2) := by decide +kernel
theorem dX6_init_202 : decode cX6_init 202 = .ok (.newarray .int, 2) := by decide +kernel
theorem dX6_init_204 : decode cX6_init 204 = .ok (.putfield 50, 3) := by decide +kernel
theorem dX6_init_207 : decode cX6_init 207 = .ok (.aload_n 0, 1) := by decide +kernel
theorem dX6_init_208 : decode cX6_init 208 = .ok (.bipush 80, 2) := by decide +kernel
theorem dX6_init_210 : decode cX6_init 210 = .ok (.newarray .boolean, 2) := by decide +kernel
theorem dX6_init_212 : decode cX6_init 212 = .ok (.putfield 53, 3) := by decide +kernel
theorem dX6_init_215 : decode cX6_init 215 = .ok (.aload_n 0, 1) := by decide +kernel
theorem dX6_init_216 : decode cX6_init 216 = .ok (.bipush 8, 2) := by decide +kernel
theorem dX6_init_218 : decode cX6_init 218 = .ok (.newarray .int, 2) := by decide +kernel
theorem dX6_init_220 : decode cX6_init 220 = .ok (.putfield 57, 3) := by decide +kernel
theorem dX6_init_223 : decode cX6_init 223 = .ok (.aload_n 0, 1) := by decide +kernel
theorem dX6_init_224 : decode cX6_init 224 = .ok (.bipush 8, 2) := by decide +kernel
theorem dX6_init_226 : decode cX6_init 226 = .ok (.newarray .int, 2) := by decide +kernel
theorem dX6_init_228 : decode cX6_init 228 = .ok (.putfield 60, 3) := by decide +kernel
theorem dX6_init_231 : decode cX6_init 231 = .ok (.aload_n 0, 1) := by decide +kernel
theorem dX6_init_232 : decode cX6_init 232 = .ok (.bipush 8, 2) := by decide +kernel
theorem dX6_init_234 : decode cX6_init 234 = .ok (.newarray .int, 2) := by decide +kernel
theorem dX6_init_236 : decode cX6_init 236 = .ok (.putfield 63, 3) := by decide +kernel
theorem dX6_init_239 : decode cX6_init 239 = .ok (.aload_n 0, 1) := by decide +kernel
theorem dX6_init_240 : decode cX6_init 240 = .ok (.bipush 16, 2) := by decide +kernel
theorem dX6_init_242 : decode cX6_init 242 = .ok (.newarray .int, 2) := by decide +kernel
theorem dX6_init_244 : decode cX6_init 244 = .ok (.putfield 66, 3) := by decide +kernel
theorem dX6_init_247 : decode cX6_init 247 = .ok (.aload_n 0, 1) := by decide +kernel
theorem dX6_init_248 : decode cX6_init 248 = .ok (.bipush 16, 2) := by decide +kernel
theorem dX6_init_250 : decode cX6_init 250 = .ok (.newarray .int, 2) := by decide +kernel
theorem dX6_init_252 : decode cX6_init 252 = .ok (.putfield 69, 3) := by decide +kernel
theorem dX6_init_255 : decode cX6_init 255 = .ok (.aload_n 0, 1) := by decide +kernel
theorem dX6_init_256 : decode cX6_init 256 = .ok (.bipush 16, 2) := by decide +kernel
theorem dX6_init_258 : decode cX6_init 258 = .ok (.newarray .int, 2) := by decide +kernel
theorem dX6_init_260 : decode cX6_init 260 = .ok (.putfield 72, 3) := by decide +kernel
theorem dX6_init_263 : decode cX6_init 263 = .ok (.aload_n 0, 1) := by decide +kernel
theorem dX6_init_264 : decode cX6_init 264 = .ok (.bipush 16, 2) := by decide +kernel
theorem dX6_init_266 : decode cX6_init 266 = .ok (.newarray .boolean, 2) := by decide +kernel
theorem dX6_init_268 : decode cX6_init 268 = .ok (.putfield 75, 3) := by decide +kernel
theorem dX6_init_271 : decode cX6_init 271 = .ok (.aload_n 0, 1) := by decide +kernel
theorem dX6_init_272 : decode cX6_init 272 = .ok (.sipush 4352, 3) := by decide +kernel
theorem dX6_init_275 : decode cX6_init 275 = .ok (.newarray .int, 2) := by decide +kernel
theorem dX6_init_277 : decode cX6_init 277 = .ok (.putfield 78, 3) := by decide +kernel
theorem dX6_init_280 : decode cX6_init 280 = .ok (.aload_n 0, 1) := by decide +kernel
theorem dX6_init_281 : decode cX6_init 281 = .ok (.bipush 8, 2) := by decide +kernel
theorem dX6_init_283 : decode cX6_init 283 = .ok (.newarray .int, 2) := by decide +kernel
theorem dX6_init_285 : decode cX6_init 285 = .ok (.putfield 81, 3) := by decide +kernel
theorem dX6_init_288 : decode cX6_init 288 = .ok (.aload_n 0, 1) := by decide +kernel
theorem dX6_init_289 : decode cX6_init 289 = .ok (.bipush 8, 2) := by decide +kernel
theorem dX6_init_291 : decode cX6_init 291 = .ok (.newarray .int, 2) := by decide +kernel
theorem dX6_init_293 : decode cX6_init 293 = .ok (.putfield 84, 3) := by decide +kernel
theorem dX6_init_296 : decode cX6_init 296 = .ok (.aload_n 0, 1) := by decide +kernel
theorem dX6_init_297 : decode cX6_init 297 = .ok (.bipush 80, 2) := by decide +kernel
theorem dX6_init_299 : decode cX6_init 299 = .ok (.newarray .int, 2) := by decide +kernel
theorem dX6_init_301 : decode cX6_init 301 = .ok (.putfield 87, 3) := by decide +kernel
theorem dX6_init_304 : decode cX6_init 304 = .ok (.aload_n 0, 1) := by decide +kernel
theorem dX6_init_305 : decode cX6_init 305 = .ok (.bipush 16, 2) := by decide +kernel
theorem dX6_init_307 : decode cX6_init 307 = .ok (.newarray .int, 2) := by decide +kernel
theorem dX6_init_309 : decode cX6_init 309 = .ok (.putfield 90, 3) := by decide +kernel
theorem dX6_init_312 : decode cX6_init 312 = .ok (.aload_n 0, 1) := by decide +kernel
theorem dX6_init_313 : decode cX6_init 313 = .ok (.bipush 16, 2) := by decide +kernel
theorem dX6_init_315 : decode cX6_init 315 = .ok (.newarray .int, 2) := by decide +kernel
theorem dX6_init_317 : decode cX6_init 317 = .ok (.putfield 93, 3) := by decide +kernel
theorem dX6_init_320 : decode cX6_init 320 = .ok (.aload_n 0, 1) := by decide +kernel
theorem dX6_init_321 : decode cX6_init 321 = .ok (.bipush 16, 2) := by decide +kernel
theorem dX6_init_323 : decode cX6_init 323 = .ok (.newarray .int, 2) := by decide +kernel
theorem dX6_init_325 : decode cX6_init 325 = .ok (.putfield 96, 3) := by decide +kernel
theorem dX6_init_328 : decode cX6_init 328 = .ok (.return_, 1) := by decide +kernel
theorem dX6_box_0 : decode cX6_box 0 = .ok (.aload_n 0, 1) := by decide +kernel
theorem dX6_box_1 : decode cX6_box 1 = .ok (.iload_n 1, 1) := by decide +kernel
theorem dX6_box_2 : decode cX6_box 2 = .ok (.invokevirtual 113, 3) := by decide +kernel
theorem dX6_box_5 : decode cX6_box 5 = .ok (.ifCond .eq 45, 3) := by decide +kernel
theorem dX6_box_8 : decode cX6_box 8 = .ok (.iload_n 2, 1) := by decide +kernel
theorem dX6_box_9 : decode cX6_box 9 = .ok (.iconst 0, 1) := by decide +kernel
theorem dX6_box_10 : decode cX6_box 10 = .ok (.bipush 63, 2) := by decide +kernel
theorem dX6_box_12 : decode cX6_box 12 = .ok (.invokestatic 102, 3) := by decide +kernel
theorem dX6_box_15 : decode cX6_box 15 = .ok (.ifCond .eq 35, 3) := by decide +kernel
theorem dX6_box_18 : decode cX6_box 18 = .ok (.iload_n 3, 1) := by decide +kernel
theorem dX6_box_19 : decode cX6_box 19 = .ok (.iconst 0, 1) := by decide +kernel
theorem dX6_box_20 : decode cX6_box 20 = .ok (.bipush 63, 2) := by decide +kernel
theorem dX6_box_22 : decode cX6_box 22 = .ok (.invokestatic 102, 3) := by decide +kernel
theorem dX6_box_25 : decode cX6_box 25 = .ok (.ifCond .eq 25, 3) := by decide +kernel
theorem dX6_box_28 : decode cX6_box 28 = .ok (.iload 4, 2) := by decide +kernel
theorem dX6_box_30 : decode cX6_box 30 = .ok (.iconst 1, 1) := by decide +kernel
theorem dX6_box_31 : decode cX6_box 31 = .ok (.bipush 99, 2) := by decide +kernel
theorem dX6_box_33 : decode cX6_box 33 = .ok (.invokestatic 102, 3) := by decide +kernel
theorem dX6_box_36 : decode cX6_box 36 = .ok (.ifCond .eq 14, 3) := by decide +kernel
theorem dX6_box_39 : decode cX6_box 39 = .ok (.aload_n 0, 1) := by decide +kernel
theorem dX6_box_40 : decode cX6_box 40 = .ok (.getfield 7, 3) := by decide +kernel
theorem dX6_box_43 : decode cX6_box 43 = .ok (.iload_n 1, 1) := by decide +kernel
theorem dX6_box_44 : decode cX6_box 44 = .ok (.iaload, 1) := by decide +kernel
theorem dX6_box_45 : decode cX6_box 45 = .ok (.bipush 8, 2) := by decide +kernel
theorem dX6_box_47 : decode cX6_box 47 = .ok (.if_icmp .ne 5, 3) := by decide +kernel
theorem dX6_box_50 : decode cX6_box 50 = .ok (.iconst (-1), 1) := by decide +kernel
theorem dX6_box_51 : decode cX6_box 51 = .ok (.ireturn, 1) := by decide +kernel
theorem dX6_box_52 : decode cX6_box 52 = .ok (.iconst 0, 1) := by decide +kernel
theorem dX6_box_53 : decode cX6_box 53 = .ok (.istore 5, 2) := by decide +kernel
theorem dX6_box_55 : decode cX6_box 55 = .ok (.iload 5, 2) := by decide +kernel
theorem dX6_box_57 : decode cX6_box 57 = .ok (.aload_n 0, 1) := by decide +kernel
theorem dX6_box_58 : decode cX6_box 58 = .ok (.getfield 7, 3) := by decide +kernel
theorem dX6_box_61 : decode cX6_box 61 = .ok (.iload_n 1, 1) := by decide +kernel
theorem dX6_box_62 : decode cX6_box 62 = .ok (.iaload, 1) := by decide +kernel
theorem dX6_box_63 : decode cX6_box 63 = .ok (.if_icmp .ge 28, 3) := by decide +kernel
theorem dX6_box_66 : decode cX6_box 66 = .ok (.aload_n 0, 1) := by decide +kernel
theorem dX6_box_67 : decode cX6_box 67 = .ok (.getfield 19, 3) := by decide +kernel
theorem dX6_box_70 : decode cX6_box 70 = .ok (.bipush 8, 2) := by decide +kernel
theorem dX6_box_72 : decode cX6_box 72 = .ok (.iload_n 1, 1) := by decide +kernel
theorem dX6_box_73 : decode cX6_box 73 = .ok (.imul, 1) := by decide +kernel
theorem dX6_box_74 : decode cX6_box 74 = .ok (.iload 5, 2) := by decide +kernel
theorem dX6_box_76 : decode cX6_box 76 = .ok (.iadd, 1) := by decide +kernel
theorem dX6_box_77 : decode cX6_box 77 = .ok (.iaload, 1) := by decide +kernel
theorem dX6_box_78 : decode cX6_box 78 = .ok (.iload 4, 2) := by decide +kernel
theorem dX6_box_80 : decode cX6_box 80 = .ok (.if_icmp .ne 5, 3) := by decide +kernel
theorem dX6_box_83 : decode cX6_box 83 = .ok (.iconst (-1), 1) := by decide +kernel
theorem dX6_box_84 : decode cX6_box 84 = .ok (.ireturn, 1) := by decide +kernel
theorem dX6_box_85 : decode cX6_box 85 = .ok (.iinc 5 1, 3) := by decide +kernel
theorem dX6_box_88 : decode cX6_box 88 = .ok (.goto (-33), 3) := by decide +kernel
theorem dX6_box_91 : decode cX6_box 91 = .ok (.bipush 8, 2) := by decide +kernel
theorem dX6_box_93 : decode cX6_box 93 = .ok (.iload_n 1, 1) := by decide +kernel
theorem dX6_box_94 : decode cX6_box 94 = .ok (.imul, 1) := by decide +kernel
theorem dX6_box_95 : decode cX6_box 95 = .ok (.aload_n 0, 1) := by decide +kernel
theorem dX6_box_96 : decode cX6_box 96 = .ok (.getfield 7, 3) := by decide +kernel
theorem dX6_box_99 : decode cX6_box 99 = .ok (.iload_n 1, 1) := by decide +kernel
theorem dX6_box_100 : decode cX6_box 100 = .ok (.iaload, 1) := by decide +kernel
theorem dX6_box_101 : decode cX6_box 101 = .ok (.iadd, 1) := by decide +kernel
theorem dX6_box_102 : decode cX6_box 102 = .ok (.istore 5, 2) := by decide +kernel
theorem dX6_box_104 : decode cX6_box 104 = .ok (.aload_n 0, 1) := by decide +kernel
theorem dX6_box_105 : decode cX6_box 105 = .ok (.getfield 13, 3) := by decide +kernel
theorem dX6_box_108 : decode cX6_box 108 = .ok (.iload 5, 2) := by decide +kernel
theorem dX6_box_110 : decode cX6_box 110 = .ok (.iload_n 2, 1) := by decide +kernel
theorem dX6_box_111 : decode cX6_box 111 = .ok (.iastore, 1) := by decide +kernel
theorem dX6_box_112 : decode cX6_box 112 = .ok (.aload_n 0, 1) := by decide +kernel
theorem dX6_box_113 : decode cX6_box 113 = .ok (.getfield 16, 3) := by decide +kernel
theorem dX6_box_116 : decode cX6_box 116 = .ok (.iload 5, 2) := by decide +kernel
theorem dX6_box_118 : decode cX6_box 118 = .ok (.iload_n 3, 1) := by decide +kernel
theorem dX6_box_119 : decode cX6_box 119 = .ok (.iastore, 1) := by decide +kernel
theorem dX6_box_120 : decode cX6_box 120 = .ok (.aload_n 0, 1) := by decide +kernel
theorem dX6_box_121 : decode cX6_box 121 = .ok (.getfield 19, 3) := by decide +kernel
theorem dX6_box_124 : decode cX6_box 124 = .ok (.iload 5, 2) := by decide +kernel
theorem dX6_box_126 : decode cX6_box 126 = .ok (.iload 4, 2) := by decide +kernel
theorem dX6_box_128 : decode cX6_box 128 = .ok (.iastore, 1) := by decide +kernel
theorem dX6_box_129 : decode cX6_box 129 = .ok (.aload_n 0, 1) := by decide +kernel
theorem dX6_box_130 : decode cX6_box 130 = .ok (.getfield 7, 3) := by decide +kernel
theorem dX6_box_133 : decode cX6_box 133 = .ok (.iload_n 1, 1) := by decide +kernel
theorem dX6_box_134 : decode cX6_box 134 = .ok (.dup2, 1) := by decide +kernel
theorem dX6_box_135 : decode cX6_box 135 = .ok (.iaload, 1) := by decide +kernel
theorem dX6_box_136 : decode cX6_box 136 = .ok (.iconst 1, 1) := by decide +kernel
theorem dX6_box_137 : decode cX6_box 137 = .ok (.iadd, 1) := by decide +kernel
theorem dX6_box_138 : decode cX6_box 138 = .ok (.iastore, 1) := by decide +kernel
theorem dX6_box_139 : decode cX6_box 139 = .ok (.aload_n 0, 1) := by decide +kernel
theorem dX6_box_140 : decode cX6_box 140 = .ok (.invokevirtual 110, 3) := by decide +kernel
theorem dX6_box_143 : decode cX6_box 143 = .ok (.aload_n 0, 1) := by decide +kernel
theorem dX6_box_144 : decode cX6_box 144 = .ok (.getfield 7, 3) := by decide +kernel
theorem dX6_box_147 : decode cX6_box 147 = .ok (.iload_n 1, 1) := by decide +kernel
theorem dX6_box_148 : decode cX6_box 148 = .ok (.iaload, 1) := by decide +kernel
theorem dX6_box_149 : decode cX6_box 149 = .ok (.iconst 1, 1) := by decide +kernel
theorem dX6_box_150 : decode cX6_box 150 = .ok (.isub, 1) := by decide +kernel
theorem dX6_box_151 : decode cX6_box 151 = .ok (.ireturn, 1) := by decide +kernel
theorem dX6_weights_0 : decode cX6_weights 0 = .ok (.iload_n 1, 1) := by decide +kernel
theorem dX6_weights_1 : decode cX6_weights 1 = .ok (.iconst 0, 1) := by decide +kernel
theorem dX6_weights_2 : decode cX6_weights 2 = .ok (.bipush 9, 2) := by decide +kernel
theorem dX6_weights_4 : decode cX6_weights 4 = .ok (.invokestatic 102, 3) := by decide +kernel
theorem dX6_weights_7 : decode cX6_weights 7 = .ok (.ifCond .eq 45, 3) := by decide +kernel
theorem dX6_weights_10 : decode cX6_weights 10 = .ok (.iload_n 2, 1) := by decide +kernel
theorem dX6_weights_11 : decode cX6_weights 11 = .ok (.iconst 0, 1) := by decide +kernel
theorem dX6_weights_12 : decode cX6_weights 12 = .ok (.bipush 9, 2) := by decide +kernel
theorem dX6_weights_14 : decode cX6_weights 14 = .ok (.invokestatic 102, 3) := by decide +kernel
theorem dX6_weights_17 : decode cX6_weights 17 = .ok (.ifCond .eq 35, 3) := by decide +kernel
theorem dX6_weights_20 : decode cX6_weights 20 = .ok (.iload_n 3, 1) := by decide +kernel
theorem dX6_weights_21 : decode cX6_weights 21 = .ok (.iconst 0, 1) := by decide +kernel
theorem dX6_weights_22 : decode cX6_weights 22 = .ok (.bipush 99, 2) := by decide +kernel
theorem dX6_weights_24 : decode cX6_weights 24 = .ok (.invokestatic 102, 3) := by decide +kernel
theorem dX6_weights_27 : decode cX6_weights 27 = .ok (.ifCond .eq 25, 3) := by decide +kernel
theorem dX6_weights_30 : decode cX6_weights 30 = .ok (.iload 4, 2) := by decide +kernel
theorem dX6_weights_32 : decode cX6_weights 32 = .ok (.iconst 0, 1) := by decide +kernel
theorem dX6_weights_33 : decode cX6_weights 33 = .ok (.bipush 99, 2) := by decide +kernel
theorem dX6_weights_35 : decode cX6_weights 35 = .ok (.invokestatic 102, 3) := by decide +kernel
theorem dX6_weights_38 : decode cX6_weights 38 = .ok (.ifCond .eq 14, 3) := by decide +kernel
theorem dX6_weights_41 : decode cX6_weights 41 = .ok (.iload 5, 2) := by decide +kernel
theorem dX6_weights_43 : decode cX6_weights 43 = .ok (.iconst 0, 1) := by decide +kernel
theorem dX6_weights_44 : decode cX6_weights 44 = .ok (.bipush 99, 2) := by decide +kernel
theorem dX6_weights_46 : decode cX6_weights 46 = .ok (.invokestatic 102, 3) := by decide +kernel
theorem dX6_weights_49 : decode cX6_weights 49 = .ok (.ifCond .ne 5, 3) := by decide +kernel
theorem dX6_weights_52 : decode cX6_weights 52 = .ok (.iconst 0, 1) := by decide +kernel
theorem dX6_weights_53 : decode cX6_weights 53 = .ok (.ireturn, 1) := by decide +kernel
theorem dX6_weights_54 : decode cX6_weights 54 = .ok (.aload_n 0, 1) := by decide +kernel
theorem dX6_weights_55 : decode cX6_weights 55 = .ok (.getfield 25, 3) := by decide +kernel
theorem dX6_weights_58 : decode cX6_weights 58 = .ok (.iconst 0, 1) := by decide +kernel
theorem dX6_weights_59 : decode cX6_weights 59 = .ok (.iload_n 1, 1) := by decide +kernel
theorem dX6_weights_60 : decode cX6_weights 60 = .ok (.iastore, 1) := by decide +kernel
theorem dX6_weights_61 : decode cX6_weights 61 = .ok (.aload_n 0, 1) := by decide +kernel
theorem dX6_weights_62 : decode cX6_weights 62 = .ok (.getfield 25, 3) := by decide +kernel
theorem dX6_weights_65 : decode cX6_weights 65 = .ok (.iconst 1, 1) := by decide +kernel
theorem dX6_weights_66 : decode cX6_weights 66 = .ok (.iload_n 2, 1) := by decide +kernel
theorem dX6_weights_67 : decode cX6_weights 67 = .ok (.iastore, 1) := by decide +kernel
theorem dX6_weights_68 : decode cX6_weights 68 = .ok (.aload_n 0, 1) := by decide +kernel
theorem dX6_weights_69 : decode cX6_weights 69 = .ok (.getfield 25, 3) := by decide +kernel
theorem dX6_weights_72 : decode cX6_weights 72 = .ok (.iconst 2, 1) := by decide +kernel
theorem dX6_weights_73 : decode cX6_weights 73 = .ok (.iload_n 3, 1) := by decide +kernel
theorem dX6_weights_74 : decode cX6_weights 74 = .ok (.iastore, 1) := by decide +kernel
theorem dX6_weights_75 : decode cX6_weights 75 = .ok (.aload_n 0, 1) := by decide +kernel
theorem dX6_weights_76 : decode cX6_weights 76 = .ok (.getfield 25, 3) := by decide +kernel
theorem dX6_weights_79 : decode cX6_weights 79 = .ok (.iconst 3, 1) := by decide +kernel
theorem dX6_weights_80 : decode cX6_weights 80 = .ok (.iload 4, 2) := by decide +kernel
theorem dX6_weights_82 : decode cX6_weights 82 = .ok (.iastore, 1) := by decide +kernel
theorem dX6_weights_83 : decode cX6_weights 83 = .ok (.aload_n 0, 1) := by decide +kernel
theorem dX6_weights_84 : decode cX6_weights 84 = .ok (.getfield 25, 3) := by decide +kernel
theorem dX6_weights_87 : decode cX6_weights 87 = .ok (.iconst 4, 1) := by decide +kernel
theorem dX6_weights_88 : decode cX6_weights 88 = .ok (.iload 5, 2) := by decide +kernel
theorem dX6_weights_90 : decode cX6_weights 90 = .ok (.iastore, 1) := by decide +kernel
theorem dX6_weights_91 : decode cX6_weights 91 = .ok (.aload_n 0, 1) := by decide +kernel
theorem dX6_weights_92 : decode cX6_weights 92 = .ok (.invokevirtual 110, 3) := by decide +kernel
theorem dX6_weights_95 : decode cX6_weights 95 = .ok (.iconst 1, 1) := by decide +kernel
theorem dX6_weights_96 : decode cX6_weights 96 = .ok (.ireturn, 1) := by decide +kernel
theorem dX6_makesSpot_0 : decode cX6_makesSpot 0 = .ok (.iconst 0, 1) := by decide +kernel
theorem dX6_makesSpot_1 : decode cX6_makesSpot 1 = .ok (.istore_n 3, 1) := by decide +kernel
theorem dX6_makesSpot_2 : decode cX6_makesSpot 2 = .ok (.iconst 0, 1) := by decide +kernel
theorem dX6_makesSpot_3 : decode cX6_makesSpot 3 = .ok (.istore 4, 2) := by decide +kernel
theorem dX6_makesSpot_5 : decode cX6_makesSpot 5 = .ok (.iload 4, 2) := by decide +kernel
theorem dX6_makesSpot_7 : decode cX6_makesSpot 7 = .ok (.aload_n 0, 1) := by decide +kernel
theorem dX6_makesSpot_8 : decode cX6_makesSpot 8 = .ok (.getfield 99, 3) := by decide +kernel
theorem dX6_makesSpot_11 : decode cX6_makesSpot 11 = .ok (.if_icmp .ge 38, 3) := by decide +kernel
theorem dX6_makesSpot_14 : decode cX6_makesSpot 14 = .ok (.iload_n 3, 1) := by decide +kernel
theorem dX6_makesSpot_15 : decode cX6_makesSpot 15 = .ok (.aload_n 0, 1) := by decide +kernel
theorem dX6_makesSpot_16 : decode cX6_makesSpot 16 = .ok (.getfield 22, 3) := by decide +kernel
theorem dX6_makesSpot_19 : decode cX6_makesSpot 19 = .ok (.iload 4, 2) := by decide +kernel
theorem dX6_makesSpot_21 : decode cX6_makesSpot 21 = .ok (.iaload, 1) := by decide +kernel
theorem dX6_makesSpot_22 : decode cX6_makesSpot 22 = .ok (.iload_n 1, 1) := by decide +kernel
theorem dX6_makesSpot_23 : decode cX6_makesSpot 23 = .ok (.if_icmp .ne 17, 3) := by decide +kernel
theorem dX6_makesSpot_26 : decode cX6_makesSpot 26 = .ok (.aload_n 0, 1) := by decide +kernel
theorem dX6_makesSpot_27 : decode cX6_makesSpot 27 = .ok (.iload 4, 2) := by decide +kernel
theorem dX6_makesSpot_29 : decode cX6_makesSpot 29 = .ok (.iload_n 2, 1) := by decide +kernel
theorem dX6_makesSpot_30 : decode cX6_makesSpot 30 = .ok (.invokevirtual 121, 3) := by decide +kernel
theorem dX6_makesSpot_33 : decode cX6_makesSpot 33 = .ok (.ifCond .lt 7, 3) := by decide +kernel
theorem dX6_makesSpot_36 : decode cX6_makesSpot 36 = .ok (.iconst 1, 1) := by decide +kernel
theorem dX6_makesSpot_37 : decode cX6_makesSpot 37 = .ok (.goto 4, 3) := by decide +kernel
theorem dX6_makesSpot_40 : decode cX6_makesSpot 40 = .ok (.iconst 0, 1) := by decide +kernel
theorem dX6_makesSpot_41 : decode cX6_makesSpot 41 = .ok (.iadd, 1) := by decide +kernel
theorem dX6_makesSpot_42 : decode cX6_makesSpot 42 = .ok (.istore_n 3, 1) := by decide +kernel
theorem dX6_makesSpot_43 : decode cX6_makesSpot 43 = .ok (.iinc 4 1, 3) := by decide +kernel
theorem dX6_makesSpot_46 : decode cX6_makesSpot 46 = .ok (.goto (-41), 3) := by decide +kernel
theorem dX6_makesSpot_49 : decode cX6_makesSpot 49 = .ok (.iconst 2, 1) := by decide +kernel
theorem dX6_makesSpot_50 : decode cX6_makesSpot 50 = .ok (.iload_n 3, 1) := by decide +kernel
theorem dX6_makesSpot_51 : decode cX6_makesSpot 51 = .ok (.imul, 1) := by decide +kernel
theorem dX6_makesSpot_52 : decode cX6_makesSpot 52 = .ok (.aload_n 0, 1) := by decide +kernel
theorem dX6_makesSpot_53 : decode cX6_makesSpot 53 = .ok (.getfield 38, 3) := by decide +kernel
theorem dX6_makesSpot_56 : decode cX6_makesSpot 56 = .ok (.iload_n 1, 1) := by decide +kernel
theorem dX6_makesSpot_57 : decode cX6_makesSpot 57 = .ok (.iaload, 1) := by decide +kernel
theorem dX6_makesSpot_58 : decode cX6_makesSpot 58 = .ok (.if_icmp .ge 4, 3) := by decide +kernel
theorem dX6_makesSpot_61 : decode cX6_makesSpot 61 = .ok (.return_, 1) := by decide +kernel
theorem dX6_makesSpot_62 : decode cX6_makesSpot 62 = .ok (.bipush 16, 2) := by decide +kernel
theorem dX6_makesSpot_64 : decode cX6_makesSpot 64 = .ok (.iload_n 1, 1) := by decide +kernel
theorem dX6_makesSpot_65 : decode cX6_makesSpot 65 = .ok (.imul, 1) := by decide +kernel
theorem dX6_makesSpot_66 : decode cX6_makesSpot 66 = .ok (.aload_n 0, 1) := by decide +kernel
theorem dX6_makesSpot_67 : decode cX6_makesSpot 67 = .ok (.getfield 41, 3) := by decide +kernel
theorem dX6_makesSpot_70 : decode cX6_makesSpot 70 = .ok (.iload_n 1, 1) := by decide +kernel
theorem dX6_makesSpot_71 : decode cX6_makesSpot 71 = .ok (.iaload, 1) := by decide +kernel
theorem dX6_makesSpot_72 : decode cX6_makesSpot 72 = .ok (.iadd, 1) := by decide +kernel
theorem dX6_makesSpot_73 : decode cX6_makesSpot 73 = .ok (.istore 4, 2) := by decide +kernel
theorem dX6_makesSpot_75 : decode cX6_makesSpot 75 = .ok (.iconst 0, 1) := by decide +kernel
theorem dX6_makesSpot_76 : decode cX6_makesSpot 76 = .ok (.istore 5, 2) := by decide +kernel
theorem dX6_makesSpot_78 : decode cX6_makesSpot 78 = .ok (.iload 5, 2) := by decide +kernel
theorem dX6_makesSpot_80 : decode cX6_makesSpot 80 = .ok (.iconst 2, 1) := by decide +kernel
theorem dX6_makesSpot_81 : decode cX6_makesSpot 81 = .ok (.if_icmp .ge 120, 3) := by decide +kernel
theorem dX6_makesSpot_84 : decode cX6_makesSpot 84 = .ok (.iconst 0, 1) := by decide +kernel
theorem dX6_makesSpot_85 : decode cX6_makesSpot 85 = .ok (.istore 6, 2) := by decide +kernel
theorem dX6_makesSpot_87 : decode cX6_makesSpot 87 = .ok (.iconst 0, 1) := by decide +kernel
theorem dX6_makesSpot_88 : decode cX6_makesSpot 88 = .ok (.istore 7, 2) := by decide +kernel
theorem dX6_makesSpot_90 : decode cX6_makesSpot 90 = .ok (.iload 7, 2) := by decide +kernel
theorem dX6_makesSpot_92 : decode cX6_makesSpot 92 = .ok (.aload_n 0, 1) := by decide +kernel
theorem dX6_makesSpot_93 : decode cX6_makesSpot 93 = .ok (.getfield 99, 3) := by decide +kernel
theorem dX6_makesSpot_96 : decode cX6_makesSpot 96 = .ok (.if_icmp .ge 66, 3) := by decide +kernel
theorem dX6_makesSpot_99 : decode cX6_makesSpot 99 = .ok (.aload_n 0, 1) := by decide +kernel
theorem dX6_makesSpot_100 : decode cX6_makesSpot 100 = .ok (.iload 7, 2) := by decide +kernel
theorem dX6_makesSpot_102 : decode cX6_makesSpot 102 = .ok (.iload_n 2, 1) := by decide +kernel
theorem dX6_makesSpot_103 : decode cX6_makesSpot 103 = .ok (.invokevirtual 121, 3) := by decide +kernel
theorem dX6_makesSpot_106 : decode cX6_makesSpot 106 = .ok (.istore 8, 2) := by decide +kernel
theorem dX6_makesSpot_108 : decode cX6_makesSpot 108 = .ok (.aload_n 0, 1) := by decide +kernel
theorem dX6_makesSpot_109 : decode cX6_makesSpot 109 = .ok (.getfield 22, 3) := by decide +kernel
theorem dX6_makesSpot_112 : decode cX6_makesSpot 112 = .ok (.iload 7, 2) := by decide +kernel
theorem dX6_makesSpot_114 : decode cX6_makesSpot 114 = .ok (.iaload, 1) := by decide +kernel
theorem dX6_makesSpot_115 : decode cX6_makesSpot 115 = .ok (.iload_n 1, 1) := by decide +kernel
theorem dX6_makesSpot_116 : decode cX6_makesSpot 116 = .ok (.if_icmp .ne 40, 3) := by decide +kernel
theorem dX6_makesSpot_119 : decode cX6_makesSpot 119 = .ok (.iload 8, 2) := by decide +kernel
theorem dX6_makesSpot_121 : decode cX6_makesSpot 121 = .ok (.ifCond .lt 35, 3) := by decide +kernel
theorem dX6_makesSpot_124 : decode cX6_makesSpot 124 = .ok (.aload_n 0, 1) := by decide +kernel
theorem dX6_makesSpot_125 : decode cX6_makesSpot 125 = .ok (.getfield 90, 3) := by decide +kernel
theorem dX6_makesSpot_128 : decode cX6_makesSpot 128 = .ok (.iload 6, 2) := by decide +kernel
theorem dX6_makesSpot_130 : decode cX6_makesSpot 130 = .ok (.iload 5, 2) := by decide +kernel
theorem dX6_makesSpot_132 : decode cX6_makesSpot 132 = .ok (.ifCond .ne 13, 3) := by decide +kernel
theorem dX6_makesSpot_135 : decode cX6_makesSpot 135 = .ok (.aload_n 0, 1) := by decide +kernel
theorem dX6_makesSpot_136 : decode cX6_makesSpot 136 = .ok (.getfield 13, 3) := by decide +kernel
theorem dX6_makesSpot_139 : decode cX6_makesSpot 139 = .ok (.iload 8, 2) := by decide +kernel
theorem dX6_makesSpot_141 : decode cX6_makesSpot 141 = .ok (.iaload, 1) := by decide +kernel
theorem dX6_makesSpot_142 : decode cX6_makesSpot 142 = .ok (.goto 10, 3) := by decide +kernel
theorem dX6_makesSpot_145 : decode cX6_makesSpot 145 = .ok (.aload_n 0, 1) := by decide +kernel
theorem dX6_makesSpot_146 : decode cX6_makesSpot 146 = .ok (.getfield 16, 3) := by decide +kernel
theorem dX6_makesSpot_149 : decode cX6_makesSpot 149 = .ok (.iload 8, 2) := by decide +kernel
theorem dX6_makesSpot_151 : decode cX6_makesSpot 151 = .ok (.iaload, 1) := by decide +kernel
theorem dX6_makesSpot_152 : decode cX6_makesSpot 152 = .ok (.iastore, 1) := by decide +kernel
theorem dX6_makesSpot_153 : decode cX6_makesSpot 153 = .ok (.iinc 6 1, 3) := by decide +kernel
theorem dX6_makesSpot_156 : decode cX6_makesSpot 156 = .ok (.iinc 7 1, 3) := by decide +kernel
theorem dX6_makesSpot_159 : decode cX6_makesSpot 159 = .ok (.goto (-69), 3) := by decide +kernel
theorem dX6_makesSpot_162 : decode cX6_makesSpot 162 = .ok (.aload_n 0, 1) := by decide +kernel
theorem dX6_makesSpot_163 : decode cX6_makesSpot 163 = .ok (.iload_n 3, 1) := by decide +kernel
theorem dX6_makesSpot_164 : decode cX6_makesSpot 164 = .ok (.invokevirtual 125, 3) := by decide +kernel
theorem dX6_makesSpot_167 : decode cX6_makesSpot 167 = .ok (.istore 7, 2) := by decide +kernel
theorem dX6_makesSpot_169 : decode cX6_makesSpot 169 = .ok (.iload 5, 2) := by decide +kernel
theorem dX6_makesSpot_171 : decode cX6_makesSpot 171 = .ok (.ifCond .ne 15, 3) := by decide +kernel
theorem dX6_makesSpot_174 : decode cX6_makesSpot 174 = .ok (.aload_n 0, 1) := by decide +kernel
theorem dX6_makesSpot_175 : decode cX6_makesSpot 175 = .ok (.getfield 47, 3) := by decide +kernel
theorem dX6_makesSpot_178 : decode cX6_makesSpot 178 = .ok (.iload 4, 2) := by decide +kernel
theorem dX6_makesSpot_180 : decode cX6_makesSpot 180 = .ok (.iload 7, 2) := by decide +kernel
theorem dX6_makesSpot_182 : decode cX6_makesSpot 182 = .ok (.iastore, 1) := by decide +kernel
theorem dX6_makesSpot_183 : decode cX6_makesSpot 183 = .ok (.goto 12, 3) := by decide +kernel
theorem dX6_makesSpot_186 : decode cX6_makesSpot 186 = .ok (.aload_n 0, 1) := by decide +kernel
theorem dX6_makesSpot_187 : decode cX6_makesSpot 187 = .ok (.getfield 50, 3) := by decide +kernel
theorem dX6_makesSpot_190 : decode cX6_makesSpot 190 = .ok (.iload 4, 2) := by decide +kernel
theorem dX6_makesSpot_192 : decode cX6_makesSpot 192 = .ok (.iload 7, 2) := by decide +kernel
theorem dX6_makesSpot_194 : decode cX6_makesSpot 194 = .ok (.iastore, 1) := by decide +kernel
theorem dX6_makesSpot_195 : decode cX6_makesSpot 195 = .ok (.iinc 5 1, 3) := by decide +kernel
theorem dX6_makesSpot_198 : decode cX6_makesSpot 198 = .ok (.goto (-120), 3) := by decide +kernel
theorem dX6_makesSpot_201 : decode cX6_makesSpot 201 = .ok (.aload_n 0, 1) := by decide +kernel
theorem dX6_makesSpot_202 : decode cX6_makesSpot 202 = .ok (.getfield 44, 3) := by decide +kernel
theorem dX6_makesSpot_205 : decode cX6_makesSpot 205 = .ok (.iload 4, 2) := by decide +kernel
theorem dX6_makesSpot_207 : decode cX6_makesSpot 207 = .ok (.iload_n 2, 1) := by decide +kernel
theorem dX6_makesSpot_208 : decode cX6_makesSpot 208 = .ok (.iastore, 1) := by decide +kernel
theorem dX6_makesSpot_209 : decode cX6_makesSpot 209 = .ok (.aload_n 0, 1) := by decide +kernel
theorem dX6_makesSpot_210 : decode cX6_makesSpot 210 = .ok (.getfield 53, 3) := by decide +kernel
theorem dX6_makesSpot_213 : decode cX6_makesSpot 213 = .ok (.iload 4, 2) := by decide +kernel
theorem dX6_makesSpot_215 : decode cX6_makesSpot 215 = .ok (.iload_n 3, 1) := by decide +kernel
theorem dX6_makesSpot_216 : decode cX6_makesSpot 216 = .ok (.aload_n 0, 1) := by decide +kernel
theorem dX6_makesSpot_217 : decode cX6_makesSpot 217 = .ok (.getfield 38, 3) := by decide +kernel
theorem dX6_makesSpot_220 : decode cX6_makesSpot 220 = .ok (.iload_n 1, 1) := by decide +kernel
theorem dX6_makesSpot_221 : decode cX6_makesSpot 221 = .ok (.iaload, 1) := by decide +kernel
theorem dX6_makesSpot_222 : decode cX6_makesSpot 222 = .ok (.if_icmp .ne 7, 3) := by decide +kernel
theorem dX6_makesSpot_225 : decode cX6_makesSpot 225 = .ok (.iconst 1, 1) := by decide +kernel
theorem dX6_makesSpot_226 : decode cX6_makesSpot 226 = .ok (.goto 4, 3) := by decide +kernel
theorem dX6_makesSpot_229 : decode cX6_makesSpot 229 = .ok (.iconst 0, 1) := by decide +kernel
theorem dX6_makesSpot_230 : decode cX6_makesSpot 230 = .ok (.bastore, 1) := by decide +kernel
theorem dX6_makesSpot_231 : decode cX6_makesSpot 231 = .ok (.aload_n 0, 1) := by decide +kernel
theorem dX6_makesSpot_232 : decode cX6_makesSpot 232 = .ok (.getfield 41, 3) := by decide +kernel
theorem dX6_makesSpot_235 : decode cX6_makesSpot 235 = .ok (.iload_n 1, 1) := by decide +kernel
theorem dX6_makesSpot_236 : decode cX6_makesSpot 236 = .ok (.dup2, 1) := by decide +kernel
theorem dX6_makesSpot_237 : decode cX6_makesSpot 237 = .ok (.iaload, 1) := by decide +kernel
theorem dX6_makesSpot_238 : decode cX6_makesSpot 238 = .ok (.iconst 1, 1) := by decide +kernel
theorem dX6_makesSpot_239 : decode cX6_makesSpot 239 = .ok (.iadd, 1) := by decide +kernel
theorem dX6_makesSpot_240 : decode cX6_makesSpot 240 = .ok (.iastore, 1) := by decide +kernel
theorem dX6_makesSpot_241 : decode cX6_makesSpot 241 = .ok (.return_, 1) := by decide +kernel
theorem dX6_spot_0 : decode cX6_spot 0 = .ok (.aload_n 0, 1) := by decide +kernel
theorem dX6_spot_1 : decode cX6_spot 1 = .ok (.invokevirtual 129, 3) := by decide +kernel
theorem dX6_spot_4 : decode cX6_spot 4 = .ok (.iload_n 1, 1) := by decide +kernel
theorem dX6_spot_5 : decode cX6_spot 5 = .ok (.iconst 0, 1) := by decide +kernel
theorem dX6_spot_6 : decode cX6_spot 6 = .ok (.iconst 4, 1) := by decide +kernel
theorem dX6_spot_7 : decode cX6_spot 7 = .ok (.invokestatic 102, 3) := by decide +kernel
theorem dX6_spot_10 : decode cX6_spot 10 = .ok (.ifCond .eq 19, 3) := by decide +kernel
theorem dX6_spot_13 : decode cX6_spot 13 = .ok (.iload_n 2, 1) := by decide +kernel
theorem dX6_spot_14 : decode cX6_spot 14 = .ok (.iconst 0, 1) := by decide +kernel
theorem dX6_spot_15 : decode cX6_spot 15 = .ok (.aload_n 0, 1) := by decide +kernel
theorem dX6_spot_16 : decode cX6_spot 16 = .ok (.getfield 41, 3) := by decide +kernel
theorem dX6_spot_19 : decode cX6_spot 19 = .ok (.iload_n 1, 1) := by decide +kernel
theorem dX6_spot_20 : decode cX6_spot 20 = .ok (.iaload, 1) := by decide +kernel
theorem dX6_spot_21 : decode cX6_spot 21 = .ok (.iconst 1, 1) := by decide +kernel
theorem dX6_spot_22 : decode cX6_spot 22 = .ok (.isub, 1) := by decide +kernel
theorem dX6_spot_23 : decode cX6_spot 23 = .ok (.invokestatic 102, 3) := by decide +kernel
theorem dX6_spot_26 : decode cX6_spot 26 = .ok (.ifCond .ne 5, 3) := by decide +kernel
theorem dX6_spot_29 : decode cX6_spot 29 = .ok (.iconst (-1), 1) := by decide +kernel
theorem dX6_spot_30 : decode cX6_spot 30 = .ok (.ireturn, 1) := by decide +kernel
theorem dX6_spot_31 : decode cX6_spot 31 = .ok (.bipush 16, 2) := by decide +kernel
theorem dX6_spot_33 : decode cX6_spot 33 = .ok (.iload_n 1, 1) := by decide +kernel
theorem dX6_spot_34 : decode cX6_spot 34 = .ok (.imul, 1) := by decide +kernel
theorem dX6_spot_35 : decode cX6_spot 35 = .ok (.iload_n 2, 1) := by decide +kernel
theorem dX6_spot_36 : decode cX6_spot 36 = .ok (.iadd, 1) := by decide +kernel
theorem dX6_spot_37 : decode cX6_spot 37 = .ok (.istore 4, 2) := by decide +kernel
theorem dX6_spot_39 : decode cX6_spot 39 = .ok (.iload_n 3, 1) := by decide +kernel
theorem dX6_spot_40 : decode cX6_spot 40 = .ok (.tableswitch 72 0 3 #[32, 40, 48, 56], 32) := by decide +kernel
theorem dX6_spot_72 : decode cX6_spot 72 = .ok (.aload_n 0, 1) := by decide +kernel
theorem dX6_spot_73 : decode cX6_spot 73 = .ok (.getfield 44, 3) := by decide +kernel
theorem dX6_spot_76 : decode cX6_spot 76 = .ok (.iload 4, 2) := by decide +kernel
theorem dX6_spot_78 : decode cX6_spot 78 = .ok (.iaload, 1) := by decide +kernel
theorem dX6_spot_79 : decode cX6_spot 79 = .ok (.ireturn, 1) := by decide +kernel
theorem dX6_spot_80 : decode cX6_spot 80 = .ok (.aload_n 0, 1) := by decide +kernel
theorem dX6_spot_81 : decode cX6_spot 81 = .ok (.getfield 47, 3) := by decide +kernel
theorem dX6_spot_84 : decode cX6_spot 84 = .ok (.iload 4, 2) := by decide +kernel
theorem dX6_spot_86 : decode cX6_spot 86 = .ok (.iaload, 1) := by decide +kernel
theorem dX6_spot_87 : decode cX6_spot 87 = .ok (.ireturn, 1) := by decide +kernel
theorem dX6_spot_88 : decode cX6_spot 88 = .ok (.aload_n 0, 1) := by decide +kernel
theorem dX6_spot_89 : decode cX6_spot 89 = .ok (.getfield 50, 3) := by decide +kernel
theorem dX6_spot_92 : decode cX6_spot 92 = .ok (.iload 4, 2) := by decide +kernel
theorem dX6_spot_94 : decode cX6_spot 94 = .ok (.iaload, 1) := by decide +kernel
theorem dX6_spot_95 : decode cX6_spot 95 = .ok (.ireturn, 1) := by decide +kernel
theorem dX6_spot_96 : decode cX6_spot 96 = .ok (.aload_n 0, 1) := by decide +kernel
theorem dX6_spot_97 : decode cX6_spot 97 = .ok (.getfield 53, 3) := by decide +kernel
theorem dX6_spot_100 : decode cX6_spot 100 = .ok (.iload 4, 2) := by decide +kernel
theorem dX6_spot_102 : decode cX6_spot 102 = .ok (.baload, 1) := by decide +kernel
theorem dX6_spot_103 : decode cX6_spot 103 = .ok (.ifCond .eq 7, 3) := by decide +kernel
theorem dX6_spot_106 : decode cX6_spot 106 = .ok (.iconst 1, 1) := by decide +kernel
theorem dX6_spot_107 : decode cX6_spot 107 = .ok (.goto 4, 3) := by decide +kernel
theorem dX6_spot_110 : decode cX6_spot 110 = .ok (.iconst 0, 1) := by decide +kernel
theorem dX6_spot_111 : decode cX6_spot 111 = .ok (.ireturn, 1) := by decide +kernel
theorem dX6_spot_112 : decode cX6_spot 112 = .ok (.iconst (-1), 1) := by decide +kernel
theorem dX6_spot_113 : decode cX6_spot 113 = .ok (.ireturn, 1) := by decide +kernel
theorem dX6_byMove_0 : decode cX6_byMove 0 = .ok (.iconst 1, 1) := by decide +kernel
theorem dX6_byMove_1 : decode cX6_byMove 1 = .ok (.aload_n 0, 1) := by decide +kernel
theorem dX6_byMove_2 : decode cX6_byMove 2 = .ok (.getfield 135, 3) := by decide +kernel
theorem dX6_byMove_5 : decode cX6_byMove 5 = .ok (.ishl, 1) := by decide +kernel
theorem dX6_byMove_6 : decode cX6_byMove 6 = .ok (.istore_n 3, 1) := by decide +kernel
theorem dX6_byMove_7 : decode cX6_byMove 7 = .ok (.iconst 0, 1) := by decide +kernel
theorem dX6_byMove_8 : decode cX6_byMove 8 = .ok (.istore 4, 2) := by decide +kernel
theorem dX6_byMove_10 : decode cX6_byMove 10 = .ok (.iload 4, 2) := by decide +kernel
theorem dX6_byMove_12 : decode cX6_byMove 12 = .ok (.iload_n 3, 1) := by decide +kernel
theorem dX6_byMove_13 : decode cX6_byMove 13 = .ok (.if_icmp .ge 27, 3) := by decide +kernel
theorem dX6_byMove_16 : decode cX6_byMove 16 = .ok (.aload_n 0, 1) := by decide +kernel
theorem dX6_byMove_17 : decode cX6_byMove 17 = .ok (.getfield 78, 3) := by decide +kernel
theorem dX6_byMove_20 : decode cX6_byMove 20 = .ok (.iload 4, 2) := by decide +kernel
theorem dX6_byMove_22 : decode cX6_byMove 22 = .ok (.iload 4, 2) := by decide +kernel
theorem dX6_byMove_24 : decode cX6_byMove 24 = .ok (.ifCond .ne 7, 3) := by decide +kernel
theorem dX6_byMove_27 : decode cX6_byMove 27 = .ok (.iconst 0, 1) := by decide +kernel
theorem dX6_byMove_28 : decode cX6_byMove 28 = .ok (.goto 5, 3) := by decide +kernel
theorem dX6_byMove_31 : decode cX6_byMove 31 = .ok (.ldc 138, 2) := by decide +kernel
theorem dX6_byMove_33 : decode cX6_byMove 33 = .ok (.iastore, 1) := by decide +kernel
theorem dX6_byMove_34 : decode cX6_byMove 34 = .ok (.iinc 4 1, 3) := by decide +kernel
theorem dX6_byMove_37 : decode cX6_byMove 37 = .ok (.goto (-27), 3) := by decide +kernel
theorem dX6_byMove_40 : decode cX6_byMove 40 = .ok (.iconst 0, 1) := by decide +kernel
theorem dX6_byMove_41 : decode cX6_byMove 41 = .ok (.istore 4, 2) := by decide +kernel
theorem dX6_byMove_43 : decode cX6_byMove 43 = .ok (.iload 4, 2) := by decide +kernel
theorem dX6_byMove_45 : decode cX6_byMove 45 = .ok (.aload_n 0, 1) := by decide +kernel
theorem dX6_byMove_46 : decode cX6_byMove 46 = .ok (.getfield 139, 3) := by decide +kernel
theorem dX6_byMove_49 : decode cX6_byMove 49 = .ok (.if_icmp .ge 297, 3) := by decide +kernel
theorem dX6_byMove_52 : decode cX6_byMove 52 = .ok (.aload_n 0, 1) := by decide +kernel
theorem dX6_byMove_53 : decode cX6_byMove 53 = .ok (.getfield 75, 3) := by decide +kernel
theorem dX6_byMove_56 : decode cX6_byMove 56 = .ok (.iload 4, 2) := by decide +kernel
theorem dX6_byMove_58 : decode cX6_byMove 58 = .ok (.baload, 1) := by decide +kernel
theorem dX6_byMove_59 : decode cX6_byMove 59 = .ok (.ifCond .eq 12, 3) := by decide +kernel
theorem dX6_byMove_62 : decode cX6_byMove 62 = .ok (.aload_n 0, 1) := by decide +kernel
theorem dX6_byMove_63 : decode cX6_byMove 63 = .ok (.getfield 25, 3) := by decide +kernel
theorem dX6_byMove_66 : decode cX6_byMove 66 = .ok (.iconst 3, 1) := by decide +kernel
theorem dX6_byMove_67 : decode cX6_byMove 67 = .ok (.iaload, 1) := by decide +kernel
theorem dX6_byMove_68 : decode cX6_byMove 68 = .ok (.goto 11, 3) := by decide +kernel
theorem dX6_byMove_71 : decode cX6_byMove 71 = .ok (.aload_n 0, 1) := by decide +kernel
theorem dX6_byMove_72 : decode cX6_byMove 72 = .ok (.getfield 25, 3) := by decide +kernel
theorem dX6_byMove_75 : decode cX6_byMove 75 = .ok (.iconst 3, 1) := by decide +kernel
theorem dX6_byMove_76 : decode cX6_byMove 76 = .ok (.iaload, 1) := by decide +kernel
theorem dX6_byMove_77 : decode cX6_byMove 77 = .ok (.iconst 2, 1) := by decide +kernel
theorem dX6_byMove_78 : decode cX6_byMove 78 = .ok (.idiv, 1) := by decide +kernel
theorem dX6_byMove_79 : decode cX6_byMove 79 = .ok (.istore 5, 2) := by decide +kernel
theorem dX6_byMove_81 : decode cX6_byMove 81 = .ok (.iconst 0, 1) := by decide +kernel
theorem dX6_byMove_82 : decode cX6_byMove 82 = .ok (.istore 6, 2) := by decide +kernel
theorem dX6_byMove_84 : decode cX6_byMove 84 = .ok (.iconst 0, 1) := by decide +kernel
theorem dX6_byMove_85 : decode cX6_byMove 85 = .ok (.istore 7, 2) := by decide +kernel
theorem dX6_byMove_87 : decode cX6_byMove 87 = .ok (.iload 7, 2) := by decide +kernel
theorem dX6_byMove_89 : decode cX6_byMove 89 = .ok (.aload_n 0, 1) := by decide +kernel
theorem dX6_byMove_90 : decode cX6_byMove 90 = .ok (.getfield 135, 3) := by decide +kernel
theorem dX6_byMove_93 : decode cX6_byMove 93 = .ok (.if_icmp .ge 33, 3) := by decide +kernel
theorem dX6_byMove_96 : decode cX6_byMove 96 = .ok (.iload 6, 2) := by decide +kernel
theorem dX6_byMove_98 : decode cX6_byMove 98 = .ok (.ifCond .ne 15, 3) := by decide +kernel
theorem dX6_byMove_101 : decode cX6_byMove 101 = .ok (.aload_n 0, 1) := by decide +kernel
theorem dX6_byMove_102 : decode cX6_byMove 102 = .ok (.getfield 81, 3) := by decide +kernel
theorem dX6_byMove_105 : decode cX6_byMove 105 = .ok (.iload 7, 2) := by decide +kernel
theorem dX6_byMove_107 : decode cX6_byMove 107 = .ok (.iaload, 1) := by decide +kernel
theorem dX6_byMove_108 : decode cX6_byMove 108 = .ok (.iload 4, 2) := by decide +kernel
theorem dX6_byMove_110 : decode cX6_byMove 110 = .ok (.if_icmp .ne 7, 3) := by decide +kernel
theorem dX6_byMove_113 : decode cX6_byMove 113 = .ok (.iconst 1, 1) := by decide +kernel
theorem dX6_byMove_114 : decode cX6_byMove 114 = .ok (.goto 4, 3) := by decide +kernel
theorem dX6_byMove_117 : decode cX6_byMove 117 = .ok (.iconst 0, 1) := by decide +kernel
theorem dX6_byMove_118 : decode cX6_byMove 118 = .ok (.istore 6, 2) := by decide +kernel
theorem dX6_byMove_120 : decode cX6_byMove 120 = .ok (.iinc 7 1, 3) := by decide +kernel
theorem dX6_byMove_123 : decode cX6_byMove 123 = .ok (.goto (-36), 3) := by decide +kernel
theorem dX6_byMove_126 : decode cX6_byMove 126 = .ok (.iconst 0, 1) := by decide +kernel
theorem dX6_byMove_127 : decode cX6_byMove 127 = .ok (.istore 7, 2) := by decide +kernel
theorem dX6_byMove_129 : decode cX6_byMove 129 = .ok (.iload 7, 2) := by decide +kernel
theorem dX6_byMove_131 : decode cX6_byMove 131 = .ok (.iload_n 3, 1) := by decide +kernel
theorem dX6_byMove_132 : decode cX6_byMove 132 = .ok (.if_icmp .ge 52, 3) := by decide +kernel
theorem dX6_byMove_135 : decode cX6_byMove 135 = .ok (.aload_n 0, 1) := by decide +kernel
theorem dX6_byMove_136 : decode cX6_byMove 136 = .ok (.getfield 78, 3) := by decide +kernel
theorem dX6_byMove_139 : decode cX6_byMove 139 = .ok (.sipush 256, 3) := by decide +kernel
theorem dX6_byMove_142 : decode cX6_byMove 142 = .ok (.iload 4, 2) := by decide +kernel
theorem dX6_byMove_144 : decode cX6_byMove 144 = .ok (.iconst 1, 1) := by decide +kernel
theorem dX6_byMove_145 : decode cX6_byMove 145 = .ok (.iadd, 1) := by decide +kernel
theorem dX6_byMove_146 : decode cX6_byMove 146 = .ok (.imul, 1) := by decide +kernel
theorem dX6_byMove_147 : decode cX6_byMove 147 = .ok (.iload 7, 2) := by decide +kernel
theorem dX6_byMove_149 : decode cX6_byMove 149 = .ok (.iadd, 1) := by decide +kernel
theorem dX6_byMove_150 : decode cX6_byMove 150 = .ok (.iload 6, 2) := by decide +kernel
theorem dX6_byMove_152 : decode cX6_byMove 152 = .ok (.ifCond .eq 8, 3) := by decide +kernel
theorem dX6_byMove_155 : decode cX6_byMove 155 = .ok (.ldc 138, 2) := by decide +kernel
theorem dX6_byMove_157 : decode cX6_byMove 157 = .ok (.goto 20, 3) := by decide +kernel
theorem dX6_byMove_160 : decode cX6_byMove 160 = .ok (.aload_n 0, 1) := by decide +kernel
theorem dX6_byMove_161 : decode cX6_byMove 161 = .ok (.getfield 78, 3) := by decide +kernel
theorem dX6_byMove_164 : decode cX6_byMove 164 = .ok (.sipush 256, 3) := by decide +kernel
theorem dX6_byMove_167 : decode cX6_byMove 167 = .ok (.iload 4, 2) := by decide +kernel
theorem dX6_byMove_169 : decode cX6_byMove 169 = .ok (.imul, 1) := by decide +kernel
theorem dX6_byMove_170 : decode cX6_byMove 170 = .ok (.iload 7, 2) := by decide +kernel
theorem dX6_byMove_172 : decode cX6_byMove 172 = .ok (.iadd, 1) := by decide +kernel
theorem dX6_byMove_173 : decode cX6_byMove 173 = .ok (.iaload, 1) := by decide +kernel
theorem dX6_byMove_174 : decode cX6_byMove 174 = .ok (.iload 5, 2) := by decide +kernel
theorem dX6_byMove_176 : decode cX6_byMove 176 = .ok (.iadd, 1) := by decide +kernel
theorem dX6_byMove_177 : decode cX6_byMove 177 = .ok (.iastore, 1) := by decide +kernel
theorem dX6_byMove_178 : decode cX6_byMove 178 = .ok (.iinc 7 1, 3) := by decide +kernel
theorem dX6_byMove_181 : decode cX6_byMove 181 = .ok (.goto (-52), 3) := by decide +kernel
theorem dX6_byMove_184 : decode cX6_byMove 184 = .ok (.iconst 0, 1) := by decide +kernel
theorem dX6_byMove_185 : decode cX6_byMove 185 = .ok (.istore 7, 2) := by decide +kernel
theorem dX6_byMove_187 : decode cX6_byMove 187 = .ok (.iload 7, 2) := by decide +kernel
theorem dX6_byMove_189 : decode cX6_byMove 189 = .ok (.aload_n 0, 1) := by decide +kernel
theorem dX6_byMove_190 : decode cX6_byMove 190 = .ok (.getfield 135, 3) := by decide +kernel
theorem dX6_byMove_193 : decode cX6_byMove 193 = .ok (.if_icmp .ge 147, 3) := by decide +kernel
theorem dX6_byMove_196 : decode cX6_byMove 196 = .ok (.aload_n 0, 1) := by decide +kernel
theorem dX6_byMove_197 : decode cX6_byMove 197 = .ok (.getfield 81, 3) := by decide +kernel
theorem dX6_byMove_200 : decode cX6_byMove 200 = .ok (.iload 7, 2) := by decide +kernel
theorem dX6_byMove_202 : decode cX6_byMove 202 = .ok (.iaload, 1) := by decide +kernel
theorem dX6_byMove_203 : decode cX6_byMove 203 = .ok (.iload 4, 2) := by decide +kernel
theorem dX6_byMove_205 : decode cX6_byMove 205 = .ok (.if_icmp .eq 23, 3) := by decide +kernel
theorem dX6_byMove_208 : decode cX6_byMove 208 = .ok (.aload_n 0, 1) := by decide +kernel
theorem dX6_byMove_209 : decode cX6_byMove 209 = .ok (.getfield 81, 3) := by decide +kernel
theorem dX6_byMove_212 : decode cX6_byMove 212 = .ok (.iload 7, 2) := by decide +kernel
theorem dX6_byMove_214 : decode cX6_byMove 214 = .ok (.iaload, 1) := by decide +kernel
theorem dX6_byMove_215 : decode cX6_byMove 215 = .ok (.bipush (-2), 2) := by decide +kernel
theorem dX6_byMove_217 : decode cX6_byMove 217 = .ok (.if_icmp .ne 117, 3) := by decide +kernel
theorem dX6_byMove_220 : decode cX6_byMove 220 = .ok (.iload 6, 2) := by decide +kernel
theorem dX6_byMove_222 : decode cX6_byMove 222 = .ok (.ifCond .eq 6, 3) := by decide +kernel
theorem dX6_byMove_225 : decode cX6_byMove 225 = .ok (.goto 109, 3) := by decide +kernel
theorem dX6_byMove_228 : decode cX6_byMove 228 = .ok (.aload_n 0, 1) := by decide +kernel
theorem dX6_byMove_229 : decode cX6_byMove 229 = .ok (.iload 7, 2) := by decide +kernel
theorem dX6_byMove_231 : decode cX6_byMove 231 = .ok (.iload 4, 2) := by decide +kernel
theorem dX6_byMove_233 : decode cX6_byMove 233 = .ok (.iload_n 1, 1) := by decide +kernel
theorem dX6_byMove_234 : decode cX6_byMove 234 = .ok (.iload_n 2, 1) := by decide +kernel
theorem dX6_byMove_235 : decode cX6_byMove 235 = .ok (.invokevirtual 142, 3) := by decide +kernel
theorem dX6_byMove_238 : decode cX6_byMove 238 = .ok (.istore 8, 2) := by decide +kernel
theorem dX6_byMove_240 : decode cX6_byMove 240 = .ok (.iconst 0, 1) := by decide +kernel
theorem dX6_byMove_241 : decode cX6_byMove 241 = .ok (.istore 9, 2) := by decide +kernel
theorem dX6_byMove_243 : decode cX6_byMove 243 = .ok (.iload 9, 2) := by decide +kernel
theorem dX6_byMove_245 : decode cX6_byMove 245 = .ok (.iload_n 3, 1) := by decide +kernel
theorem dX6_byMove_246 : decode cX6_byMove 246 = .ok (.if_icmp .ge 88, 3) := by decide +kernel
theorem dX6_byMove_249 : decode cX6_byMove 249 = .ok (.sipush 256, 3) := by decide +kernel
theorem dX6_byMove_252 : decode cX6_byMove 252 = .ok (.iload 4, 2) := by decide +kernel
theorem dX6_byMove_254 : decode cX6_byMove 254 = .ok (.iconst 1, 1) := by decide +kernel
theorem dX6_byMove_255 : decode cX6_byMove 255 = .ok (.iadd, 1) := by decide +kernel
theorem dX6_byMove_256 : decode cX6_byMove 256 = .ok (.imul, 1) := by decide +kernel
theorem dX6_byMove_257 : decode cX6_byMove 257 = .ok (.iload 9, 2) := by decide +kernel
theorem dX6_byMove_259 : decode cX6_byMove 259 = .ok (.iconst 1, 1) := by decide +kernel
theorem dX6_byMove_260 : decode cX6_byMove 260 = .ok (.iload 7, 2) := by decide +kernel
theorem dX6_byMove_262 : decode cX6_byMove 262 = .ok (.ishl, 1) := by decide +kernel
theorem dX6_byMove_263 : decode cX6_byMove 263 = .ok (.ior, 1) := by decide +kernel
theorem dX6_byMove_264 : decode cX6_byMove 264 = .ok (.iadd, 1) := by decide +kernel
theorem dX6_byMove_265 : decode cX6_byMove 265 = .ok (.istore 10, 2) := by decide +kernel
theorem dX6_byMove_267 : decode cX6_byMove 267 = .ok (.iload 9, 2) := by decide +kernel
theorem dX6_byMove_269 : decode cX6_byMove 269 = .ok (.iload 7, 2) := by decide +kernel
theorem dX6_byMove_271 : decode cX6_byMove 271 = .ok (.ishr, 1) := by decide +kernel
theorem dX6_byMove_272 : decode cX6_byMove 272 = .ok (.iconst 1, 1) := by decide +kernel
theorem dX6_byMove_273 : decode cX6_byMove 273 = .ok (.iand, 1) := by decide +kernel
theorem dX6_byMove_274 : decode cX6_byMove 274 = .ok (.ifCond .ne 54, 3) := by decide +kernel
theorem dX6_byMove_277 : decode cX6_byMove 277 = .ok (.aload_n 0, 1) := by decide +kernel
theorem dX6_byMove_278 : decode cX6_byMove 278 = .ok (.getfield 78, 3) := by decide +kernel
theorem dX6_byMove_281 : decode cX6_byMove 281 = .ok (.sipush 256, 3) := by decide +kernel
theorem dX6_byMove_284 : decode cX6_byMove 284 = .ok (.iload 4, 2) := by decide +kernel
theorem dX6_byMove_286 : decode cX6_byMove 286 = .ok (.imul, 1) := by decide +kernel
theorem dX6_byMove_287 : decode cX6_byMove 287 = .ok (.iload 9, 2) := by decide +kernel
theorem dX6_byMove_289 : decode cX6_byMove 289 = .ok (.iadd, 1) := by decide +kernel
theorem dX6_byMove_290 : decode cX6_byMove 290 = .ok (.iaload, 1) := by decide +kernel
theorem dX6_byMove_291 : decode cX6_byMove 291 = .ok (.iload 8, 2) := by decide +kernel
theorem dX6_byMove_293 : decode cX6_byMove 293 = .ok (.iadd, 1) := by decide +kernel
theorem dX6_byMove_294 : decode cX6_byMove 294 = .ok (.aload_n 0, 1) := by decide +kernel
theorem dX6_byMove_295 : decode cX6_byMove 295 = .ok (.getfield 78, 3) := by decide +kernel
theorem dX6_byMove_298 : decode cX6_byMove 298 = .ok (.iload 10, 2) := by decide +kernel
theorem dX6_byMove_300 : decode cX6_byMove 300 = .ok (.iaload, 1) := by decide +kernel
theorem dX6_byMove_301 : decode cX6_byMove 301 = .ok (.if_icmp .ge 27, 3) := by decide +kernel
theorem dX6_byMove_304 : decode cX6_byMove 304 = .ok (.aload_n 0, 1) := by decide +kernel
theorem dX6_byMove_305 : decode cX6_byMove 305 = .ok (.getfield 78, 3) := by decide +kernel
theorem dX6_byMove_308 : decode cX6_byMove 308 = .ok (.iload 10, 2) := by decide +kernel
theorem dX6_byMove_310 : decode cX6_byMove 310 = .ok (.aload_n 0, 1) := by decide +kernel
theorem dX6_byMove_311 : decode cX6_byMove 311 = .ok (.getfield 78, 3) := by decide +kernel
theorem dX6_byMove_314 : decode cX6_byMove 314 = .ok (.sipush 256, 3) := by decide +kernel
theorem dX6_byMove_317 : decode cX6_byMove 317 = .ok (.iload 4, 2) := by decide +kernel
theorem dX6_byMove_319 : decode cX6_byMove 319 = .ok (.imul, 1) := by decide +kernel
theorem dX6_byMove_320 : decode cX6_byMove 320 = .ok (.iload 9, 2) := by decide +kernel
theorem dX6_byMove_322 : decode cX6_byMove 322 = .ok (.iadd, 1) := by decide +kernel
theorem dX6_byMove_323 : decode cX6_byMove 323 = .ok (.iaload, 1) := by decide +kernel
theorem dX6_byMove_324 : decode cX6_byMove 324 = .ok (.iload 8, 2) := by decide +kernel
theorem dX6_byMove_326 : decode cX6_byMove 326 = .ok (.iadd, 1) := by decide +kernel
theorem dX6_byMove_327 : decode cX6_byMove 327 = .ok (.iastore, 1) := by decide +kernel
theorem dX6_byMove_328 : decode cX6_byMove 328 = .ok (.iinc 9 1, 3) := by decide +kernel
theorem dX6_byMove_331 : decode cX6_byMove 331 = .ok (.goto (-88), 3) := by decide +kernel
theorem dX6_byMove_334 : decode cX6_byMove 334 = .ok (.iinc 7 1, 3) := by decide +kernel
theorem dX6_byMove_337 : decode cX6_byMove 337 = .ok (.goto (-150), 3) := by decide +kernel
theorem dX6_byMove_340 : decode cX6_byMove 340 = .ok (.iinc 4 1, 3) := by decide +kernel
theorem dX6_byMove_343 : decode cX6_byMove 343 = .ok (.goto (-300), 3) := by decide +kernel
theorem dX6_byMove_346 : decode cX6_byMove 346 = .ok (.ldc 138, 2) := by decide +kernel
theorem dX6_byMove_348 : decode cX6_byMove 348 = .ok (.istore 4, 2) := by decide +kernel
theorem dX6_byMove_350 : decode cX6_byMove 350 = .ok (.iconst 0, 1) := by decide +kernel
theorem dX6_byMove_351 : decode cX6_byMove 351 = .ok (.istore 5, 2) := by decide +kernel
theorem dX6_byMove_353 : decode cX6_byMove 353 = .ok (.iload 5, 2) := by decide +kernel
theorem dX6_byMove_355 : decode cX6_byMove 355 = .ok (.iload_n 3, 1) := by decide +kernel
theorem dX6_byMove_356 : decode cX6_byMove 356 = .ok (.if_icmp .ge 86, 3) := by decide +kernel
theorem dX6_byMove_359 : decode cX6_byMove 359 = .ok (.aload_n 0, 1) := by decide +kernel
theorem dX6_byMove_360 : decode cX6_byMove 360 = .ok (.getfield 78, 3) := by decide +kernel
theorem dX6_byMove_363 : decode cX6_byMove 363 = .ok (.sipush 256, 3) := by decide +kernel
theorem dX6_byMove_366 : decode cX6_byMove 366 = .ok (.aload_n 0, 1) := by decide +kernel
theorem dX6_byMove_367 : decode cX6_byMove 367 = .ok (.getfield 139, 3) := by decide +kernel
theorem dX6_byMove_370 : decode cX6_byMove 370 = .ok (.imul, 1) := by decide +kernel
theorem dX6_byMove_371 : decode cX6_byMove 371 = .ok (.iload 5, 2) := by decide +kernel
theorem dX6_byMove_373 : decode cX6_byMove 373 = .ok (.iadd, 1) := by decide +kernel
theorem dX6_byMove_374 : decode cX6_byMove 374 = .ok (.iaload, 1) := by decide +kernel
theorem dX6_byMove_375 : decode cX6_byMove 375 = .ok (.istore 6, 2) := by decide +kernel
theorem dX6_byMove_377 : decode cX6_byMove 377 = .ok (.iconst 0, 1) := by decide +kernel
theorem dX6_byMove_378 : decode cX6_byMove 378 = .ok (.istore 7, 2) := by decide +kernel
theorem dX6_byMove_380 : decode cX6_byMove 380 = .ok (.iload 7, 2) := by decide +kernel
theorem dX6_byMove_382 : decode cX6_byMove 382 = .ok (.aload_n 0, 1) := by decide +kernel
theorem dX6_byMove_383 : decode cX6_byMove 383 = .ok (.getfield 135, 3) := by decide +kernel
theorem dX6_byMove_386 : decode cX6_byMove 386 = .ok (.if_icmp .ge 34, 3) := by decide +kernel
theorem dX6_byMove_389 : decode cX6_byMove 389 = .ok (.iload 6, 2) := by decide +kernel
theorem dX6_byMove_391 : decode cX6_byMove 391 = .ok (.iload 5, 2) := by decide +kernel
theorem dX6_byMove_393 : decode cX6_byMove 393 = .ok (.iload 7, 2) := by decide +kernel
theorem dX6_byMove_395 : decode cX6_byMove 395 = .ok (.ishr, 1) := by decide +kernel
theorem dX6_byMove_396 : decode cX6_byMove 396 = .ok (.iconst 1, 1) := by decide +kernel
theorem dX6_byMove_397 : decode cX6_byMove 397 = .ok (.iand, 1) := by decide +kernel
theorem dX6_byMove_398 : decode cX6_byMove 398 = .ok (.ifCond .ne 12, 3) := by decide +kernel
theorem dX6_byMove_401 : decode cX6_byMove 401 = .ok (.aload_n 0, 1) := by decide +kernel
theorem dX6_byMove_402 : decode cX6_byMove 402 = .ok (.getfield 25, 3) := by decide +kernel
theorem dX6_byMove_405 : decode cX6_byMove 405 = .ok (.iconst 4, 1) := by decide +kernel
theorem dX6_byMove_406 : decode cX6_byMove 406 = .ok (.iaload, 1) := by decide +kernel
theorem dX6_byMove_407 : decode cX6_byMove 407 = .ok (.goto 4, 3) := by decide +kernel
theorem dX6_byMove_410 : decode cX6_byMove 410 = .ok (.iconst 0, 1) := by decide +kernel
theorem dX6_byMove_411 : decode cX6_byMove 411 = .ok (.iadd, 1) := by decide +kernel
theorem dX6_byMove_412 : decode cX6_byMove 412 = .ok (.istore 6, 2) := by decide +kernel
theorem dX6_byMove_414 : decode cX6_byMove 414 = .ok (.iinc 7 1, 3) := by decide +kernel
theorem dX6_byMove_417 : decode cX6_byMove 417 = .ok (.goto (-37), 3) := by decide +kernel
theorem dX6_byMove_420 : decode cX6_byMove 420 = .ok (.iload 6, 2) := by decide +kernel
theorem dX6_byMove_422 : decode cX6_byMove 422 = .ok (.iload 4, 2) := by decide +kernel
theorem dX6_byMove_424 : decode cX6_byMove 424 = .ok (.if_icmp .ge 8, 3) := by decide +kernel
theorem dX6_byMove_427 : decode cX6_byMove 427 = .ok (.iload 6, 2) := by decide +kernel
theorem dX6_byMove_429 : decode cX6_byMove 429 = .ok (.goto 5, 3) := by decide +kernel
theorem dX6_byMove_432 : decode cX6_byMove 432 = .ok (.iload 4, 2) := by decide +kernel
theorem dX6_byMove_434 : decode cX6_byMove 434 = .ok (.istore 4, 2) := by decide +kernel
theorem dX6_byMove_436 : decode cX6_byMove 436 = .ok (.iinc 5 1, 3) := by decide +kernel
theorem dX6_byMove_439 : decode cX6_byMove 439 = .ok (.goto (-86), 3) := by decide +kernel
theorem dX6_byMove_442 : decode cX6_byMove 442 = .ok (.iload 4, 2) := by decide +kernel
theorem dX6_byMove_444 : decode cX6_byMove 444 = .ok (.aload_n 0, 1) := by decide +kernel
theorem dX6_byMove_445 : decode cX6_byMove 445 = .ok (.getfield 25, 3) := by decide +kernel
theorem dX6_byMove_448 : decode cX6_byMove 448 = .ok (.iconst 0, 1) := by decide +kernel
theorem dX6_byMove_449 : decode cX6_byMove 449 = .ok (.iaload, 1) := by decide +kernel
theorem dX6_byMove_450 : decode cX6_byMove 450 = .ok (.iload_n 1, 1) := by decide +kernel
theorem dX6_byMove_451 : decode cX6_byMove 451 = .ok (.iconst 0, 1) := by decide +kernel
theorem dX6_byMove_452 : decode cX6_byMove 452 = .ok (.invokestatic 132, 3) := by decide +kernel
theorem dX6_byMove_455 : decode cX6_byMove 455 = .ok (.iload_n 2, 1) := by decide +kernel
theorem dX6_byMove_456 : decode cX6_byMove 456 = .ok (.iconst 0, 1) := by decide +kernel
theorem dX6_byMove_457 : decode cX6_byMove 457 = .ok (.invokestatic 132, 3) := by decide +kernel
theorem dX6_byMove_460 : decode cX6_byMove 460 = .ok (.iadd, 1) := by decide +kernel
theorem dX6_byMove_461 : decode cX6_byMove 461 = .ok (.imul, 1) := by decide +kernel
theorem dX6_byMove_462 : decode cX6_byMove 462 = .ok (.iadd, 1) := by decide +kernel
theorem dX6_byMove_463 : decode cX6_byMove 463 = .ok (.ireturn, 1) := by decide +kernel
theorem dX6_takesSpots_0 : decode cX6_takesSpots 0 = .ok (.aload_n 0, 1) := by decide +kernel
theorem dX6_takesSpots_1 : decode cX6_takesSpots 1 = .ok (.aload_n 0, 1) := by decide +kernel
theorem dX6_takesSpots_2 : decode cX6_takesSpots 2 = .ok (.getfield 41, 3) := by decide +kernel
theorem dX6_takesSpots_5 : decode cX6_takesSpots 5 = .ok (.iload_n 1, 1) := by decide +kernel
theorem dX6_takesSpots_6 : decode cX6_takesSpots 6 = .ok (.iaload, 1) := by decide +kernel
theorem dX6_takesSpots_7 : decode cX6_takesSpots 7 = .ok (.putfield 139, 3) := by decide +kernel
theorem dX6_takesSpots_10 : decode cX6_takesSpots 10 = .ok (.iconst 0, 1) := by decide +kernel
theorem dX6_takesSpots_11 : decode cX6_takesSpots 11 = .ok (.istore_n 2, 1) := by decide +kernel
theorem dX6_takesSpots_12 : decode cX6_takesSpots 12 = .ok (.iload_n 2, 1) := by decide +kernel
theorem dX6_takesSpots_13 : decode cX6_takesSpots 13 = .ok (.aload_n 0, 1) := by decide +kernel
theorem dX6_takesSpots_14 : decode cX6_takesSpots 14 = .ok (.getfield 139, 3) := by decide +kernel
theorem dX6_takesSpots_17 : decode cX6_takesSpots 17 = .ok (.if_icmp .ge 77, 3) := by decide +kernel
theorem dX6_takesSpots_20 : decode cX6_takesSpots 20 = .ok (.aload_n 0, 1) := by decide +kernel
theorem dX6_takesSpots_21 : decode cX6_takesSpots 21 = .ok (.getfield 66, 3) := by decide +kernel
theorem dX6_takesSpots_24 : decode cX6_takesSpots 24 = .ok (.iload_n 2, 1) := by decide +kernel
theorem dX6_takesSpots_25 : decode cX6_takesSpots 25 = .ok (.aload_n 0, 1) := by decide +kernel
theorem dX6_takesSpots_26 : decode cX6_takesSpots 26 = .ok (.getfield 47, 3) := by decide +kernel
theorem dX6_takesSpots_29 : decode cX6_takesSpots 29 = .ok (.bipush 16, 2) := by decide +kernel
theorem dX6_takesSpots_31 : decode cX6_takesSpots 31 = .ok (.iload_n 1, 1) := by decide +kernel
theorem dX6_takesSpots_32 : decode cX6_takesSpots 32 = .ok (.imul, 1) := by decide +kernel
theorem dX6_takesSpots_33 : decode cX6_takesSpots 33 = .ok (.iload_n 2, 1) := by decide +kernel
theorem dX6_takesSpots_34 : decode cX6_takesSpots 34 = .ok (.iadd, 1) := by decide +kernel
theorem dX6_takesSpots_35 : decode cX6_takesSpots 35 = .ok (.iaload, 1) := by decide +kernel
theorem dX6_takesSpots_36 : decode cX6_takesSpots 36 = .ok (.iastore, 1) := by decide +kernel
theorem dX6_takesSpots_37 : decode cX6_takesSpots 37 = .ok (.aload_n 0, 1) := by decide +kernel
theorem dX6_takesSpots_38 : decode cX6_takesSpots 38 = .ok (.getfield 69, 3) := by decide +kernel
theorem dX6_takesSpots_41 : decode cX6_takesSpots 41 = .ok (.iload_n 2, 1) := by decide +kernel
theorem dX6_takesSpots_42 : decode cX6_takesSpots 42 = .ok (.aload_n 0, 1) := by decide +kernel
theorem dX6_takesSpots_43 : decode cX6_takesSpots 43 = .ok (.getfield 50, 3) := by decide +kernel
theorem dX6_takesSpots_46 : decode cX6_takesSpots 46 = .ok (.bipush 16, 2) := by decide +kernel
theorem dX6_takesSpots_48 : decode cX6_takesSpots 48 = .ok (.iload_n 1, 1) := by decide +kernel
theorem dX6_takesSpots_49 : decode cX6_takesSpots 49 = .ok (.imul, 1) := by decide +kernel
theorem dX6_takesSpots_50 : decode cX6_takesSpots 50 = .ok (.iload_n 2, 1) := by decide +kernel
theorem dX6_takesSpots_51 : decode cX6_takesSpots 51 = .ok (.iadd, 1) := by decide +kernel
theorem dX6_takesSpots_52 : decode cX6_takesSpots 52 = .ok (.iaload, 1) := by decide +kernel
theorem dX6_takesSpots_53 : decode cX6_takesSpots 53 = .ok (.iastore, 1) := by decide +kernel
theorem dX6_takesSpots_54 : decode cX6_takesSpots 54 = .ok (.aload_n 0, 1) := by decide +kernel
theorem dX6_takesSpots_55 : decode cX6_takesSpots 55 = .ok (.getfield 72, 3) := by decide +kernel
theorem dX6_takesSpots_58 : decode cX6_takesSpots 58 = .ok (.iload_n 2, 1) := by decide +kernel
theorem dX6_takesSpots_59 : decode cX6_takesSpots 59 = .ok (.aload_n 0, 1) := by decide +kernel
theorem dX6_takesSpots_60 : decode cX6_takesSpots 60 = .ok (.getfield 44, 3) := by decide +kernel
theorem dX6_takesSpots_63 : decode cX6_takesSpots 63 = .ok (.bipush 16, 2) := by decide +kernel
theorem dX6_takesSpots_65 : decode cX6_takesSpots 65 = .ok (.iload_n 1, 1) := by decide +kernel
theorem dX6_takesSpots_66 : decode cX6_takesSpots 66 = .ok (.imul, 1) := by decide +kernel
theorem dX6_takesSpots_67 : decode cX6_takesSpots 67 = .ok (.iload_n 2, 1) := by decide +kernel
theorem dX6_takesSpots_68 : decode cX6_takesSpots 68 = .ok (.iadd, 1) := by decide +kernel
theorem dX6_takesSpots_69 : decode cX6_takesSpots 69 = .ok (.iaload, 1) := by decide +kernel
theorem dX6_takesSpots_70 : decode cX6_takesSpots 70 = .ok (.iastore, 1) := by decide +kernel
theorem dX6_takesSpots_71 : decode cX6_takesSpots 71 = .ok (.aload_n 0, 1) := by decide +kernel
theorem dX6_takesSpots_72 : decode cX6_takesSpots 72 = .ok (.getfield 75, 3) := by decide +kernel
theorem dX6_takesSpots_75 : decode cX6_takesSpots 75 = .ok (.iload_n 2, 1) := by decide +kernel
theorem dX6_takesSpots_76 : decode cX6_takesSpots 76 = .ok (.aload_n 0, 1) := by decide +kernel
theorem dX6_takesSpots_77 : decode cX6_takesSpots 77 = .ok (.getfield 53, 3) := by decide +kernel
theorem dX6_takesSpots_80 : decode cX6_takesSpots 80 = .ok (.bipush 16, 2) := by decide +kernel
theorem dX6_takesSpots_82 : decode cX6_takesSpots 82 = .ok (.iload_n 1, 1) := by decide +kernel
theorem dX6_takesSpots_83 : decode cX6_takesSpots 83 = .ok (.imul, 1) := by decide +kernel
theorem dX6_takesSpots_84 : decode cX6_takesSpots 84 = .ok (.iload_n 2, 1) := by decide +kernel
theorem dX6_takesSpots_85 : decode cX6_takesSpots 85 = .ok (.iadd, 1) := by decide +kernel
theorem dX6_takesSpots_86 : decode cX6_takesSpots 86 = .ok (.baload, 1) := by decide +kernel
theorem dX6_takesSpots_87 : decode cX6_takesSpots 87 = .ok (.bastore, 1) := by decide +kernel
theorem dX6_takesSpots_88 : decode cX6_takesSpots 88 = .ok (.iinc 2 1, 3) := by decide +kernel
theorem dX6_takesSpots_91 : decode cX6_takesSpots 91 = .ok (.goto (-79), 3) := by decide +kernel
theorem dX6_takesSpots_94 : decode cX6_takesSpots 94 = .ok (.return_, 1) := by decide +kernel
theorem dX6_areVersions_0 : decode cX6_areVersions 0 = .ok (.aload_n 0, 1) := by decide +kernel
theorem dX6_areVersions_1 : decode cX6_areVersions 1 = .ok (.aload_n 0, 1) := by decide +kernel
theorem dX6_areVersions_2 : decode cX6_areVersions 2 = .ok (.getfield 41, 3) := by decide +kernel
theorem dX6_areVersions_5 : decode cX6_areVersions 5 = .ok (.iload_n 1, 1) := by decide +kernel
theorem dX6_areVersions_6 : decode cX6_areVersions 6 = .ok (.iaload, 1) := by decide +kernel
theorem dX6_areVersions_7 : decode cX6_areVersions 7 = .ok (.bipush 8, 2) := by decide +kernel
theorem dX6_areVersions_9 : decode cX6_areVersions 9 = .ok (.if_icmp .ge 12, 3) := by decide +kernel
theorem dX6_areVersions_12 : decode cX6_areVersions 12 = .ok (.aload_n 0, 1) := by decide +kernel
theorem dX6_areVersions_13 : decode cX6_areVersions 13 = .ok (.getfield 41, 3) := by decide +kernel
theorem dX6_areVersions_16 : decode cX6_areVersions 16 = .ok (.iload_n 1, 1) := by decide +kernel
theorem dX6_areVersions_17 : decode cX6_areVersions 17 = .ok (.iaload, 1) := by decide +kernel
theorem dX6_areVersions_18 : decode cX6_areVersions 18 = .ok (.goto 5, 3) := by decide +kernel
theorem dX6_areVersions_21 : decode cX6_areVersions 21 = .ok (.bipush 8, 2) := by decide +kernel
theorem dX6_areVersions_23 : decode cX6_areVersions 23 = .ok (.putfield 135, 3) := by decide +kernel
theorem dX6_areVersions_26 : decode cX6_areVersions 26 = .ok (.iconst 0, 1) := by decide +kernel
theorem dX6_areVersions_27 : decode cX6_areVersions 27 = .ok (.istore_n 3, 1) := by decide +kernel
theorem dX6_areVersions_28 : decode cX6_areVersions 28 = .ok (.iload_n 3, 1) := by decide +kernel
theorem dX6_areVersions_29 : decode cX6_areVersions 29 = .ok (.aload_n 0, 1) := by decide +kernel
theorem dX6_areVersions_30 : decode cX6_areVersions 30 = .ok (.getfield 135, 3) := by decide +kernel
theorem dX6_areVersions_33 : decode cX6_areVersions 33 = .ok (.if_icmp .ge 60, 3) := by decide +kernel
theorem dX6_areVersions_36 : decode cX6_areVersions 36 = .ok (.aload_n 0, 1) := by decide +kernel
theorem dX6_areVersions_37 : decode cX6_areVersions 37 = .ok (.getfield 57, 3) := by decide +kernel
theorem dX6_areVersions_40 : decode cX6_areVersions 40 = .ok (.iload_n 3, 1) := by decide +kernel
theorem dX6_areVersions_41 : decode cX6_areVersions 41 = .ok (.aload_n 0, 1) := by decide +kernel
theorem dX6_areVersions_42 : decode cX6_areVersions 42 = .ok (.getfield 47, 3) := by decide +kernel
theorem dX6_areVersions_45 : decode cX6_areVersions 45 = .ok (.bipush 16, 2) := by decide +kernel
theorem dX6_areVersions_47 : decode cX6_areVersions 47 = .ok (.iload_n 1, 1) := by decide +kernel
theorem dX6_areVersions_48 : decode cX6_areVersions 48 = .ok (.imul, 1) := by decide +kernel
theorem dX6_areVersions_49 : decode cX6_areVersions 49 = .ok (.iload_n 3, 1) := by decide +kernel
theorem dX6_areVersions_50 : decode cX6_areVersions 50 = .ok (.iadd, 1) := by decide +kernel
theorem dX6_areVersions_51 : decode cX6_areVersions 51 = .ok (.iaload, 1) := by decide +kernel
theorem dX6_areVersions_52 : decode cX6_areVersions 52 = .ok (.iastore, 1) := by decide +kernel
theorem dX6_areVersions_53 : decode cX6_areVersions 53 = .ok (.aload_n 0, 1) := by decide +kernel
theorem dX6_areVersions_54 : decode cX6_areVersions 54 = .ok (.getfield 60, 3) := by decide +kernel
theorem dX6_areVersions_57 : decode cX6_areVersions 57 = .ok (.iload_n 3, 1) := by decide +kernel
theorem dX6_areVersions_58 : decode cX6_areVersions 58 = .ok (.aload_n 0, 1) := by decide +kernel
theorem dX6_areVersions_59 : decode cX6_areVersions 59 = .ok (.getfield 50, 3) := by decide +kernel
theorem dX6_areVersions_62 : decode cX6_areVersions 62 = .ok (.bipush 16, 2) := by decide +kernel
theorem dX6_areVersions_64 : decode cX6_areVersions 64 = .ok (.iload_n 1, 1) := by decide +kernel
theorem dX6_areVersions_65 : decode cX6_areVersions 65 = .ok (.imul, 1) := by decide +kernel
theorem dX6_areVersions_66 : decode cX6_areVersions 66 = .ok (.iload_n 3, 1) := by decide +kernel
theorem dX6_areVersions_67 : decode cX6_areVersions 67 = .ok (.iadd, 1) := by decide +kernel
theorem dX6_areVersions_68 : decode cX6_areVersions 68 = .ok (.iaload, 1) := by decide +kernel
theorem dX6_areVersions_69 : decode cX6_areVersions 69 = .ok (.iastore, 1) := by decide +kernel
theorem dX6_areVersions_70 : decode cX6_areVersions 70 = .ok (.aload_n 0, 1) := by decide +kernel
theorem dX6_areVersions_71 : decode cX6_areVersions 71 = .ok (.getfield 63, 3) := by decide +kernel
theorem dX6_areVersions_74 : decode cX6_areVersions 74 = .ok (.iload_n 3, 1) := by decide +kernel
theorem dX6_areVersions_75 : decode cX6_areVersions 75 = .ok (.aload_n 0, 1) := by decide +kernel
theorem dX6_areVersions_76 : decode cX6_areVersions 76 = .ok (.getfield 44, 3) := by decide +kernel
theorem dX6_areVersions_79 : decode cX6_areVersions 79 = .ok (.bipush 16, 2) := by decide +kernel
theorem dX6_areVersions_81 : decode cX6_areVersions 81 = .ok (.iload_n 1, 1) := by decide +kernel
theorem dX6_areVersions_82 : decode cX6_areVersions 82 = .ok (.imul, 1) := by decide +kernel
theorem dX6_areVersions_83 : decode cX6_areVersions 83 = .ok (.iload_n 3, 1) := by decide +kernel
theorem dX6_areVersions_84 : decode cX6_areVersions 84 = .ok (.iadd, 1) := by decide +kernel
theorem dX6_areVersions_85 : decode cX6_areVersions 85 = .ok (.iaload, 1) := by decide +kernel
theorem dX6_areVersions_86 : decode cX6_areVersions 86 = .ok (.iastore, 1) := by decide +kernel
theorem dX6_areVersions_87 : decode cX6_areVersions 87 = .ok (.iinc 3 1, 3) := by decide +kernel
theorem dX6_areVersions_90 : decode cX6_areVersions 90 = .ok (.goto (-62), 3) := by decide +kernel
theorem dX6_areVersions_93 : decode cX6_areVersions 93 = .ok (.aload_n 0, 1) := by decide +kernel
theorem dX6_areVersions_94 : decode cX6_areVersions 94 = .ok (.iload_n 2, 1) := by decide +kernel
theorem dX6_areVersions_95 : decode cX6_areVersions 95 = .ok (.invokevirtual 162, 3) := by decide +kernel
theorem dX6_areVersions_98 : decode cX6_areVersions 98 = .ok (.aload_n 0, 1) := by decide +kernel
theorem dX6_areVersions_99 : decode cX6_areVersions 99 = .ok (.invokevirtual 165, 3) := by decide +kernel
theorem dX6_areVersions_102 : decode cX6_areVersions 102 = .ok (.aload_n 0, 1) := by decide +kernel
theorem dX6_areVersions_103 : decode cX6_areVersions 103 = .ok (.getfield 146, 3) := by decide +kernel
theorem dX6_areVersions_106 : decode cX6_areVersions 106 = .ok (.aload_n 0, 1) := by decide +kernel
theorem dX6_areVersions_107 : decode cX6_areVersions 107 = .ok (.getfield 35, 3) := by decide +kernel
theorem dX6_areVersions_110 : decode cX6_areVersions 110 = .ok (.if_icmp .gt 7, 3) := by decide +kernel
theorem dX6_areVersions_113 : decode cX6_areVersions 113 = .ok (.iconst 1, 1) := by decide +kernel
theorem dX6_areVersions_114 : decode cX6_areVersions 114 = .ok (.goto 4, 3) := by decide +kernel
theorem dX6_areVersions_117 : decode cX6_areVersions 117 = .ok (.iconst 0, 1) := by decide +kernel
theorem dX6_areVersions_118 : decode cX6_areVersions 118 = .ok (.ireturn, 1) := by decide +kernel
theorem dX6_versions_0 : decode cX6_versions 0 = .ok (.aload_n 0, 1) := by decide +kernel
theorem dX6_versions_1 : decode cX6_versions 1 = .ok (.iload_n 1, 1) := by decide +kernel
theorem dX6_versions_2 : decode cX6_versions 2 = .ok (.invokevirtual 168, 3) := by decide +kernel
theorem dX6_versions_5 : decode cX6_versions 5 = .ok (.ifCond .eq 25, 3) := by decide +kernel
theorem dX6_versions_8 : decode cX6_versions 8 = .ok (.aload_n 0, 1) := by decide +kernel
theorem dX6_versions_9 : decode cX6_versions 9 = .ok (.iload_n 2, 1) := by decide +kernel
theorem dX6_versions_10 : decode cX6_versions 10 = .ok (.invokevirtual 168, 3) := by decide +kernel
theorem dX6_versions_13 : decode cX6_versions 13 = .ok (.ifCond .eq 17, 3) := by decide +kernel
theorem dX6_versions_16 : decode cX6_versions 16 = .ok (.iload_n 1, 1) := by decide +kernel
theorem dX6_versions_17 : decode cX6_versions 17 = .ok (.iload_n 2, 1) := by decide +kernel
theorem dX6_versions_18 : decode cX6_versions 18 = .ok (.if_icmp .eq 12, 3) := by decide +kernel
theorem dX6_versions_21 : decode cX6_versions 21 = .ok (.iload_n 3, 1) := by decide +kernel
theorem dX6_versions_22 : decode cX6_versions 22 = .ok (.iconst 0, 1) := by decide +kernel
theorem dX6_versions_23 : decode cX6_versions 23 = .ok (.iconst 1, 1) := by decide +kernel
theorem dX6_versions_24 : decode cX6_versions 24 = .ok (.invokestatic 102, 3) := by decide +kernel
theorem dX6_versions_27 : decode cX6_versions 27 = .ok (.ifCond .ne 5, 3) := by decide +kernel
theorem dX6_versions_30 : decode cX6_versions 30 = .ok (.iconst (-1), 1) := by decide +kernel
theorem dX6_versions_31 : decode cX6_versions 31 = .ok (.ireturn, 1) := by decide +kernel
theorem dX6_versions_32 : decode cX6_versions 32 = .ok (.iload_n 1, 1) := by decide +kernel
theorem dX6_versions_33 : decode cX6_versions 33 = .ok (.iload_n 2, 1) := by decide +kernel
theorem dX6_versions_34 : decode cX6_versions 34 = .ok (.if_icmp .ge 7, 3) := by decide +kernel
theorem dX6_versions_37 : decode cX6_versions 37 = .ok (.iload_n 1, 1) := by decide +kernel
theorem dX6_versions_38 : decode cX6_versions 38 = .ok (.goto 4, 3) := by decide +kernel
theorem dX6_versions_41 : decode cX6_versions 41 = .ok (.iload_n 2, 1) := by decide +kernel
theorem dX6_versions_42 : decode cX6_versions 42 = .ok (.istore 4, 2) := by decide +kernel
theorem dX6_versions_44 : decode cX6_versions 44 = .ok (.iload_n 1, 1) := by decide +kernel
theorem dX6_versions_45 : decode cX6_versions 45 = .ok (.iload_n 2, 1) := by decide +kernel
theorem dX6_versions_46 : decode cX6_versions 46 = .ok (.if_icmp .ge 7, 3) := by decide +kernel
theorem dX6_versions_49 : decode cX6_versions 49 = .ok (.iload_n 2, 1) := by decide +kernel
theorem dX6_versions_50 : decode cX6_versions 50 = .ok (.goto 4, 3) := by decide +kernel
theorem dX6_versions_53 : decode cX6_versions 53 = .ok (.iload_n 1, 1) := by decide +kernel
theorem dX6_versions_54 : decode cX6_versions 54 = .ok (.istore 5, 2) := by decide +kernel
theorem dX6_versions_56 : decode cX6_versions 56 = .ok (.iload_n 3, 1) := by decide +kernel
theorem dX6_versions_57 : decode cX6_versions 57 = .ok (.iconst 1, 1) := by decide +kernel
theorem dX6_versions_58 : decode cX6_versions 58 = .ok (.if_icmp .ne 14, 3) := by decide +kernel
theorem dX6_versions_61 : decode cX6_versions 61 = .ok (.aload_n 0, 1) := by decide +kernel
theorem dX6_versions_62 : decode cX6_versions 62 = .ok (.iload 4, 2) := by decide +kernel
theorem dX6_versions_64 : decode cX6_versions 64 = .ok (.iload 5, 2) := by decide +kernel
theorem dX6_versions_66 : decode cX6_versions 66 = .ok (.invokevirtual 210, 3) := by decide +kernel
theorem dX6_versions_69 : decode cX6_versions 69 = .ok (.goto 19, 3) := by decide +kernel
theorem dX6_versions_72 : decode cX6_versions 72 = .ok (.aload_n 0, 1) := by decide +kernel
theorem dX6_versions_73 : decode cX6_versions 73 = .ok (.iload 4, 2) := by decide +kernel
theorem dX6_versions_75 : decode cX6_versions 75 = .ok (.iload 5, 2) := by decide +kernel
theorem dX6_versions_77 : decode cX6_versions 77 = .ok (.invokevirtual 213, 3) := by decide +kernel
theorem dX6_versions_80 : decode cX6_versions 80 = .ok (.ifCond .eq 7, 3) := by decide +kernel
theorem dX6_versions_83 : decode cX6_versions 83 = .ok (.iconst 1, 1) := by decide +kernel
theorem dX6_versions_84 : decode cX6_versions 84 = .ok (.goto 4, 3) := by decide +kernel
theorem dX6_versions_87 : decode cX6_versions 87 = .ok (.iconst 0, 1) := by decide +kernel
theorem dX6_versions_88 : decode cX6_versions 88 = .ok (.ireturn, 1) := by decide +kernel
theorem dX6_touch_0 : decode cX6_touch 0 = .ok (.aload_n 0, 1) := by decide +kernel
theorem dX6_touch_1 : decode cX6_touch 1 = .ok (.iload_n 1, 1) := by decide +kernel
theorem dX6_touch_2 : decode cX6_touch 2 = .ok (.invokevirtual 113, 3) := by decide +kernel
theorem dX6_touch_5 : decode cX6_touch 5 = .ok (.ifCond .eq 21, 3) := by decide +kernel
theorem dX6_touch_8 : decode cX6_touch 8 = .ok (.iload_n 2, 1) := by decide +kernel
theorem dX6_touch_9 : decode cX6_touch 9 = .ok (.iconst (-1), 1) := by decide +kernel
theorem dX6_touch_10 : decode cX6_touch 10 = .ok (.iconst 4, 1) := by decide +kernel
theorem dX6_touch_11 : decode cX6_touch 11 = .ok (.invokestatic 102, 3) := by decide +kernel
theorem dX6_touch_14 : decode cX6_touch 14 = .ok (.ifCond .eq 12, 3) := by decide +kernel
theorem dX6_touch_17 : decode cX6_touch 17 = .ok (.aload_n 0, 1) := by decide +kernel
theorem dX6_touch_18 : decode cX6_touch 18 = .ok (.getfield 7, 3) := by decide +kernel
theorem dX6_touch_21 : decode cX6_touch 21 = .ok (.iload_n 1, 1) := by decide +kernel
theorem dX6_touch_22 : decode cX6_touch 22 = .ok (.iaload, 1) := by decide +kernel
theorem dX6_touch_23 : decode cX6_touch 23 = .ok (.ifCond .ne 5, 3) := by decide +kernel
theorem dX6_touch_26 : decode cX6_touch 26 = .ok (.iconst (-1), 1) := by decide +kernel
theorem dX6_touch_27 : decode cX6_touch 27 = .ok (.ireturn, 1) := by decide +kernel
theorem dX6_touch_28 : decode cX6_touch 28 = .ok (.iconst 0, 1) := by decide +kernel
theorem dX6_touch_29 : decode cX6_touch 29 = .ok (.istore_n 3, 1) := by decide +kernel
theorem dX6_touch_30 : decode cX6_touch 30 = .ok (.iload_n 3, 1) := by decide +kernel
theorem dX6_touch_31 : decode cX6_touch 31 = .ok (.aload_n 0, 1) := by decide +kernel
theorem dX6_touch_32 : decode cX6_touch 32 = .ok (.getfield 99, 3) := by decide +kernel
theorem dX6_touch_35 : decode cX6_touch 35 = .ok (.if_icmp .ge 20, 3) := by decide +kernel
theorem dX6_touch_38 : decode cX6_touch 38 = .ok (.aload_n 0, 1) := by decide +kernel
theorem dX6_touch_39 : decode cX6_touch 39 = .ok (.getfield 96, 3) := by decide +kernel
theorem dX6_touch_42 : decode cX6_touch 42 = .ok (.iload_n 3, 1) := by decide +kernel
theorem dX6_touch_43 : decode cX6_touch 43 = .ok (.aload_n 0, 1) := by decide +kernel
theorem dX6_touch_44 : decode cX6_touch 44 = .ok (.iload_n 3, 1) := by decide +kernel
theorem dX6_touch_45 : decode cX6_touch 45 = .ok (.invokevirtual 192, 3) := by decide +kernel
theorem dX6_touch_48 : decode cX6_touch 48 = .ok (.iastore, 1) := by decide +kernel
theorem dX6_touch_49 : decode cX6_touch 49 = .ok (.iinc 3 1, 3) := by decide +kernel
theorem dX6_touch_52 : decode cX6_touch 52 = .ok (.goto (-22), 3) := by decide +kernel
theorem dX6_touch_55 : decode cX6_touch 55 = .ok (.aload_n 0, 1) := by decide +kernel
theorem dX6_touch_56 : decode cX6_touch 56 = .ok (.getfield 22, 3) := by decide +kernel
theorem dX6_touch_59 : decode cX6_touch 59 = .ok (.iload_n 1, 1) := by decide +kernel
theorem dX6_touch_60 : decode cX6_touch 60 = .ok (.iaload, 1) := by decide +kernel
theorem dX6_touch_61 : decode cX6_touch 61 = .ok (.istore_n 3, 1) := by decide +kernel
theorem dX6_touch_62 : decode cX6_touch 62 = .ok (.aload_n 0, 1) := by decide +kernel
theorem dX6_touch_63 : decode cX6_touch 63 = .ok (.getfield 22, 3) := by decide +kernel
theorem dX6_touch_66 : decode cX6_touch 66 = .ok (.iload_n 1, 1) := by decide +kernel
theorem dX6_touch_67 : decode cX6_touch 67 = .ok (.iload_n 2, 1) := by decide +kernel
theorem dX6_touch_68 : decode cX6_touch 68 = .ok (.iastore, 1) := by decide +kernel
theorem dX6_touch_69 : decode cX6_touch 69 = .ok (.aload_n 0, 1) := by decide +kernel
theorem dX6_touch_70 : decode cX6_touch 70 = .ok (.invokevirtual 110, 3) := by decide +kernel
theorem dX6_touch_73 : decode cX6_touch 73 = .ok (.iconst 0, 1) := by decide +kernel
theorem dX6_touch_74 : decode cX6_touch 74 = .ok (.istore 4, 2) := by decide +kernel
theorem dX6_touch_76 : decode cX6_touch 76 = .ok (.iconst 0, 1) := by decide +kernel
theorem dX6_touch_77 : decode cX6_touch 77 = .ok (.istore 5, 2) := by decide +kernel
theorem dX6_touch_79 : decode cX6_touch 79 = .ok (.iload 5, 2) := by decide +kernel
theorem dX6_touch_81 : decode cX6_touch 81 = .ok (.aload_n 0, 1) := by decide +kernel
theorem dX6_touch_82 : decode cX6_touch 82 = .ok (.getfield 99, 3) := by decide +kernel
theorem dX6_touch_85 : decode cX6_touch 85 = .ok (.if_icmp .ge 35, 3) := by decide +kernel
theorem dX6_touch_88 : decode cX6_touch 88 = .ok (.iload 4, 2) := by decide +kernel
theorem dX6_touch_90 : decode cX6_touch 90 = .ok (.aload_n 0, 1) := by decide +kernel
theorem dX6_touch_91 : decode cX6_touch 91 = .ok (.iload 5, 2) := by decide +kernel
theorem dX6_touch_93 : decode cX6_touch 93 = .ok (.invokevirtual 192, 3) := by decide +kernel
theorem dX6_touch_96 : decode cX6_touch 96 = .ok (.aload_n 0, 1) := by decide +kernel
theorem dX6_touch_97 : decode cX6_touch 97 = .ok (.getfield 96, 3) := by decide +kernel
theorem dX6_touch_100 : decode cX6_touch 100 = .ok (.iload 5, 2) := by decide +kernel
theorem dX6_touch_102 : decode cX6_touch 102 = .ok (.iaload, 1) := by decide +kernel
theorem dX6_touch_103 : decode cX6_touch 103 = .ok (.if_icmp .eq 7, 3) := by decide +kernel
theorem dX6_touch_106 : decode cX6_touch 106 = .ok (.iconst 1, 1) := by decide +kernel
theorem dX6_touch_107 : decode cX6_touch 107 = .ok (.goto 4, 3) := by decide +kernel
theorem dX6_touch_110 : decode cX6_touch 110 = .ok (.iconst 0, 1) := by decide +kernel
theorem dX6_touch_111 : decode cX6_touch 111 = .ok (.iadd, 1) := by decide +kernel
theorem dX6_touch_112 : decode cX6_touch 112 = .ok (.istore 4, 2) := by decide +kernel
theorem dX6_touch_114 : decode cX6_touch 114 = .ok (.iinc 5 1, 3) := by decide +kernel
theorem dX6_touch_117 : decode cX6_touch 117 = .ok (.goto (-38), 3) := by decide +kernel
theorem dX6_touch_120 : decode cX6_touch 120 = .ok (.aload_n 0, 1) := by decide +kernel
theorem dX6_touch_121 : decode cX6_touch 121 = .ok (.getfield 22, 3) := by decide +kernel
theorem dX6_touch_124 : decode cX6_touch 124 = .ok (.iload_n 1, 1) := by decide +kernel
theorem dX6_touch_125 : decode cX6_touch 125 = .ok (.iload_n 3, 1) := by decide +kernel
theorem dX6_touch_126 : decode cX6_touch 126 = .ok (.iastore, 1) := by decide +kernel
theorem dX6_touch_127 : decode cX6_touch 127 = .ok (.aload_n 0, 1) := by decide +kernel
theorem dX6_touch_128 : decode cX6_touch 128 = .ok (.invokevirtual 110, 3) := by decide +kernel
theorem dX6_touch_131 : decode cX6_touch 131 = .ok (.iload 4, 2) := by decide +kernel
theorem dX6_touch_133 : decode cX6_touch 133 = .ok (.ireturn, 1) := by decide +kernel
