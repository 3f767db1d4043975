theorem dX6_init_0 : decode cX6_init 0 = .ok (.aload_n 0, 1) := by decide +kernel
theorem dX6_init_1 : decode cX6_init 1 = .ok (.invokespecial 1, 3) := by decide +kernel
theorem dX6_init_4 : decode cX6_init 4 = .ok (.aload_n 0, 1) := by decide +kernel
theorem dX6_init_5 : decode cX6_init 5 = .ok (.iconst 2, 1) := by decide +kernel
theorem dX6_init_6 : decode cX6_init 6 = .ok (.newarray .int, 2) := by decide +kernel
theorem dX6_init_8 : decode cX6_init 8 = .ok (.putfield 7, 3) := by decide +kernel
theorem dX6_init_11 : decode cX6_init 11 = .ok (.aload_n 0, 1) := by decide +kernel
theorem dX6_init_12 : decode cX6_init 12 = .ok (.bipush 110, 2) := by decide +kernel
theorem dX6_init_14 : decode cX6_init 14 = .ok (.newarray .int, 2) := by decide +kernel
theorem dX6_init_16 : decode cX6_init 16 = .ok (.putfield 13, 3) := by decide +kernel
theorem dX6_init_19 : decode cX6_init 19 = .ok (.aload_n 0, 1) := by decide +kernel
theorem dX6_init_20 : decode cX6_init 20 = .ok (.bipush 9, 2) := by decide +kernel
theorem dX6_init_22 : decode cX6_init 22 = .ok (.newarray .int, 2) := by decide +kernel
theorem dX6_init_24 : decode cX6_init 24 = .ok (.putfield 16, 3) := by decide +kernel
theorem dX6_init_27 : decode cX6_init 27 = .ok (.aload_n 0, 1) := by decide +kernel
theorem dX6_init_28 : decode cX6_init 28 = .ok (.bipush 9, 2) := by decide +kernel
theorem dX6_init_30 : decode cX6_init 30 = .ok (.newarray .int, 2) := by decide +kernel
theorem dX6_init_32 : decode cX6_init 32 = .ok (.putfield 19, 3) := by decide +kernel
theorem dX6_init_35 : decode cX6_init 35 = .ok (.aload_n 0, 1) := by decide +kernel
theorem dX6_init_36 : decode cX6_init 36 = .ok (.bipush 9, 2) := by decide +kernel
theorem dX6_init_38 : decode cX6_init 38 = .ok (.newarray .int, 2) := by decide +kernel
theorem dX6_init_40 : decode cX6_init 40 = .ok (.putfield 22, 3) := by decide +kernel
theorem dX6_init_43 : decode cX6_init 43 = .ok (.aload_n 0, 1) := by decide +kernel
theorem dX6_init_44 : decode cX6_init 44 = .ok (.bipush 9, 2) := by decide +kernel
theorem dX6_init_46 : decode cX6_init 46 = .ok (.newarray .int, 2) := by decide +kernel
theorem dX6_init_48 : decode cX6_init 48 = .ok (.putfield 25, 3) := by decide +kernel
theorem dX6_init_51 : decode cX6_init 51 = .ok (.aload_n 0, 1) := by decide +kernel
theorem dX6_init_52 : decode cX6_init 52 = .ok (.bipush 27, 2) := by decide +kernel
theorem dX6_init_54 : decode cX6_init 54 = .ok (.newarray .int, 2) := by decide +kernel
theorem dX6_init_56 : decode cX6_init 56 = .ok (.putfield 28, 3) := by decide +kernel
theorem dX6_init_59 : decode cX6_init 59 = .ok (.aload_n 0, 1) := by decide +kernel
theorem dX6_init_60 : decode cX6_init 60 = .ok (.bipush 40, 2) := by decide +kernel
theorem dX6_init_62 : decode cX6_init 62 = .ok (.newarray .int, 2) := by decide +kernel
theorem dX6_init_64 : decode cX6_init 64 = .ok (.putfield 31, 3) := by decide +kernel
theorem dX6_init_67 : decode cX6_init 67 = .ok (.aload_n 0, 1) := by decide +kernel
theorem dX6_init_68 : decode cX6_init 68 = .ok (.iconst 3, 1) := by decide +kernel
theorem dX6_init_69 : decode cX6_init 69 = .ok (.newarray .int, 2) := by decide +kernel
theorem dX6_init_71 : decode cX6_init 71 = .ok (.putfield 34, 3) := by decide +kernel
theorem dX6_init_74 : decode cX6_init 74 = .ok (.aload_n 0, 1) := by decide +kernel
theorem dX6_init_75 : decode cX6_init 75 = .ok (.bipush 6, 2) := by decide +kernel
theorem dX6_init_77 : decode cX6_init 77 = .ok (.newarray .int, 2) := by decide +kernel
theorem dX6_init_79 : decode cX6_init 79 = .ok (.putfield 37, 3) := by decide +kernel
theorem dX6_init_82 : decode cX6_init 82 = .ok (.aload_n 0, 1) := by decide +kernel
theorem dX6_init_83 : decode cX6_init 83 = .ok (.bipush 6, 2) := by decide +kernel
theorem dX6_init_85 : decode cX6_init 85 = .ok (.newarray .int, 2) := by decide +kernel
theorem dX6_init_87 : decode cX6_init 87 = .ok (.putfield 40, 3) := by decide +kernel
theorem dX6_init_90 : decode cX6_init 90 = .ok (.aload_n 0, 1) := by decide +kernel
theorem dX6_init_91 : decode cX6_init 91 = .ok (.bipush 6, 2) := by decide +kernel
theorem dX6_init_93 : decode cX6_init 93 = .ok (.newarray .int, 2) := by decide +kernel
theorem dX6_init_95 : decode cX6_init 95 = .ok (.putfield 43, 3) := by decide +kernel
theorem dX6_init_98 : decode cX6_init 98 = .ok (.aload_n 0, 1) := by decide +kernel
theorem dX6_init_99 : decode cX6_init 99 = .ok (.bipush 6, 2) := by decide +kernel
theorem dX6_init_101 : decode cX6_init 101 = .ok (.newarray .int, 2) := by decide +kernel
theorem dX6_init_103 : decode cX6_init 103 = .ok (.putfield 46, 3) := by decide +kernel
theorem dX6_init_106 : decode cX6_init 106 = .ok (.aload_n 0, 1) := by decide +kernel
theorem dX6_init_107 : decode cX6_init 107 = .ok (.bipush 6, 2) := by decide +kernel
theorem dX6_init_109 : decode cX6_init 109 = .ok (.newarray .int, 2) := by decide +kernel
theorem dX6_init_111 : decode cX6_init 111 = .ok (.putfield 49, 3) := by decide +kernel
theorem dX6_init_114 : decode cX6_init 114 = .ok (.aload_n 0, 1) := by decide +kernel
theorem dX6_init_115 : decode cX6_init 115 = .ok (.bipush 40, 2) := by decide +kernel
theorem dX6_init_117 : decode cX6_init 117 = .ok (.newarray .int, 2) := by decide +kernel
theorem dX6_init_119 : decode cX6_init 119 = .ok (.putfield 52, 3) := by decide +kernel
theorem dX6_init_122 : decode cX6_init 122 = .ok (.aload_n 0, 1) := by decide +kernel
theorem dX6_init_123 : decode cX6_init 123 = .ok (.bipush 8, 2) := by decide +kernel
theorem dX6_init_125 : decode cX6_init 125 = .ok (.newarray .int, 2) := by decide +kernel
theorem dX6_init_127 : decode cX6_init 127 = .ok (.putfield 55, 3) := by decide +kernel
theorem dX6_init_130 : decode cX6_init 130 = .ok (.aload_n 0, 1) := by decide +kernel
theorem dX6_init_131 : decode cX6_init 131 = .ok (.bipush 40, 2) := by decide +kernel
theorem dX6_init_133 : decode cX6_init 133 = .ok (.newarray .int, 2) := by decide +kernel
theorem dX6_init_135 : decode cX6_init 135 = .ok (.putfield 58, 3) := by decide +kernel
theorem dX6_init_138 : decode cX6_init 138 = .ok (.aload_n 0, 1) := by decide +kernel
theorem dX6_init_139 : decode cX6_init 139 = .ok (.bipush 40, 2) := by decide +kernel
theorem dX6_init_141 : decode cX6_init 141 = .ok (.newarray .int, 2) := by decide +kernel
theorem dX6_init_143 : decode cX6_init 143 = .ok (.putfield 61, 3) := by decide +kernel
theorem dX6_init_146 : decode cX6_init 146 = .ok (.aload_n 0, 1) := by decide +kernel
theorem dX6_init_147 : decode cX6_init 147 = .ok (.bipush 40, 2) := by decide +kernel
theorem dX6_init_149 : decode cX6_init 149 = .ok (.newarray .int, 2) := by decide +kernel
theorem dX6_init_151 : decode cX6_init 151 = .ok (.putfield 64, 3) := by decide +kernel
theorem dX6_init_154 : decode cX6_init 154 = .ok (.aload_n 0, 1) := by decide +kernel
theorem dX6_init_155 : decode cX6_init 155 = .ok (.bipush 40, 2) := by decide +kernel
theorem dX6_init_157 : decode cX6_init 157 = .ok (.newarray .int, 2) := by decide +kernel
theorem dX6_init_159 : decode cX6_init 159 = .ok (.putfield 67, 3) := by decide +kernel
theorem dX6_init_162 : decode cX6_init 162 = .ok (.aload_n 0, 1) := by decide +kernel
theorem dX6_init_163 : decode cX6_init 163 = .ok (.sipush 320, 3) := by decide +kernel
theorem dX6_init_166 : decode cX6_init 166 = .ok (.newarray .int, 2) := by decide +kernel
theorem dX6_init_168 : decode cX6_init 168 = .ok (.putfield 70, 3) := by decide +kernel
theorem dX6_init_171 : decode cX6_init 171 = .ok (.aload_n 0, 1) := by decide +kernel
theorem dX6_init_172 : decode cX6_init 172 = .ok (.bipush 8, 2) := by decide +kernel
theorem dX6_init_174 : decode cX6_init 174 = .ok (.newarray .int, 2) := by decide +kernel
theorem dX6_init_176 : decode cX6_init 176 = .ok (.putfield 73, 3) := by decide +kernel
theorem dX6_init_179 : decode cX6_init 179 = .ok (.aload_n 0, 1) := by decide +kernel
theorem dX6_init_180 : decode cX6_init 180 = .ok (.bipush 8, 2) := by decide +kernel
theorem dX6_init_182 : decode cX6_init 182 = .ok (.newarray .int, 2) := by decide +kernel
theorem dX6_init_184 : decode cX6_init 184 = .ok (.putfield 76, 3) := by decide +kernel
theorem dX6_init_187 : decode cX6_init 187 = .ok (.aload_n 0, 1) := by decide +kernel
theorem dX6_init_188 : decode cX6_init 188 = .ok (.bipush 8, 2) := by decide +kernel
theorem dX6_init_190 : decode cX6_init 190 = .ok (.newarray .int, 2) := by decide +kernel
theorem dX6_init_192 : decode cX6_init 192 = .ok (.putfield 79, 3) := by decide +kernel
theorem dX6_init_195 : decode cX6_init 195 = .ok (.aload_n 0, 1) := by decide +kernel
theorem dX6_init_196 : decode cX6_init 196 = .ok (.sipush 400, 3) := by decide +kernel
theorem dX6_init_199 : decode cX6_init 199 = .ok (.newarray .int, 2) := by decide +kernel
theorem dX6_init_201 : decode cX6_init 201 = .ok (.putfield 82, 3) := by decide +kernel
theorem dX6_init_204 : decode cX6_init 204 = .ok (.aload_n 0, 1) := by decide +kernel
theorem dX6_init_205 : decode cX6_init 205 = .ok (.iconst 4, 1) := by decide +kernel
theorem dX6_init_206 : decode cX6_init 206 = .ok (.newarray .boolean, 2) := by decide +kernel
theorem dX6_init_208 : decode cX6_init 208 = .ok (.putfield 85, 3) := by decide +kernel
theorem dX6_init_211 : decode cX6_init 211 = .ok (.aload_n 0, 1) := by decide +kernel
theorem dX6_init_212 : decode cX6_init 212 = .ok (.iconst 4, 1) := by decide +kernel
theorem dX6_init_213 : decode cX6_init 213 = .ok (.newarray .int, 2) := by decide +kernel
theorem dX6_init_215 : decode cX6_init 215 = .ok (.putfield 89, 3) := by decide +kernel
theorem dX6_init_218 : decode cX6_init 218 = .ok (.aload_n 0, 1) := by decide +kernel
theorem dX6_init_219 : decode cX6_init 219 = .ok (.iconst 4, 1) := by decide +kernel
theorem dX6_init_220 : decode cX6_init 220 = .ok (.newarray .int, 2) := by decide +kernel
theorem dX6_init_222 : decode cX6_init 222 = .ok (.putfield 92, 3) := by decide +kernel
theorem dX6_init_225 : decode cX6_init 225 = .ok (.aload_n 0, 1) := by decide +kernel
theorem dX6_init_226 : decode cX6_init 226 = .ok (.sipush 240, 3) := by decide +kernel
theorem dX6_init_229 : decode cX6_init 229 = .ok (.newarray .int, 2) := by decide +kernel
theorem dX6_init_231 : decode cX6_init 231 = .ok (.putfield 95, 3) := by decide +kernel
theorem dX6_init_234 : decode cX6_init 234 = .ok (.aload_n 0, 1) := by decide +kernel
theorem dX6_init_235 : decode cX6_init 235 = .ok (.bipush 60, 2) := by decide +kernel
theorem dX6_init_237 : decode cX6_init 237 = .ok (.newarray .int, 2) := by decide +kernel
theorem dX6_init_239 : decode cX6_init 239 = .ok (.putfield 98, 3) := by decide +kernel
theorem dX6_init_242 : decode cX6_init 242 = .ok (.aload_n 0, 1) := by decide +kernel
theorem dX6_init_243 : decode cX6_init 243 = .ok (.getfield 34, 3) := by decide +kernel
theorem dX6_init_246 : decode cX6_init 246 = .ok (.iconst 0, 1) := by decide +kernel
theorem dX6_init_247 : decode cX6_init 247 = .ok (.bipush 30, 2) := by decide +kernel
theorem dX6_init_249 : decode cX6_init 249 = .ok (.iastore, 1) := by decide +kernel
theorem dX6_init_250 : decode cX6_init 250 = .ok (.aload_n 0, 1) := by decide +kernel
theorem dX6_init_251 : decode cX6_init 251 = .ok (.getfield 34, 3) := by decide +kernel
theorem dX6_init_254 : decode cX6_init 254 = .ok (.iconst 1, 1) := by decide +kernel
theorem dX6_init_255 : decode cX6_init 255 = .ok (.bipush 60, 2) := by decide +kernel
theorem dX6_init_257 : decode cX6_init 257 = .ok (.iastore, 1) := by decide +kernel
theorem dX6_init_258 : decode cX6_init 258 = .ok (.aload_n 0, 1) := by decide +kernel
theorem dX6_init_259 : decode cX6_init 259 = .ok (.getfield 34, 3) := by decide +kernel
theorem dX6_init_262 : decode cX6_init 262 = .ok (.iconst 2, 1) := by decide +kernel
theorem dX6_init_263 : decode cX6_init 263 = .ok (.iconst 4, 1) := by decide +kernel
theorem dX6_init_264 : decode cX6_init 264 = .ok (.iastore, 1) := by decide +kernel
theorem dX6_init_265 : decode cX6_init 265 = .ok (.return_, 1) := by decide +kernel
theorem dX6_in_0 : decode cX6_in 0 = .ok (.iload_n 0, 1) := by decide +kernel
theorem dX6_in_1 : decode cX6_in 1 = .ok (.iload_n 1, 1) := by decide +kernel
theorem dX6_in_2 : decode cX6_in 2 = .ok (.if_icmp .lt 12, 3) := by decide +kernel
theorem dX6_in_5 : decode cX6_in 5 = .ok (.iload_n 0, 1) := by decide +kernel
theorem dX6_in_6 : decode cX6_in 6 = .ok (.iload_n 2, 1) := by decide +kernel
theorem dX6_in_7 : decode cX6_in 7 = .ok (.if_icmp .gt 7, 3) := by decide +kernel
theorem dX6_in_10 : decode cX6_in 10 = .ok (.iconst 1, 1) := by decide +kernel
theorem dX6_in_11 : decode cX6_in 11 = .ok (.goto 4, 3) := by decide +kernel
theorem dX6_in_14 : decode cX6_in 14 = .ok (.iconst 0, 1) := by decide +kernel
theorem dX6_in_15 : decode cX6_in 15 = .ok (.ireturn, 1) := by decide +kernel
theorem dX6_isIn_0 : decode cX6_isIn 0 = .ok (.iload_n 0, 1) := by decide +kernel
theorem dX6_isIn_1 : decode cX6_isIn 1 = .ok (.iload_n 1, 1) := by decide +kernel
theorem dX6_isIn_2 : decode cX6_isIn 2 = .ok (.ishr, 1) := by decide +kernel
theorem dX6_isIn_3 : decode cX6_isIn 3 = .ok (.iconst 1, 1) := by decide +kernel
theorem dX6_isIn_4 : decode cX6_isIn 4 = .ok (.iand, 1) := by decide +kernel
theorem dX6_isIn_5 : decode cX6_isIn 5 = .ok (.iconst 1, 1) := by decide +kernel
theorem dX6_isIn_6 : decode cX6_isIn 6 = .ok (.if_icmp .ne 7, 3) := by decide +kernel
theorem dX6_isIn_9 : decode cX6_isIn 9 = .ok (.iconst 1, 1) := by decide +kernel
theorem dX6_isIn_10 : decode cX6_isIn 10 = .ok (.goto 4, 3) := by decide +kernel
theorem dX6_isIn_13 : decode cX6_isIn 13 = .ok (.iconst 0, 1) := by decide +kernel
theorem dX6_isIn_14 : decode cX6_isIn 14 = .ok (.ireturn, 1) := by decide +kernel
theorem dX6_no_0 : decode cX6_no 0 = .ok (.ldc2_w 101, 3) := by decide +kernel
theorem dX6_no_3 : decode cX6_no 3 = .ok (.iload_n 0, 1) := by decide +kernel
theorem dX6_no_4 : decode cX6_no 4 = .ok (.i2l, 1) := by decide +kernel
theorem dX6_no_5 : decode cX6_no 5 = .ok (.lsub, 1) := by decide +kernel
theorem dX6_no_6 : decode cX6_no 6 = .ok (.lreturn, 1) := by decide +kernel
theorem dX6_lowest_0 : decode cX6_lowest 0 = .ok (.lload_n 0, 1) := by decide +kernel
theorem dX6_lowest_1 : decode cX6_lowest 1 = .ok (.lstore 5, 2) := by decide +kernel
theorem dX6_lowest_3 : decode cX6_lowest 3 = .ok (.lload_n 2, 1) := by decide +kernel
theorem dX6_lowest_4 : decode cX6_lowest 4 = .ok (.lstore 7, 2) := by decide +kernel
theorem dX6_lowest_6 : decode cX6_lowest 6 = .ok (.lload 7, 2) := by decide +kernel
theorem dX6_lowest_8 : decode cX6_lowest 8 = .ok (.lconst 0, 1) := by decide +kernel
theorem dX6_lowest_9 : decode cX6_lowest 9 = .ok (.lcmp, 1) := by decide +kernel
theorem dX6_lowest_10 : decode cX6_lowest 10 = .ok (.ifCond .eq 21, 3) := by decide +kernel
theorem dX6_lowest_13 : decode cX6_lowest 13 = .ok (.lload 5, 2) := by decide +kernel
theorem dX6_lowest_15 : decode cX6_lowest 15 = .ok (.lload 7, 2) := by decide +kernel
theorem dX6_lowest_17 : decode cX6_lowest 17 = .ok (.lrem, 1) := by decide +kernel
theorem dX6_lowest_18 : decode cX6_lowest 18 = .ok (.lstore 9, 2) := by decide +kernel
theorem dX6_lowest_20 : decode cX6_lowest 20 = .ok (.lload 7, 2) := by decide +kernel
theorem dX6_lowest_22 : decode cX6_lowest 22 = .ok (.lstore 5, 2) := by decide +kernel
theorem dX6_lowest_24 : decode cX6_lowest 24 = .ok (.lload 9, 2) := by decide +kernel
theorem dX6_lowest_26 : decode cX6_lowest 26 = .ok (.lstore 7, 2) := by decide +kernel
theorem dX6_lowest_28 : decode cX6_lowest 28 = .ok (.goto (-22), 3) := by decide +kernel
theorem dX6_lowest_31 : decode cX6_lowest 31 = .ok (.iload 4, 2) := by decide +kernel
theorem dX6_lowest_33 : decode cX6_lowest 33 = .ok (.ifCond .ne 10, 3) := by decide +kernel
theorem dX6_lowest_36 : decode cX6_lowest 36 = .ok (.lload_n 0, 1) := by decide +kernel
theorem dX6_lowest_37 : decode cX6_lowest 37 = .ok (.lload 5, 2) := by decide +kernel
theorem dX6_lowest_39 : decode cX6_lowest 39 = .ok (.ldiv, 1) := by decide +kernel
theorem dX6_lowest_40 : decode cX6_lowest 40 = .ok (.goto 7, 3) := by decide +kernel
theorem dX6_lowest_43 : decode cX6_lowest 43 = .ok (.lload_n 2, 1) := by decide +kernel
theorem dX6_lowest_44 : decode cX6_lowest 44 = .ok (.lload 5, 2) := by decide +kernel
theorem dX6_lowest_46 : decode cX6_lowest 46 = .ok (.ldiv, 1) := by decide +kernel
theorem dX6_lowest_47 : decode cX6_lowest 47 = .ok (.lreturn, 1) := by decide +kernel
theorem dX6_isText_0 : decode cX6_isText 0 = .ok (.iload_n 0, 1) := by decide +kernel
theorem dX6_isText_1 : decode cX6_isText 1 = .ok (.iconst 0, 1) := by decide +kernel
theorem dX6_isText_2 : decode cX6_isText 2 = .ok (.iconst 1, 1) := by decide +kernel
theorem dX6_isText_3 : decode cX6_isText 3 = .ok (.invokestatic 103, 3) := by decide +kernel
theorem dX6_isText_6 : decode cX6_isText 6 = .ok (.ireturn, 1) := by decide +kernel
theorem dX6_isHour_0 : decode cX6_isHour 0 = .ok (.iload_n 0, 1) := by decide +kernel
theorem dX6_isHour_1 : decode cX6_isHour 1 = .ok (.iconst 0, 1) := by decide +kernel
theorem dX6_isHour_2 : decode cX6_isHour 2 = .ok (.bipush 39, 2) := by decide +kernel
theorem dX6_isHour_4 : decode cX6_isHour 4 = .ok (.invokestatic 103, 3) := by decide +kernel
theorem dX6_isHour_7 : decode cX6_isHour 7 = .ok (.ireturn, 1) := by decide +kernel
theorem dX6_type_0 : decode cX6_type 0 = .ok (.iload_n 1, 1) := by decide +kernel
theorem dX6_type_1 : decode cX6_type 1 = .ok (.invokestatic 107, 3) := by decide +kernel
theorem dX6_type_4 : decode cX6_type 4 = .ok (.ifCond .eq 14, 3) := by decide +kernel
theorem dX6_type_7 : decode cX6_type 7 = .ok (.iload_n 2, 1) := by decide +kernel
theorem dX6_type_8 : decode cX6_type 8 = .ok (.iconst 0, 1) := by decide +kernel
theorem dX6_type_9 : decode cX6_type 9 = .ok (.sipush 255, 3) := by decide +kernel
theorem dX6_type_12 : decode cX6_type 12 = .ok (.invokestatic 103, 3) := by decide +kernel
theorem dX6_type_15 : decode cX6_type 15 = .ok (.ifCond .ne 6, 3) := by decide +kernel
theorem dX6_type_18 : decode cX6_type 18 = .ok (.bipush (-2), 2) := by decide +kernel
theorem dX6_type_20 : decode cX6_type 20 = .ok (.ireturn, 1) := by decide +kernel
theorem dX6_type_21 : decode cX6_type 21 = .ok (.aload_n 0, 1) := by decide +kernel
theorem dX6_type_22 : decode cX6_type 22 = .ok (.getfield 7, 3) := by decide +kernel
theorem dX6_type_25 : decode cX6_type 25 = .ok (.iload_n 1, 1) := by decide +kernel
theorem dX6_type_26 : decode cX6_type 26 = .ok (.iaload, 1) := by decide +kernel
theorem dX6_type_27 : decode cX6_type 27 = .ok (.iload_n 1, 1) := by decide +kernel
theorem dX6_type_28 : decode cX6_type 28 = .ok (.ifCond .ne 8, 3) := by decide +kernel
theorem dX6_type_31 : decode cX6_type 31 = .ok (.bipush 55, 2) := by decide +kernel
theorem dX6_type_33 : decode cX6_type 33 = .ok (.goto 5, 3) := by decide +kernel
theorem dX6_type_36 : decode cX6_type 36 = .ok (.bipush 40, 2) := by decide +kernel
theorem dX6_type_38 : decode cX6_type 38 = .ok (.if_icmp .ne 6, 3) := by decide +kernel
theorem dX6_type_41 : decode cX6_type 41 = .ok (.bipush (-4), 2) := by decide +kernel
theorem dX6_type_43 : decode cX6_type 43 = .ok (.ireturn, 1) := by decide +kernel
theorem dX6_type_44 : decode cX6_type 44 = .ok (.aload_n 0, 1) := by decide +kernel
theorem dX6_type_45 : decode cX6_type 45 = .ok (.getfield 13, 3) := by decide +kernel
theorem dX6_type_48 : decode cX6_type 48 = .ok (.bipush 55, 2) := by decide +kernel
theorem dX6_type_50 : decode cX6_type 50 = .ok (.iload_n 1, 1) := by decide +kernel
theorem dX6_type_51 : decode cX6_type 51 = .ok (.imul, 1) := by decide +kernel
theorem dX6_type_52 : decode cX6_type 52 = .ok (.aload_n 0, 1) := by decide +kernel
theorem dX6_type_53 : decode cX6_type 53 = .ok (.getfield 7, 3) := by decide +kernel
theorem dX6_type_56 : decode cX6_type 56 = .ok (.iload_n 1, 1) := by decide +kernel
theorem dX6_type_57 : decode cX6_type 57 = .ok (.iaload, 1) := by decide +kernel
theorem dX6_type_58 : decode cX6_type 58 = .ok (.iadd, 1) := by decide +kernel
theorem dX6_type_59 : decode cX6_type 59 = .ok (.iload_n 2, 1) := by decide +kernel
theorem dX6_type_60 : decode cX6_type 60 = .ok (.iastore, 1) := by decide +kernel
theorem dX6_type_61 : decode cX6_type 61 = .ok (.aload_n 0, 1) := by decide +kernel
theorem dX6_type_62 : decode cX6_type 62 = .ok (.getfield 7, 3) := by decide +kernel
theorem dX6_type_65 : decode cX6_type 65 = .ok (.iload_n 1, 1) := by decide +kernel
theorem dX6_type_66 : decode cX6_type 66 = .ok (.dup2, 1) := by decide +kernel
theorem dX6_type_67 : decode cX6_type 67 = .ok (.iaload, 1) := by decide +kernel
theorem dX6_type_68 : decode cX6_type 68 = .ok (.iconst 1, 1) := by decide +kernel
theorem dX6_type_69 : decode cX6_type 69 = .ok (.iadd, 1) := by decide +kernel
theorem dX6_type_70 : decode cX6_type 70 = .ok (.iastore, 1) := by decide +kernel
theorem dX6_type_71 : decode cX6_type 71 = .ok (.aload_n 0, 1) := by decide +kernel
theorem dX6_type_72 : decode cX6_type 72 = .ok (.getfield 7, 3) := by decide +kernel
theorem dX6_type_75 : decode cX6_type 75 = .ok (.iload_n 1, 1) := by decide +kernel
theorem dX6_type_76 : decode cX6_type 76 = .ok (.iaload, 1) := by decide +kernel
theorem dX6_type_77 : decode cX6_type 77 = .ok (.ireturn, 1) := by decide +kernel
theorem dX6_wipe_0 : decode cX6_wipe 0 = .ok (.iload_n 1, 1) := by decide +kernel
theorem dX6_wipe_1 : decode cX6_wipe 1 = .ok (.invokestatic 107, 3) := by decide +kernel
theorem dX6_wipe_4 : decode cX6_wipe 4 = .ok (.ifCond .ne 6, 3) := by decide +kernel
theorem dX6_wipe_7 : decode cX6_wipe 7 = .ok (.bipush (-2), 2) := by decide +kernel
theorem dX6_wipe_9 : decode cX6_wipe 9 = .ok (.ireturn, 1) := by decide +kernel
theorem dX6_wipe_10 : decode cX6_wipe 10 = .ok (.aload_n 0, 1) := by decide +kernel
theorem dX6_wipe_11 : decode cX6_wipe 11 = .ok (.getfield 7, 3) := by decide +kernel
theorem dX6_wipe_14 : decode cX6_wipe 14 = .ok (.iload_n 1, 1) := by decide +kernel
theorem dX6_wipe_15 : decode cX6_wipe 15 = .ok (.iaload, 1) := by decide +kernel
theorem dX6_wipe_16 : decode cX6_wipe 16 = .ok (.istore_n 2, 1) := by decide +kernel
theorem dX6_wipe_17 : decode cX6_wipe 17 = .ok (.aload_n 0, 1) := by decide +kernel
theorem dX6_wipe_18 : decode cX6_wipe 18 = .ok (.getfield 7, 3) := by decide +kernel
theorem dX6_wipe_21 : decode cX6_wipe 21 = .ok (.iload_n 1, 1) := by decide +kernel
theorem dX6_wipe_22 : decode cX6_wipe 22 = .ok (.iconst 0, 1) := by decide +kernel
theorem dX6_wipe_23 : decode cX6_wipe 23 = .ok (.iastore, 1) := by decide +kernel
theorem dX6_wipe_24 : decode cX6_wipe 24 = .ok (.iload_n 2, 1) := by decide +kernel
theorem dX6_wipe_25 : decode cX6_wipe 25 = .ok (.ireturn, 1) := by decide +kernel
theorem dX6_undo_0 : decode cX6_undo 0 = .ok (.iload_n 1, 1) := by decide +kernel
theorem dX6_undo_1 : decode cX6_undo 1 = .ok (.invokestatic 107, 3) := by decide +kernel
theorem dX6_undo_4 : decode cX6_undo 4 = .ok (.ifCond .ne 6, 3) := by decide +kernel
theorem dX6_undo_7 : decode cX6_undo 7 = .ok (.bipush (-2), 2) := by decide +kernel
theorem dX6_undo_9 : decode cX6_undo 9 = .ok (.ireturn, 1) := by decide +kernel
theorem dX6_undo_10 : decode cX6_undo 10 = .ok (.aload_n 0, 1) := by decide +kernel
theorem dX6_undo_11 : decode cX6_undo 11 = .ok (.getfield 7, 3) := by decide +kernel
theorem dX6_undo_14 : decode cX6_undo 14 = .ok (.iload_n 1, 1) := by decide +kernel
theorem dX6_undo_15 : decode cX6_undo 15 = .ok (.iaload, 1) := by decide +kernel
theorem dX6_undo_16 : decode cX6_undo 16 = .ok (.ifCond .ne 6, 3) := by decide +kernel
theorem dX6_undo_19 : decode cX6_undo 19 = .ok (.bipush (-3), 2) := by decide +kernel
theorem dX6_undo_21 : decode cX6_undo 21 = .ok (.ireturn, 1) := by decide +kernel
theorem dX6_undo_22 : decode cX6_undo 22 = .ok (.aload_n 0, 1) := by decide +kernel
theorem dX6_undo_23 : decode cX6_undo 23 = .ok (.getfield 7, 3) := by decide +kernel
theorem dX6_undo_26 : decode cX6_undo 26 = .ok (.iload_n 1, 1) := by decide +kernel
theorem dX6_undo_27 : decode cX6_undo 27 = .ok (.dup2, 1) := by decide +kernel
theorem dX6_undo_28 : decode cX6_undo 28 = .ok (.iaload, 1) := by decide +kernel
theorem dX6_undo_29 : decode cX6_undo 29 = .ok (.iconst 1, 1) := by decide +kernel
theorem dX6_undo_30 : decode cX6_undo 30 = .ok (.isub, 1) := by decide +kernel
theorem dX6_undo_31 : decode cX6_undo 31 = .ok (.iastore, 1) := by decide +kernel
theorem dX6_undo_32 : decode cX6_undo 32 = .ok (.aload_n 0, 1) := by decide +kernel
theorem dX6_undo_33 : decode cX6_undo 33 = .ok (.getfield 7, 3) := by decide +kernel
theorem dX6_undo_36 : decode cX6_undo 36 = .ok (.iload_n 1, 1) := by decide +kernel
theorem dX6_undo_37 : decode cX6_undo 37 = .ok (.iaload, 1) := by decide +kernel
theorem dX6_undo_38 : decode cX6_undo 38 = .ok (.ireturn, 1) := by decide +kernel
theorem dX6_byteAt_0 : decode cX6_byteAt 0 = .ok (.iload_n 1, 1) := by decide +kernel
theorem dX6_byteAt_1 : decode cX6_byteAt 1 = .ok (.aload_n 0, 1) := by decide +kernel
theorem dX6_byteAt_2 : decode cX6_byteAt 2 = .ok (.getfield 7, 3) := by decide +kernel
theorem dX6_byteAt_5 : decode cX6_byteAt 5 = .ok (.iconst 0, 1) := by decide +kernel
theorem dX6_byteAt_6 : decode cX6_byteAt 6 = .ok (.iaload, 1) := by decide +kernel
theorem dX6_byteAt_7 : decode cX6_byteAt 7 = .ok (.if_icmp .ge 12, 3) := by decide +kernel
theorem dX6_byteAt_10 : decode cX6_byteAt 10 = .ok (.aload_n 0, 1) := by decide +kernel
theorem dX6_byteAt_11 : decode cX6_byteAt 11 = .ok (.getfield 13, 3) := by decide +kernel
theorem dX6_byteAt_14 : decode cX6_byteAt 14 = .ok (.iload_n 1, 1) := by decide +kernel
theorem dX6_byteAt_15 : decode cX6_byteAt 15 = .ok (.iaload, 1) := by decide +kernel
theorem dX6_byteAt_16 : decode cX6_byteAt 16 = .ok (.goto 4, 3) := by decide +kernel
theorem dX6_byteAt_19 : decode cX6_byteAt 19 = .ok (.iconst (-1), 1) := by decide +kernel
theorem dX6_byteAt_20 : decode cX6_byteAt 20 = .ok (.ireturn, 1) := by decide +kernel
theorem dX6_doneAt_0 : decode cX6_doneAt 0 = .ok (.aload_n 0, 1) := by decide +kernel
theorem dX6_doneAt_1 : decode cX6_doneAt 1 = .ok (.iload_n 1, 1) := by decide +kernel
theorem dX6_doneAt_2 : decode cX6_doneAt 2 = .ok (.invokevirtual 111, 3) := by decide +kernel
theorem dX6_doneAt_5 : decode cX6_doneAt 5 = .ok (.istore_n 2, 1) := by decide +kernel
theorem dX6_doneAt_6 : decode cX6_doneAt 6 = .ok (.iload_n 2, 1) := by decide +kernel
theorem dX6_doneAt_7 : decode cX6_doneAt 7 = .ok (.bipush 115, 2) := by decide +kernel
theorem dX6_doneAt_9 : decode cX6_doneAt 9 = .ok (.if_icmp .ne 7, 3) := by decide +kernel
theorem dX6_doneAt_12 : decode cX6_doneAt 12 = .ok (.iconst 0, 1) := by decide +kernel
theorem dX6_doneAt_13 : decode cX6_doneAt 13 = .ok (.goto 24, 3) := by decide +kernel
theorem dX6_doneAt_16 : decode cX6_doneAt 16 = .ok (.iload_n 2, 1) := by decide +kernel
theorem dX6_doneAt_17 : decode cX6_doneAt 17 = .ok (.bipush 119, 2) := by decide +kernel
theorem dX6_doneAt_19 : decode cX6_doneAt 19 = .ok (.if_icmp .ne 7, 3) := by decide +kernel
theorem dX6_doneAt_22 : decode cX6_doneAt 22 = .ok (.iconst 1, 1) := by decide +kernel
theorem dX6_doneAt_23 : decode cX6_doneAt 23 = .ok (.goto 14, 3) := by decide +kernel
theorem dX6_doneAt_26 : decode cX6_doneAt 26 = .ok (.iload_n 2, 1) := by decide +kernel
theorem dX6_doneAt_27 : decode cX6_doneAt 27 = .ok (.bipush 114, 2) := by decide +kernel
theorem dX6_doneAt_29 : decode cX6_doneAt 29 = .ok (.if_icmp .ne 7, 3) := by decide +kernel
theorem dX6_doneAt_32 : decode cX6_doneAt 32 = .ok (.iconst 2, 1) := by decide +kernel
theorem dX6_doneAt_33 : decode cX6_doneAt 33 = .ok (.goto 4, 3) := by decide +kernel
theorem dX6_doneAt_36 : decode cX6_doneAt 36 = .ok (.iconst (-1), 1) := by decide +kernel
theorem dX6_doneAt_37 : decode cX6_doneAt 37 = .ok (.ireturn, 1) := by decide +kernel
theorem dX6_readsHouse_0 : decode cX6_readsHouse 0 = .ok (.aload_n 0, 1) := by decide +kernel
theorem dX6_readsHouse_1 : decode cX6_readsHouse 1 = .ok (.iload_n 2, 1) := by decide +kernel
theorem dX6_readsHouse_2 : decode cX6_readsHouse 2 = .ok (.invokevirtual 111, 3) := by decide +kernel
theorem dX6_readsHouse_5 : decode cX6_readsHouse 5 = .ok (.istore_n 3, 1) := by decide +kernel
theorem dX6_readsHouse_6 : decode cX6_readsHouse 6 = .ok (.iload_n 3, 1) := by decide +kernel
theorem dX6_readsHouse_7 : decode cX6_readsHouse 7 = .ok (.bipush 46, 2) := by decide +kernel
theorem dX6_readsHouse_9 : decode cX6_readsHouse 9 = .ok (.if_icmp .eq 18, 3) := by decide +kernel
theorem dX6_readsHouse_12 : decode cX6_readsHouse 12 = .ok (.iload_n 3, 1) := by decide +kernel
theorem dX6_readsHouse_13 : decode cX6_readsHouse 13 = .ok (.bipush 97, 2) := by decide +kernel
theorem dX6_readsHouse_15 : decode cX6_readsHouse 15 = .ok (.bipush 97, 2) := by decide +kernel
theorem dX6_readsHouse_17 : decode cX6_readsHouse 17 = .ok (.iload_n 1, 1) := by decide +kernel
theorem dX6_readsHouse_18 : decode cX6_readsHouse 18 = .ok (.iadd, 1) := by decide +kernel
theorem dX6_readsHouse_19 : decode cX6_readsHouse 19 = .ok (.iconst 1, 1) := by decide +kernel
theorem dX6_readsHouse_20 : decode cX6_readsHouse 20 = .ok (.isub, 1) := by decide +kernel
theorem dX6_readsHouse_21 : decode cX6_readsHouse 21 = .ok (.invokestatic 103, 3) := by decide +kernel
theorem dX6_readsHouse_24 : decode cX6_readsHouse 24 = .ok (.ifCond .eq 7, 3) := by decide +kernel
theorem dX6_readsHouse_27 : decode cX6_readsHouse 27 = .ok (.iconst 1, 1) := by decide +kernel
theorem dX6_readsHouse_28 : decode cX6_readsHouse 28 = .ok (.goto 4, 3) := by decide +kernel
theorem dX6_readsHouse_31 : decode cX6_readsHouse 31 = .ok (.iconst 0, 1) := by decide +kernel
theorem dX6_readsHouse_32 : decode cX6_readsHouse 32 = .ok (.istore 4, 2) := by decide +kernel
theorem dX6_readsHouse_34 : decode cX6_readsHouse 34 = .ok (.iload_n 1, 1) := by decide +kernel
theorem dX6_readsHouse_35 : decode cX6_readsHouse 35 = .ok (.bipush 8, 2) := by decide +kernel
theorem dX6_readsHouse_37 : decode cX6_readsHouse 37 = .ok (.if_icmp .eq 8, 3) := by decide +kernel
theorem dX6_readsHouse_40 : decode cX6_readsHouse 40 = .ok (.iload 4, 2) := by decide +kernel
theorem dX6_readsHouse_42 : decode cX6_readsHouse 42 = .ok (.ifCond .ne 5, 3) := by decide +kernel
theorem dX6_readsHouse_45 : decode cX6_readsHouse 45 = .ok (.iconst (-1), 1) := by decide +kernel
theorem dX6_readsHouse_46 : decode cX6_readsHouse 46 = .ok (.ireturn, 1) := by decide +kernel
theorem dX6_readsHouse_47 : decode cX6_readsHouse 47 = .ok (.aload_n 0, 1) := by decide +kernel
theorem dX6_readsHouse_48 : decode cX6_readsHouse 48 = .ok (.iload_n 2, 1) := by decide +kernel
theorem dX6_readsHouse_49 : decode cX6_readsHouse 49 = .ok (.iconst 1, 1) := by decide +kernel
theorem dX6_readsHouse_50 : decode cX6_readsHouse 50 = .ok (.iadd, 1) := by decide +kernel
theorem dX6_readsHouse_51 : decode cX6_readsHouse 51 = .ok (.invokevirtual 111, 3) := by decide +kernel
theorem dX6_readsHouse_54 : decode cX6_readsHouse 54 = .ok (.bipush 97, 2) := by decide +kernel
theorem dX6_readsHouse_56 : decode cX6_readsHouse 56 = .ok (.bipush 103, 2) := by decide +kernel
theorem dX6_readsHouse_58 : decode cX6_readsHouse 58 = .ok (.invokestatic 103, 3) := by decide +kernel
theorem dX6_readsHouse_61 : decode cX6_readsHouse 61 = .ok (.ifCond .ne 6, 3) := by decide +kernel
theorem dX6_readsHouse_64 : decode cX6_readsHouse 64 = .ok (.bipush (-2), 2) := by decide +kernel
theorem dX6_readsHouse_66 : decode cX6_readsHouse 66 = .ok (.ireturn, 1) := by decide +kernel
theorem dX6_readsHouse_67 : decode cX6_readsHouse 67 = .ok (.aload_n 0, 1) := by decide +kernel
theorem dX6_readsHouse_68 : decode cX6_readsHouse 68 = .ok (.iload_n 2, 1) := by decide +kernel
theorem dX6_readsHouse_69 : decode cX6_readsHouse 69 = .ok (.iconst 2, 1) := by decide +kernel
theorem dX6_readsHouse_70 : decode cX6_readsHouse 70 = .ok (.iadd, 1) := by decide +kernel
theorem dX6_readsHouse_71 : decode cX6_readsHouse 71 = .ok (.invokevirtual 111, 3) := by decide +kernel
theorem dX6_readsHouse_74 : decode cX6_readsHouse 74 = .ok (.bipush 49, 2) := by decide +kernel
theorem dX6_readsHouse_76 : decode cX6_readsHouse 76 = .ok (.bipush 57, 2) := by decide +kernel
theorem dX6_readsHouse_78 : decode cX6_readsHouse 78 = .ok (.invokestatic 103, 3) := by decide +kernel
theorem dX6_readsHouse_81 : decode cX6_readsHouse 81 = .ok (.ifCond .ne 6, 3) := by decide +kernel
theorem dX6_readsHouse_84 : decode cX6_readsHouse 84 = .ok (.bipush (-3), 2) := by decide +kernel
theorem dX6_readsHouse_86 : decode cX6_readsHouse 86 = .ok (.ireturn, 1) := by decide +kernel
theorem dX6_readsHouse_87 : decode cX6_readsHouse 87 = .ok (.aload_n 0, 1) := by decide +kernel
theorem dX6_readsHouse_88 : decode cX6_readsHouse 88 = .ok (.iload_n 2, 1) := by decide +kernel
theorem dX6_readsHouse_89 : decode cX6_readsHouse 89 = .ok (.iconst 3, 1) := by decide +kernel
theorem dX6_readsHouse_90 : decode cX6_readsHouse 90 = .ok (.iadd, 1) := by decide +kernel
theorem dX6_readsHouse_91 : decode cX6_readsHouse 91 = .ok (.invokevirtual 115, 3) := by decide +kernel
theorem dX6_readsHouse_94 : decode cX6_readsHouse 94 = .ok (.iconst (-1), 1) := by decide +kernel
theorem dX6_readsHouse_95 : decode cX6_readsHouse 95 = .ok (.if_icmp .ne 6, 3) := by decide +kernel
theorem dX6_readsHouse_98 : decode cX6_readsHouse 98 = .ok (.bipush (-4), 2) := by decide +kernel
theorem dX6_readsHouse_100 : decode cX6_readsHouse 100 = .ok (.ireturn, 1) := by decide +kernel
theorem dX6_readsHouse_101 : decode cX6_readsHouse 101 = .ok (.iconst 0, 1) := by decide +kernel
theorem dX6_readsHouse_102 : decode cX6_readsHouse 102 = .ok (.istore 5, 2) := by decide +kernel
theorem dX6_readsHouse_104 : decode cX6_readsHouse 104 = .ok (.iload 5, 2) := by decide +kernel
theorem dX6_readsHouse_106 : decode cX6_readsHouse 106 = .ok (.iconst 3, 1) := by decide +kernel
theorem dX6_readsHouse_107 : decode cX6_readsHouse 107 = .ok (.if_icmp .ge 44, 3) := by decide +kernel
theorem dX6_readsHouse_110 : decode cX6_readsHouse 110 = .ok (.aload_n 0, 1) := by decide +kernel
theorem dX6_readsHouse_111 : decode cX6_readsHouse 111 = .ok (.iload_n 2, 1) := by decide +kernel
theorem dX6_readsHouse_112 : decode cX6_readsHouse 112 = .ok (.iconst 3, 1) := by decide +kernel
theorem dX6_readsHouse_113 : decode cX6_readsHouse 113 = .ok (.iadd, 1) := by decide +kernel
theorem dX6_readsHouse_114 : decode cX6_readsHouse 114 = .ok (.iload 5, 2) := by decide +kernel
theorem dX6_readsHouse_116 : decode cX6_readsHouse 116 = .ok (.iadd, 1) := by decide +kernel
theorem dX6_readsHouse_117 : decode cX6_readsHouse 117 = .ok (.invokevirtual 115, 3) := by decide +kernel
theorem dX6_readsHouse_120 : decode cX6_readsHouse 120 = .ok (.iconst (-1), 1) := by decide +kernel
theorem dX6_readsHouse_121 : decode cX6_readsHouse 121 = .ok (.if_icmp .eq 30, 3) := by decide +kernel
theorem dX6_readsHouse_124 : decode cX6_readsHouse 124 = .ok (.aload_n 0, 1) := by decide +kernel
theorem dX6_readsHouse_125 : decode cX6_readsHouse 125 = .ok (.getfield 28, 3) := by decide +kernel
theorem dX6_readsHouse_128 : decode cX6_readsHouse 128 = .ok (.iconst 3, 1) := by decide +kernel
theorem dX6_readsHouse_129 : decode cX6_readsHouse 129 = .ok (.iload_n 1, 1) := by decide +kernel
theorem dX6_readsHouse_130 : decode cX6_readsHouse 130 = .ok (.imul, 1) := by decide +kernel
theorem dX6_readsHouse_131 : decode cX6_readsHouse 131 = .ok (.iload 5, 2) := by decide +kernel
theorem dX6_readsHouse_133 : decode cX6_readsHouse 133 = .ok (.iadd, 1) := by decide +kernel
theorem dX6_readsHouse_134 : decode cX6_readsHouse 134 = .ok (.aload_n 0, 1) := by decide +kernel
theorem dX6_readsHouse_135 : decode cX6_readsHouse 135 = .ok (.iload_n 2, 1) := by decide +kernel
theorem dX6_readsHouse_136 : decode cX6_readsHouse 136 = .ok (.iconst 3, 1) := by decide +kernel
theorem dX6_readsHouse_137 : decode cX6_readsHouse 137 = .ok (.iadd, 1) := by decide +kernel
theorem dX6_readsHouse_138 : decode cX6_readsHouse 138 = .ok (.iload 5, 2) := by decide +kernel
theorem dX6_readsHouse_140 : decode cX6_readsHouse 140 = .ok (.iadd, 1) := by decide +kernel
theorem dX6_readsHouse_141 : decode cX6_readsHouse 141 = .ok (.invokevirtual 115, 3) := by decide +kernel
theorem dX6_readsHouse_144 : decode cX6_readsHouse 144 = .ok (.iastore, 1) := by decide +kernel
theorem dX6_readsHouse_145 : decode cX6_readsHouse 145 = .ok (.iinc 5 1, 3) := by decide +kernel
theorem dX6_readsHouse_148 : decode cX6_readsHouse 148 = .ok (.goto (-44), 3) := by decide +kernel
theorem dX6_readsHouse_151 : decode cX6_readsHouse 151 = .ok (.aload_n 0, 1) := by decide +kernel
theorem dX6_readsHouse_152 : decode cX6_readsHouse 152 = .ok (.getfield 16, 3) := by decide +kernel
theorem dX6_readsHouse_155 : decode cX6_readsHouse 155 = .ok (.iload_n 1, 1) := by decide +kernel
theorem dX6_readsHouse_156 : decode cX6_readsHouse 156 = .ok (.iload_n 3, 1) := by decide +kernel
theorem dX6_readsHouse_157 : decode cX6_readsHouse 157 = .ok (.bipush 46, 2) := by decide +kernel
theorem dX6_readsHouse_159 : decode cX6_readsHouse 159 = .ok (.if_icmp .ne 7, 3) := by decide +kernel
theorem dX6_readsHouse_162 : decode cX6_readsHouse 162 = .ok (.iconst (-1), 1) := by decide +kernel
theorem dX6_readsHouse_163 : decode cX6_readsHouse 163 = .ok (.goto 7, 3) := by decide +kernel
theorem dX6_readsHouse_166 : decode cX6_readsHouse 166 = .ok (.iload_n 3, 1) := by decide +kernel
theorem dX6_readsHouse_167 : decode cX6_readsHouse 167 = .ok (.bipush 97, 2) := by decide +kernel
theorem dX6_readsHouse_169 : decode cX6_readsHouse 169 = .ok (.isub, 1) := by decide +kernel
theorem dX6_readsHouse_170 : decode cX6_readsHouse 170 = .ok (.iastore, 1) := by decide +kernel
theorem dX6_readsHouse_171 : decode cX6_readsHouse 171 = .ok (.aload_n 0, 1) := by decide +kernel
theorem dX6_readsHouse_172 : decode cX6_readsHouse 172 = .ok (.getfield 19, 3) := by decide +kernel
theorem dX6_readsHouse_175 : decode cX6_readsHouse 175 = .ok (.iload_n 1, 1) := by decide +kernel
theorem dX6_readsHouse_176 : decode cX6_readsHouse 176 = .ok (.aload_n 0, 1) := by decide +kernel
theorem dX6_readsHouse_177 : decode cX6_readsHouse 177 = .ok (.iload_n 2, 1) := by decide +kernel
theorem dX6_readsHouse_178 : decode cX6_readsHouse 178 = .ok (.iconst 1, 1) := by decide +kernel
theorem dX6_readsHouse_179 : decode cX6_readsHouse 179 = .ok (.iadd, 1) := by decide +kernel
theorem dX6_readsHouse_180 : decode cX6_readsHouse 180 = .ok (.invokevirtual 111, 3) := by decide +kernel
theorem dX6_readsHouse_183 : decode cX6_readsHouse 183 = .ok (.bipush 97, 2) := by decide +kernel
theorem dX6_readsHouse_185 : decode cX6_readsHouse 185 = .ok (.isub, 1) := by decide +kernel
theorem dX6_readsHouse_186 : decode cX6_readsHouse 186 = .ok (.iastore, 1) := by decide +kernel
theorem dX6_readsHouse_187 : decode cX6_readsHouse 187 = .ok (.aload_n 0, 1) := by decide +kernel
theorem dX6_readsHouse_188 : decode cX6_readsHouse 188 = .ok (.getfield 22, 3) := by decide +kernel
theorem dX6_readsHouse_191 : decode cX6_readsHouse 191 = .ok (.iload_n 1, 1) := by decide +kernel
theorem dX6_readsHouse_192 : decode cX6_readsHouse 192 = .ok (.aload_n 0, 1) := by decide +kernel
theorem dX6_readsHouse_193 : decode cX6_readsHouse 193 = .ok (.iload_n 2, 1) := by decide +kernel
theorem dX6_readsHouse_194 : decode cX6_readsHouse 194 = .ok (.iconst 2, 1) := by decide +kernel
theorem dX6_readsHouse_195 : decode cX6_readsHouse 195 = .ok (.iadd, 1) := by decide +kernel
theorem dX6_readsHouse_196 : decode cX6_readsHouse 196 = .ok (.invokevirtual 111, 3) := by decide +kernel
theorem dX6_readsHouse_199 : decode cX6_readsHouse 199 = .ok (.bipush 48, 2) := by decide +kernel
theorem dX6_readsHouse_201 : decode cX6_readsHouse 201 = .ok (.isub, 1) := by decide +kernel
theorem dX6_readsHouse_202 : decode cX6_readsHouse 202 = .ok (.iastore, 1) := by decide +kernel
theorem dX6_readsHouse_203 : decode cX6_readsHouse 203 = .ok (.aload_n 0, 1) := by decide +kernel
theorem dX6_readsHouse_204 : decode cX6_readsHouse 204 = .ok (.getfield 25, 3) := by decide +kernel
theorem dX6_readsHouse_207 : decode cX6_readsHouse 207 = .ok (.iload_n 1, 1) := by decide +kernel
theorem dX6_readsHouse_208 : decode cX6_readsHouse 208 = .ok (.iload 5, 2) := by decide +kernel
theorem dX6_readsHouse_210 : decode cX6_readsHouse 210 = .ok (.iastore, 1) := by decide +kernel
theorem dX6_readsHouse_211 : decode cX6_readsHouse 211 = .ok (.iconst 3, 1) := by decide +kernel
theorem dX6_readsHouse_212 : decode cX6_readsHouse 212 = .ok (.iload 5, 2) := by decide +kernel
theorem dX6_readsHouse_214 : decode cX6_readsHouse 214 = .ok (.iadd, 1) := by decide +kernel
theorem dX6_readsHouse_215 : decode cX6_readsHouse 215 = .ok (.ireturn, 1) := by decide +kernel
theorem dX6_readsHouses_0 : decode cX6_readsHouses 0 = .ok (.iconst 0, 1) := by decide +kernel
theorem dX6_readsHouses_1 : decode cX6_readsHouses 1 = .ok (.istore_n 1, 1) := by decide +kernel
theorem dX6_readsHouses_2 : decode cX6_readsHouses 2 = .ok (.iconst 0, 1) := by decide +kernel
theorem dX6_readsHouses_3 : decode cX6_readsHouses 3 = .ok (.istore_n 2, 1) := by decide +kernel
theorem dX6_readsHouses_4 : decode cX6_readsHouses 4 = .ok (.aload_n 0, 1) := by decide +kernel
theorem dX6_readsHouses_5 : decode cX6_readsHouses 5 = .ok (.iconst 0, 1) := by decide +kernel
theorem dX6_readsHouses_6 : decode cX6_readsHouses 6 = .ok (.putfield 118, 3) := by decide +kernel
theorem dX6_readsHouses_9 : decode cX6_readsHouses 9 = .ok (.iload_n 2, 1) := by decide +kernel
theorem dX6_readsHouses_10 : decode cX6_readsHouses 10 = .ok (.aload_n 0, 1) := by decide +kernel
theorem dX6_readsHouses_11 : decode cX6_readsHouses 11 = .ok (.getfield 7, 3) := by decide +kernel
theorem dX6_readsHouses_14 : decode cX6_readsHouses 14 = .ok (.iconst 0, 1) := by decide +kernel
theorem dX6_readsHouses_15 : decode cX6_readsHouses 15 = .ok (.iaload, 1) := by decide +kernel
theorem dX6_readsHouses_16 : decode cX6_readsHouses 16 = .ok (.if_icmp .lt 7, 3) := by decide +kernel
theorem dX6_readsHouses_19 : decode cX6_readsHouses 19 = .ok (.iload_n 2, 1) := by decide +kernel
theorem dX6_readsHouses_20 : decode cX6_readsHouses 20 = .ok (.ifCond .le 62, 3) := by decide +kernel
theorem dX6_readsHouses_23 : decode cX6_readsHouses 23 = .ok (.aload_n 0, 1) := by decide +kernel
theorem dX6_readsHouses_24 : decode cX6_readsHouses 24 = .ok (.iload_n 1, 1) := by decide +kernel
theorem dX6_readsHouses_25 : decode cX6_readsHouses 25 = .ok (.iload_n 2, 1) := by decide +kernel
theorem dX6_readsHouses_26 : decode cX6_readsHouses 26 = .ok (.invokevirtual 122, 3) := by decide +kernel
theorem dX6_readsHouses_29 : decode cX6_readsHouses 29 = .ok (.istore_n 3, 1) := by decide +kernel
theorem dX6_readsHouses_30 : decode cX6_readsHouses 30 = .ok (.iload_n 3, 1) := by decide +kernel
theorem dX6_readsHouses_31 : decode cX6_readsHouses 31 = .ok (.ifCond .ge 9, 3) := by decide +kernel
theorem dX6_readsHouses_34 : decode cX6_readsHouses 34 = .ok (.iload_n 2, 1) := by decide +kernel
theorem dX6_readsHouses_35 : decode cX6_readsHouses 35 = .ok (.iload_n 3, 1) := by decide +kernel
theorem dX6_readsHouses_36 : decode cX6_readsHouses 36 = .ok (.isub, 1) := by decide +kernel
theorem dX6_readsHouses_37 : decode cX6_readsHouses 37 = .ok (.iconst 1, 1) := by decide +kernel
theorem dX6_readsHouses_38 : decode cX6_readsHouses 38 = .ok (.isub, 1) := by decide +kernel
theorem dX6_readsHouses_39 : decode cX6_readsHouses 39 = .ok (.ireturn, 1) := by decide +kernel
theorem dX6_readsHouses_40 : decode cX6_readsHouses 40 = .ok (.iinc 1 1, 3) := by decide +kernel
theorem dX6_readsHouses_43 : decode cX6_readsHouses 43 = .ok (.iload_n 2, 1) := by decide +kernel
theorem dX6_readsHouses_44 : decode cX6_readsHouses 44 = .ok (.iload_n 3, 1) := by decide +kernel
theorem dX6_readsHouses_45 : decode cX6_readsHouses 45 = .ok (.iadd, 1) := by decide +kernel
theorem dX6_readsHouses_46 : decode cX6_readsHouses 46 = .ok (.istore_n 2, 1) := by decide +kernel
theorem dX6_readsHouses_47 : decode cX6_readsHouses 47 = .ok (.iload_n 2, 1) := by decide +kernel
theorem dX6_readsHouses_48 : decode cX6_readsHouses 48 = .ok (.aload_n 0, 1) := by decide +kernel
theorem dX6_readsHouses_49 : decode cX6_readsHouses 49 = .ok (.getfield 7, 3) := by decide +kernel
theorem dX6_readsHouses_52 : decode cX6_readsHouses 52 = .ok (.iconst 0, 1) := by decide +kernel
theorem dX6_readsHouses_53 : decode cX6_readsHouses 53 = .ok (.iaload, 1) := by decide +kernel
theorem dX6_readsHouses_54 : decode cX6_readsHouses 54 = .ok (.if_icmp .ne 10, 3) := by decide +kernel
theorem dX6_readsHouses_57 : decode cX6_readsHouses 57 = .ok (.aload_n 0, 1) := by decide +kernel
theorem dX6_readsHouses_58 : decode cX6_readsHouses 58 = .ok (.iload_n 1, 1) := by decide +kernel
theorem dX6_readsHouses_59 : decode cX6_readsHouses 59 = .ok (.putfield 118, 3) := by decide +kernel
theorem dX6_readsHouses_62 : decode cX6_readsHouses 62 = .ok (.iconst (-1), 1) := by decide +kernel
theorem dX6_readsHouses_63 : decode cX6_readsHouses 63 = .ok (.ireturn, 1) := by decide +kernel
theorem dX6_readsHouses_64 : decode cX6_readsHouses 64 = .ok (.aload_n 0, 1) := by decide +kernel
theorem dX6_readsHouses_65 : decode cX6_readsHouses 65 = .ok (.iload_n 2, 1) := by decide +kernel
theorem dX6_readsHouses_66 : decode cX6_readsHouses 66 = .ok (.invokevirtual 111, 3) := by decide +kernel
theorem dX6_readsHouses_69 : decode cX6_readsHouses 69 = .ok (.bipush 59, 2) := by decide +kernel
theorem dX6_readsHouses_71 : decode cX6_readsHouses 71 = .ok (.if_icmp .eq 5, 3) := by decide +kernel
theorem dX6_readsHouses_74 : decode cX6_readsHouses 74 = .ok (.iload_n 2, 1) := by decide +kernel
theorem dX6_readsHouses_75 : decode cX6_readsHouses 75 = .ok (.ireturn, 1) := by decide +kernel
theorem dX6_readsHouses_76 : decode cX6_readsHouses 76 = .ok (.iinc 2 1, 3) := by decide +kernel
theorem dX6_readsHouses_79 : decode cX6_readsHouses 79 = .ok (.goto (-70), 3) := by decide +kernel
theorem dX6_readsHouses_82 : decode cX6_readsHouses 82 = .ok (.iconst (-1), 1) := by decide +kernel
theorem dX6_readsHouses_83 : decode cX6_readsHouses 83 = .ok (.ireturn, 1) := by decide +kernel
theorem dX6_readsElbows_0 : decode cX6_readsElbows 0 = .ok (.aload_n 0, 1) := by decide +kernel
theorem dX6_readsElbows_1 : decode cX6_readsElbows 1 = .ok (.iconst 0, 1) := by decide +kernel
theorem dX6_readsElbows_2 : decode cX6_readsElbows 2 = .ok (.putfield 126, 3) := by decide +kernel
theorem dX6_readsElbows_5 : decode cX6_readsElbows 5 = .ok (.iconst 0, 1) := by decide +kernel
theorem dX6_readsElbows_6 : decode cX6_readsElbows 6 = .ok (.istore_n 1, 1) := by decide +kernel
theorem dX6_readsElbows_7 : decode cX6_readsElbows 7 = .ok (.iload_n 1, 1) := by decide +kernel
theorem dX6_readsElbows_8 : decode cX6_readsElbows 8 = .ok (.bipush 40, 2) := by decide +kernel
theorem dX6_readsElbows_10 : decode cX6_readsElbows 10 = .ok (.if_icmp .ge 16, 3) := by decide +kernel
theorem dX6_readsElbows_13 : decode cX6_readsElbows 13 = .ok (.aload_n 0, 1) := by decide +kernel
theorem dX6_readsElbows_14 : decode cX6_readsElbows 14 = .ok (.getfield 31, 3) := by decide +kernel
theorem dX6_readsElbows_17 : decode cX6_readsElbows 17 = .ok (.iload_n 1, 1) := by decide +kernel
theorem dX6_readsElbows_18 : decode cX6_readsElbows 18 = .ok (.iconst 3, 1) := by decide +kernel
theorem dX6_readsElbows_19 : decode cX6_readsElbows 19 = .ok (.iastore, 1) := by decide +kernel
theorem dX6_readsElbows_20 : decode cX6_readsElbows 20 = .ok (.iinc 1 1, 3) := by decide +kernel
theorem dX6_readsElbows_23 : decode cX6_readsElbows 23 = .ok (.goto (-16), 3) := by decide +kernel
theorem dX6_readsElbows_26 : decode cX6_readsElbows 26 = .ok (.iconst 0, 1) := by decide +kernel
theorem dX6_readsElbows_27 : decode cX6_readsElbows 27 = .ok (.istore_n 1, 1) := by decide +kernel
theorem dX6_readsElbows_28 : decode cX6_readsElbows 28 = .ok (.iload_n 1, 1) := by decide +kernel
theorem dX6_readsElbows_29 : decode cX6_readsElbows 29 = .ok (.aload_n 0, 1) := by decide +kernel
theorem dX6_readsElbows_30 : decode cX6_readsElbows 30 = .ok (.getfield 7, 3) := by decide +kernel
theorem dX6_readsElbows_33 : decode cX6_readsElbows 33 = .ok (.iconst 1, 1) := by decide +kernel
theorem dX6_readsElbows_34 : decode cX6_readsElbows 34 = .ok (.iaload, 1) := by decide +kernel
theorem dX6_readsElbows_35 : decode cX6_readsElbows 35 = .ok (.if_icmp .ge 30, 3) := by decide +kernel
theorem dX6_readsElbows_38 : decode cX6_readsElbows 38 = .ok (.aload_n 0, 1) := by decide +kernel
theorem dX6_readsElbows_39 : decode cX6_readsElbows 39 = .ok (.getfield 13, 3) := by decide +kernel
theorem dX6_readsElbows_42 : decode cX6_readsElbows 42 = .ok (.bipush 55, 2) := by decide +kernel
theorem dX6_readsElbows_44 : decode cX6_readsElbows 44 = .ok (.iload_n 1, 1) := by decide +kernel
theorem dX6_readsElbows_45 : decode cX6_readsElbows 45 = .ok (.iadd, 1) := by decide +kernel
theorem dX6_readsElbows_46 : decode cX6_readsElbows 46 = .ok (.iaload, 1) := by decide +kernel
theorem dX6_readsElbows_47 : decode cX6_readsElbows 47 = .ok (.bipush 48, 2) := by decide +kernel
theorem dX6_readsElbows_49 : decode cX6_readsElbows 49 = .ok (.bipush 57, 2) := by decide +kernel
theorem dX6_readsElbows_51 : decode cX6_readsElbows 51 = .ok (.invokestatic 103, 3) := by decide +kernel
theorem dX6_readsElbows_54 : decode cX6_readsElbows 54 = .ok (.ifCond .ne 5, 3) := by decide +kernel
theorem dX6_readsElbows_57 : decode cX6_readsElbows 57 = .ok (.iload_n 1, 1) := by decide +kernel
theorem dX6_readsElbows_58 : decode cX6_readsElbows 58 = .ok (.ireturn, 1) := by decide +kernel
theorem dX6_readsElbows_59 : decode cX6_readsElbows 59 = .ok (.iinc 1 1, 3) := by decide +kernel
theorem dX6_readsElbows_62 : decode cX6_readsElbows 62 = .ok (.goto (-34), 3) := by decide +kernel
theorem dX6_readsElbows_65 : decode cX6_readsElbows 65 = .ok (.iconst 0, 1) := by decide +kernel
theorem dX6_readsElbows_66 : decode cX6_readsElbows 66 = .ok (.istore_n 1, 1) := by decide +kernel
theorem dX6_readsElbows_67 : decode cX6_readsElbows 67 = .ok (.iload_n 1, 1) := by decide +kernel
theorem dX6_readsElbows_68 : decode cX6_readsElbows 68 = .ok (.aload_n 0, 1) := by decide +kernel
theorem dX6_readsElbows_69 : decode cX6_readsElbows 69 = .ok (.getfield 7, 3) := by decide +kernel
theorem dX6_readsElbows_72 : decode cX6_readsElbows 72 = .ok (.iconst 1, 1) := by decide +kernel
theorem dX6_readsElbows_73 : decode cX6_readsElbows 73 = .ok (.iaload, 1) := by decide +kernel
theorem dX6_readsElbows_74 : decode cX6_readsElbows 74 = .ok (.if_icmp .ge 27, 3) := by decide +kernel
theorem dX6_readsElbows_77 : decode cX6_readsElbows 77 = .ok (.aload_n 0, 1) := by decide +kernel
theorem dX6_readsElbows_78 : decode cX6_readsElbows 78 = .ok (.getfield 31, 3) := by decide +kernel
theorem dX6_readsElbows_81 : decode cX6_readsElbows 81 = .ok (.iload_n 1, 1) := by decide +kernel
theorem dX6_readsElbows_82 : decode cX6_readsElbows 82 = .ok (.aload_n 0, 1) := by decide +kernel
theorem dX6_readsElbows_83 : decode cX6_readsElbows 83 = .ok (.getfield 13, 3) := by decide +kernel
theorem dX6_readsElbows_86 : decode cX6_readsElbows 86 = .ok (.bipush 55, 2) := by decide +kernel
theorem dX6_readsElbows_88 : decode cX6_readsElbows 88 = .ok (.iload_n 1, 1) := by decide +kernel
theorem dX6_readsElbows_89 : decode cX6_readsElbows 89 = .ok (.iadd, 1) := by decide +kernel
theorem dX6_readsElbows_90 : decode cX6_readsElbows 90 = .ok (.iaload, 1) := by decide +kernel
theorem dX6_readsElbows_91 : decode cX6_readsElbows 91 = .ok (.bipush 48, 2) := by decide +kernel
theorem dX6_readsElbows_93 : decode cX6_readsElbows 93 = .ok (.isub, 1) := by decide +kernel
theorem dX6_readsElbows_94 : decode cX6_readsElbows 94 = .ok (.iastore, 1) := by decide +kernel
theorem dX6_readsElbows_95 : decode cX6_readsElbows 95 = .ok (.iinc 1 1, 3) := by decide +kernel
theorem dX6_readsElbows_98 : decode cX6_readsElbows 98 = .ok (.goto (-31), 3) := by decide +kernel
theorem dX6_readsElbows_101 : decode cX6_readsElbows 101 = .ok (.aload_n 0, 1) := by decide +kernel
theorem dX6_readsElbows_102 : decode cX6_readsElbows 102 = .ok (.aload_n 0, 1) := by decide +kernel
theorem dX6_readsElbows_103 : decode cX6_readsElbows 103 = .ok (.getfield 7, 3) := by decide +kernel
theorem dX6_readsElbows_106 : decode cX6_readsElbows 106 = .ok (.iconst 1, 1) := by decide +kernel
theorem dX6_readsElbows_107 : decode cX6_readsElbows 107 = .ok (.iaload, 1) := by decide +kernel
theorem dX6_readsElbows_108 : decode cX6_readsElbows 108 = .ok (.putfield 126, 3) := by decide +kernel
theorem dX6_readsElbows_111 : decode cX6_readsElbows 111 = .ok (.iconst (-1), 1) := by decide +kernel
theorem dX6_readsElbows_112 : decode cX6_readsElbows 112 = .ok (.ireturn, 1) := by decide +kernel
theorem dX6_faultOf_0 : decode cX6_faultOf 0 = .ok (.aload_n 0, 1) := by decide +kernel
theorem dX6_faultOf_1 : decode cX6_faultOf 1 = .ok (.invokevirtual 129, 3) := by decide +kernel
theorem dX6_faultOf_4 : decode cX6_faultOf 4 = .ok (.istore_n 2, 1) := by decide +kernel
theorem dX6_faultOf_5 : decode cX6_faultOf 5 = .ok (.aload_n 0, 1) := by decide +kernel
theorem dX6_faultOf_6 : decode cX6_faultOf 6 = .ok (.invokevirtual 133, 3) := by decide +kernel
theorem dX6_faultOf_9 : decode cX6_faultOf 9 = .ok (.istore_n 3, 1) := by decide +kernel
theorem dX6_faultOf_10 : decode cX6_faultOf 10 = .ok (.iload_n 1, 1) := by decide +kernel
theorem dX6_faultOf_11 : decode cX6_faultOf 11 = .ok (.ifCond .ne 7, 3) := by decide +kernel
theorem dX6_faultOf_14 : decode cX6_faultOf 14 = .ok (.iload_n 2, 1) := by decide +kernel
theorem dX6_faultOf_15 : decode cX6_faultOf 15 = .ok (.goto 4, 3) := by decide +kernel
theorem dX6_faultOf_18 : decode cX6_faultOf 18 = .ok (.iload_n 3, 1) := by decide +kernel
theorem dX6_faultOf_19 : decode cX6_faultOf 19 = .ok (.ireturn, 1) := by decide +kernel
theorem dX6_reads_0 : decode cX6_reads 0 = .ok (.aload_n 0, 1) := by decide +kernel
theorem dX6_reads_1 : decode cX6_reads 1 = .ok (.iconst 0, 1) := by decide +kernel
theorem dX6_reads_2 : decode cX6_reads 2 = .ok (.invokevirtual 136, 3) := by decide +kernel
theorem dX6_reads_5 : decode cX6_reads 5 = .ok (.istore_n 1, 1) := by decide +kernel
theorem dX6_reads_6 : decode cX6_reads 6 = .ok (.return_, 1) := by decide +kernel
theorem dX6_fault_0 : decode cX6_fault 0 = .ok (.iload_n 1, 1) := by decide +kernel
theorem dX6_fault_1 : decode cX6_fault 1 = .ok (.invokestatic 107, 3) := by decide +kernel
theorem dX6_fault_4 : decode cX6_fault 4 = .ok (.ifCond .eq 11, 3) := by decide +kernel
theorem dX6_fault_7 : decode cX6_fault 7 = .ok (.aload_n 0, 1) := by decide +kernel
theorem dX6_fault_8 : decode cX6_fault 8 = .ok (.iload_n 1, 1) := by decide +kernel
theorem dX6_fault_9 : decode cX6_fault 9 = .ok (.invokevirtual 136, 3) := by decide +kernel
theorem dX6_fault_12 : decode cX6_fault 12 = .ok (.goto 5, 3) := by decide +kernel
theorem dX6_fault_15 : decode cX6_fault 15 = .ok (.bipush (-2), 2) := by decide +kernel
theorem dX6_fault_17 : decode cX6_fault 17 = .ok (.ireturn, 1) := by decide +kernel
theorem dX6_isHouse_0 : decode cX6_isHouse 0 = .ok (.aload_n 0, 1) := by decide +kernel
theorem dX6_isHouse_1 : decode cX6_isHouse 1 = .ok (.invokevirtual 139, 3) := by decide +kernel
theorem dX6_isHouse_4 : decode cX6_isHouse 4 = .ok (.iload_n 1, 1) := by decide +kernel
theorem dX6_isHouse_5 : decode cX6_isHouse 5 = .ok (.iconst 0, 1) := by decide +kernel
theorem dX6_isHouse_6 : decode cX6_isHouse 6 = .ok (.aload_n 0, 1) := by decide +kernel
theorem dX6_isHouse_7 : decode cX6_isHouse 7 = .ok (.getfield 118, 3) := by decide +kernel
theorem dX6_isHouse_10 : decode cX6_isHouse 10 = .ok (.iconst 1, 1) := by decide +kernel
theorem dX6_isHouse_11 : decode cX6_isHouse 11 = .ok (.isub, 1) := by decide +kernel
theorem dX6_isHouse_12 : decode cX6_isHouse 12 = .ok (.invokestatic 103, 3) := by decide +kernel
theorem dX6_isHouse_15 : decode cX6_isHouse 15 = .ok (.ireturn, 1) := by decide +kernel
theorem dX6_houseOf_0 : decode cX6_houseOf 0 = .ok (.iload_n 2, 1) := by decide +kernel
theorem dX6_houseOf_1 : decode cX6_houseOf 1 = .ok (.ifCond .ne 12, 3) := by decide +kernel
theorem dX6_houseOf_4 : decode cX6_houseOf 4 = .ok (.aload_n 0, 1) := by decide +kernel
theorem dX6_houseOf_5 : decode cX6_houseOf 5 = .ok (.getfield 16, 3) := by decide +kernel
theorem dX6_houseOf_8 : decode cX6_houseOf 8 = .ok (.iload_n 1, 1) := by decide +kernel
theorem dX6_houseOf_9 : decode cX6_houseOf 9 = .ok (.iaload, 1) := by decide +kernel
theorem dX6_houseOf_10 : decode cX6_houseOf 10 = .ok (.goto 73, 3) := by decide +kernel
theorem dX6_houseOf_13 : decode cX6_houseOf 13 = .ok (.iload_n 2, 1) := by decide +kernel
theorem dX6_houseOf_14 : decode cX6_houseOf 14 = .ok (.iconst 1, 1) := by decide +kernel
theorem dX6_houseOf_15 : decode cX6_houseOf 15 = .ok (.if_icmp .ne 12, 3) := by decide +kernel
theorem dX6_houseOf_18 : decode cX6_houseOf 18 = .ok (.aload_n 0, 1) := by decide +kernel
theorem dX6_houseOf_19 : decode cX6_houseOf 19 = .ok (.getfield 19, 3) := by decide +kernel
theorem dX6_houseOf_22 : decode cX6_houseOf 22 = .ok (.iload_n 1, 1) := by decide +kernel
theorem dX6_houseOf_23 : decode cX6_houseOf 23 = .ok (.iaload, 1) := by decide +kernel
theorem dX6_houseOf_24 : decode cX6_houseOf 24 = .ok (.goto 59, 3) := by decide +kernel
theorem dX6_houseOf_27 : decode cX6_houseOf 27 = .ok (.iload_n 2, 1) := by decide +kernel
theorem dX6_houseOf_28 : decode cX6_houseOf 28 = .ok (.iconst 2, 1) := by decide +kernel
theorem dX6_houseOf_29 : decode cX6_houseOf 29 = .ok (.if_icmp .ne 12, 3) := by decide +kernel
theorem dX6_houseOf_32 : decode cX6_houseOf 32 = .ok (.aload_n 0, 1) := by decide +kernel
theorem dX6_houseOf_33 : decode cX6_houseOf 33 = .ok (.getfield 22, 3) := by decide +kernel
theorem dX6_houseOf_36 : decode cX6_houseOf 36 = .ok (.iload_n 1, 1) := by decide +kernel
theorem dX6_houseOf_37 : decode cX6_houseOf 37 = .ok (.iaload, 1) := by decide +kernel
theorem dX6_houseOf_38 : decode cX6_houseOf 38 = .ok (.goto 45, 3) := by decide +kernel
theorem dX6_houseOf_41 : decode cX6_houseOf 41 = .ok (.iload_n 2, 1) := by decide +kernel
theorem dX6_houseOf_42 : decode cX6_houseOf 42 = .ok (.iconst 3, 1) := by decide +kernel
theorem dX6_houseOf_43 : decode cX6_houseOf 43 = .ok (.if_icmp .ne 12, 3) := by decide +kernel
theorem dX6_houseOf_46 : decode cX6_houseOf 46 = .ok (.aload_n 0, 1) := by decide +kernel
theorem dX6_houseOf_47 : decode cX6_houseOf 47 = .ok (.getfield 25, 3) := by decide +kernel
theorem dX6_houseOf_50 : decode cX6_houseOf 50 = .ok (.iload_n 1, 1) := by decide +kernel
theorem dX6_houseOf_51 : decode cX6_houseOf 51 = .ok (.iaload, 1) := by decide +kernel
theorem dX6_houseOf_52 : decode cX6_houseOf 52 = .ok (.goto 31, 3) := by decide +kernel
theorem dX6_houseOf_55 : decode cX6_houseOf 55 = .ok (.iload_n 2, 1) := by decide +kernel
theorem dX6_houseOf_56 : decode cX6_houseOf 56 = .ok (.iconst 4, 1) := by decide +kernel
theorem dX6_houseOf_57 : decode cX6_houseOf 57 = .ok (.isub, 1) := by decide +kernel
theorem dX6_houseOf_58 : decode cX6_houseOf 58 = .ok (.aload_n 0, 1) := by decide +kernel
theorem dX6_houseOf_59 : decode cX6_houseOf 59 = .ok (.getfield 25, 3) := by decide +kernel
theorem dX6_houseOf_62 : decode cX6_houseOf 62 = .ok (.iload_n 1, 1) := by decide +kernel
theorem dX6_houseOf_63 : decode cX6_houseOf 63 = .ok (.iaload, 1) := by decide +kernel
theorem dX6_houseOf_64 : decode cX6_houseOf 64 = .ok (.if_icmp .ge 18, 3) := by decide +kernel
theorem dX6_houseOf_67 : decode cX6_houseOf 67 = .ok (.aload_n 0, 1) := by decide +kernel
theorem dX6_houseOf_68 : decode cX6_houseOf 68 = .ok (.getfield 28, 3) := by decide +kernel
theorem dX6_houseOf_71 : decode cX6_houseOf 71 = .ok (.iconst 3, 1) := by decide +kernel
theorem dX6_houseOf_72 : decode cX6_houseOf 72 = .ok (.iload_n 1, 1) := by decide +kernel
theorem dX6_houseOf_73 : decode cX6_houseOf 73 = .ok (.imul, 1) := by decide +kernel
theorem dX6_houseOf_74 : decode cX6_houseOf 74 = .ok (.iload_n 2, 1) := by decide +kernel
theorem dX6_houseOf_75 : decode cX6_houseOf 75 = .ok (.iadd, 1) := by decide +kernel
theorem dX6_houseOf_76 : decode cX6_houseOf 76 = .ok (.iconst 4, 1) := by decide +kernel
theorem dX6_houseOf_77 : decode cX6_houseOf 77 = .ok (.isub, 1) := by decide +kernel
theorem dX6_houseOf_78 : decode cX6_houseOf 78 = .ok (.iaload, 1) := by decide +kernel
theorem dX6_houseOf_79 : decode cX6_houseOf 79 = .ok (.goto 4, 3) := by decide +kernel
theorem dX6_houseOf_82 : decode cX6_houseOf 82 = .ok (.iconst (-1), 1) := by decide +kernel
theorem dX6_houseOf_83 : decode cX6_houseOf 83 = .ok (.ireturn, 1) := by decide +kernel
theorem dX6_house_0 : decode cX6_house 0 = .ok (.aload_n 0, 1) := by decide +kernel
theorem dX6_house_1 : decode cX6_house 1 = .ok (.iload_n 1, 1) := by decide +kernel
theorem dX6_house_2 : decode cX6_house 2 = .ok (.invokevirtual 142, 3) := by decide +kernel
theorem dX6_house_5 : decode cX6_house 5 = .ok (.ifCond .eq 22, 3) := by decide +kernel
theorem dX6_house_8 : decode cX6_house 8 = .ok (.iload_n 2, 1) := by decide +kernel
theorem dX6_house_9 : decode cX6_house 9 = .ok (.iconst 0, 1) := by decide +kernel
theorem dX6_house_10 : decode cX6_house 10 = .ok (.bipush 6, 2) := by decide +kernel
theorem dX6_house_12 : decode cX6_house 12 = .ok (.invokestatic 103, 3) := by decide +kernel
theorem dX6_house_15 : decode cX6_house 15 = .ok (.ifCond .eq 12, 3) := by decide +kernel
theorem dX6_house_18 : decode cX6_house 18 = .ok (.aload_n 0, 1) := by decide +kernel
theorem dX6_house_19 : decode cX6_house 19 = .ok (.iload_n 1, 1) := by decide +kernel
theorem dX6_house_20 : decode cX6_house 20 = .ok (.iload_n 2, 1) := by decide +kernel
theorem dX6_house_21 : decode cX6_house 21 = .ok (.invokevirtual 145, 3) := by decide +kernel
theorem dX6_house_24 : decode cX6_house 24 = .ok (.goto 5, 3) := by decide +kernel
theorem dX6_house_27 : decode cX6_house 27 = .ok (.bipush (-2), 2) := by decide +kernel
theorem dX6_house_29 : decode cX6_house 29 = .ok (.ireturn, 1) := by decide +kernel
theorem dX6_elbowsOf_0 : decode cX6_elbowsOf 0 = .ok (.aload_n 0, 1) := by decide +kernel
theorem dX6_elbowsOf_1 : decode cX6_elbowsOf 1 = .ok (.invokevirtual 139, 3) := by decide +kernel
theorem dX6_elbowsOf_4 : decode cX6_elbowsOf 4 = .ok (.aload_n 0, 1) := by decide +kernel
theorem dX6_elbowsOf_5 : decode cX6_elbowsOf 5 = .ok (.getfield 31, 3) := by decide +kernel
theorem dX6_elbowsOf_8 : decode cX6_elbowsOf 8 = .ok (.iload_n 1, 1) := by decide +kernel
theorem dX6_elbowsOf_9 : decode cX6_elbowsOf 9 = .ok (.iaload, 1) := by decide +kernel
theorem dX6_elbowsOf_10 : decode cX6_elbowsOf 10 = .ok (.ireturn, 1) := by decide +kernel
theorem dX6_elbows_0 : decode cX6_elbows 0 = .ok (.iload_n 1, 1) := by decide +kernel
theorem dX6_elbows_1 : decode cX6_elbows 1 = .ok (.invokestatic 148, 3) := by decide +kernel
theorem dX6_elbows_4 : decode cX6_elbows 4 = .ok (.ifCond .eq 11, 3) := by decide +kernel
theorem dX6_elbows_7 : decode cX6_elbows 7 = .ok (.aload_n 0, 1) := by decide +kernel
theorem dX6_elbows_8 : decode cX6_elbows 8 = .ok (.iload_n 1, 1) := by decide +kernel
theorem dX6_elbows_9 : decode cX6_elbows 9 = .ok (.invokevirtual 151, 3) := by decide +kernel
theorem dX6_elbows_12 : decode cX6_elbows 12 = .ok (.goto 5, 3) := by decide +kernel
theorem dX6_elbows_15 : decode cX6_elbows 15 = .ok (.bipush (-2), 2) := by decide +kernel
theorem dX6_elbows_17 : decode cX6_elbows 17 = .ok (.ireturn, 1) := by decide +kernel
theorem dX6_set_0 : decode cX6_set 0 = .ok (.iload_n 1, 1) := by decide +kernel
theorem dX6_set_1 : decode cX6_set 1 = .ok (.iconst 0, 1) := by decide +kernel
theorem dX6_set_2 : decode cX6_set 2 = .ok (.iconst 2, 1) := by decide +kernel
theorem dX6_set_3 : decode cX6_set 3 = .ok (.invokestatic 103, 3) := by decide +kernel
theorem dX6_set_6 : decode cX6_set 6 = .ok (.ifCond .eq 40, 3) := by decide +kernel
theorem dX6_set_9 : decode cX6_set 9 = .ok (.iload_n 2, 1) := by decide +kernel
theorem dX6_set_10 : decode cX6_set 10 = .ok (.iload_n 1, 1) := by decide +kernel
theorem dX6_set_11 : decode cX6_set 11 = .ok (.ifCond .ne 7, 3) := by decide +kernel
theorem dX6_set_14 : decode cX6_set 14 = .ok (.iconst 0, 1) := by decide +kernel
theorem dX6_set_15 : decode cX6_set 15 = .ok (.goto 4, 3) := by decide +kernel
theorem dX6_set_18 : decode cX6_set 18 = .ok (.iconst 1, 1) := by decide +kernel
theorem dX6_set_19 : decode cX6_set 19 = .ok (.iload_n 1, 1) := by decide +kernel
theorem dX6_set_20 : decode cX6_set 20 = .ok (.ifCond .ne 8, 3) := by decide +kernel
theorem dX6_set_23 : decode cX6_set 23 = .ok (.bipush 60, 2) := by decide +kernel
theorem dX6_set_25 : decode cX6_set 25 = .ok (.goto 15, 3) := by decide +kernel
theorem dX6_set_28 : decode cX6_set 28 = .ok (.iload_n 1, 1) := by decide +kernel
theorem dX6_set_29 : decode cX6_set 29 = .ok (.iconst 1, 1) := by decide +kernel
theorem dX6_set_30 : decode cX6_set 30 = .ok (.if_icmp .ne 8, 3) := by decide +kernel
theorem dX6_set_33 : decode cX6_set 33 = .ok (.bipush 99, 2) := by decide +kernel
theorem dX6_set_35 : decode cX6_set 35 = .ok (.goto 5, 3) := by decide +kernel
theorem dX6_set_38 : decode cX6_set 38 = .ok (.bipush 9, 2) := by decide +kernel
theorem dX6_set_40 : decode cX6_set 40 = .ok (.invokestatic 103, 3) := by decide +kernel
theorem dX6_set_43 : decode cX6_set 43 = .ok (.ifCond .ne 6, 3) := by decide +kernel
theorem dX6_set_46 : decode cX6_set 46 = .ok (.bipush (-2), 2) := by decide +kernel
theorem dX6_set_48 : decode cX6_set 48 = .ok (.ireturn, 1) := by decide +kernel
theorem dX6_set_49 : decode cX6_set 49 = .ok (.aload_n 0, 1) := by decide +kernel
theorem dX6_set_50 : decode cX6_set 50 = .ok (.getfield 34, 3) := by decide +kernel
theorem dX6_set_53 : decode cX6_set 53 = .ok (.iload_n 1, 1) := by decide +kernel
theorem dX6_set_54 : decode cX6_set 54 = .ok (.iaload, 1) := by decide +kernel
theorem dX6_set_55 : decode cX6_set 55 = .ok (.istore_n 3, 1) := by decide +kernel
theorem dX6_set_56 : decode cX6_set 56 = .ok (.aload_n 0, 1) := by decide +kernel
theorem dX6_set_57 : decode cX6_set 57 = .ok (.getfield 34, 3) := by decide +kernel
theorem dX6_set_60 : decode cX6_set 60 = .ok (.iload_n 1, 1) := by decide +kernel
theorem dX6_set_61 : decode cX6_set 61 = .ok (.iload_n 2, 1) := by decide +kernel
theorem dX6_set_62 : decode cX6_set 62 = .ok (.iastore, 1) := by decide +kernel
theorem dX6_set_63 : decode cX6_set 63 = .ok (.iload_n 3, 1) := by decide +kernel
theorem dX6_set_64 : decode cX6_set 64 = .ok (.ireturn, 1) := by decide +kernel
theorem dX6_leak_0 : decode cX6_leak 0 = .ok (.iload_n 1, 1) := by decide +kernel
theorem dX6_leak_1 : decode cX6_leak 1 = .ok (.invokestatic 148, 3) := by decide +kernel
theorem dX6_leak_4 : decode cX6_leak 4 = .ok (.ifCond .eq 20, 3) := by decide +kernel
theorem dX6_leak_7 : decode cX6_leak 7 = .ok (.iload_n 2, 1) := by decide +kernel
theorem dX6_leak_8 : decode cX6_leak 8 = .ok (.iconst 1, 1) := by decide +kernel
theorem dX6_leak_9 : decode cX6_leak 9 = .ok (.bipush 9, 2) := by decide +kernel
theorem dX6_leak_11 : decode cX6_leak 11 = .ok (.invokestatic 103, 3) := by decide +kernel
theorem dX6_leak_14 : decode cX6_leak 14 = .ok (.ifCond .eq 10, 3) := by decide +kernel
theorem dX6_leak_17 : decode cX6_leak 17 = .ok (.iload_n 3, 1) := by decide +kernel
theorem dX6_leak_18 : decode cX6_leak 18 = .ok (.invokestatic 148, 3) := by decide +kernel
theorem dX6_leak_21 : decode cX6_leak 21 = .ok (.ifCond .ne 6, 3) := by decide +kernel
theorem dX6_leak_24 : decode cX6_leak 24 = .ok (.bipush (-2), 2) := by decide +kernel
theorem dX6_leak_26 : decode cX6_leak 26 = .ok (.ireturn, 1) := by decide +kernel
theorem dX6_leak_27 : decode cX6_leak 27 = .ok (.aload_n 0, 1) := by decide +kernel
theorem dX6_leak_28 : decode cX6_leak 28 = .ok (.getfield 154, 3) := by decide +kernel
theorem dX6_leak_31 : decode cX6_leak 31 = .ok (.bipush 6, 2) := by decide +kernel
theorem dX6_leak_33 : decode cX6_leak 33 = .ok (.if_icmp .ne 6, 3) := by decide +kernel
theorem dX6_leak_36 : decode cX6_leak 36 = .ok (.bipush (-4), 2) := by decide +kernel
theorem dX6_leak_38 : decode cX6_leak 38 = .ok (.ireturn, 1) := by decide +kernel
theorem dX6_leak_39 : decode cX6_leak 39 = .ok (.aload_n 0, 1) := by decide +kernel
theorem dX6_leak_40 : decode cX6_leak 40 = .ok (.getfield 37, 3) := by decide +kernel
theorem dX6_leak_43 : decode cX6_leak 43 = .ok (.aload_n 0, 1) := by decide +kernel
theorem dX6_leak_44 : decode cX6_leak 44 = .ok (.getfield 154, 3) := by decide +kernel
theorem dX6_leak_47 : decode cX6_leak 47 = .ok (.iload_n 1, 1) := by decide +kernel
theorem dX6_leak_48 : decode cX6_leak 48 = .ok (.iastore, 1) := by decide +kernel
theorem dX6_leak_49 : decode cX6_leak 49 = .ok (.aload_n 0, 1) := by decide +kernel
theorem dX6_leak_50 : decode cX6_leak 50 = .ok (.getfield 40, 3) := by decide +kernel
theorem dX6_leak_53 : decode cX6_leak 53 = .ok (.aload_n 0, 1) := by decide +kernel
theorem dX6_leak_54 : decode cX6_leak 54 = .ok (.getfield 154, 3) := by decide +kernel
theorem dX6_leak_57 : decode cX6_leak 57 = .ok (.iload_n 2, 1) := by decide +kernel
theorem dX6_leak_58 : decode cX6_leak 58 = .ok (.iastore, 1) := by decide +kernel
theorem dX6_leak_59 : decode cX6_leak 59 = .ok (.aload_n 0, 1) := by decide +kernel
theorem dX6_leak_60 : decode cX6_leak 60 = .ok (.getfield 43, 3) := by decide +kernel
theorem dX6_leak_63 : decode cX6_leak 63 = .ok (.aload_n 0, 1) := by decide +kernel
theorem dX6_leak_64 : decode cX6_leak 64 = .ok (.getfield 154, 3) := by decide +kernel
theorem dX6_leak_67 : decode cX6_leak 67 = .ok (.iload_n 3, 1) := by decide +kernel
theorem dX6_leak_68 : decode cX6_leak 68 = .ok (.iastore, 1) := by decide +kernel
theorem dX6_leak_69 : decode cX6_leak 69 = .ok (.aload_n 0, 1) := by decide +kernel
theorem dX6_leak_70 : decode cX6_leak 70 = .ok (.dup, 1) := by decide +kernel
theorem dX6_leak_71 : decode cX6_leak 71 = .ok (.getfield 154, 3) := by decide +kernel
theorem dX6_leak_74 : decode cX6_leak 74 = .ok (.iconst 1, 1) := by decide +kernel
theorem dX6_leak_75 : decode cX6_leak 75 = .ok (.iadd, 1) := by decide +kernel
theorem dX6_leak_76 : decode cX6_leak 76 = .ok (.putfield 154, 3) := by decide +kernel
theorem dX6_leak_79 : decode cX6_leak 79 = .ok (.aload_n 0, 1) := by decide +kernel
theorem dX6_leak_80 : decode cX6_leak 80 = .ok (.getfield 154, 3) := by decide +kernel
theorem dX6_leak_83 : decode cX6_leak 83 = .ok (.ireturn, 1) := by decide +kernel
theorem dX6_pinch_0 : decode cX6_pinch 0 = .ok (.iload_n 1, 1) := by decide +kernel
theorem dX6_pinch_1 : decode cX6_pinch 1 = .ok (.invokestatic 148, 3) := by decide +kernel
theorem dX6_pinch_4 : decode cX6_pinch 4 = .ok (.ifCond .eq 13, 3) := by decide +kernel
theorem dX6_pinch_7 : decode cX6_pinch 7 = .ok (.iload_n 2, 1) := by decide +kernel
theorem dX6_pinch_8 : decode cX6_pinch 8 = .ok (.iconst 0, 1) := by decide +kernel
theorem dX6_pinch_9 : decode cX6_pinch 9 = .ok (.bipush 7, 2) := by decide +kernel
theorem dX6_pinch_11 : decode cX6_pinch 11 = .ok (.invokestatic 103, 3) := by decide +kernel
theorem dX6_pinch_14 : decode cX6_pinch 14 = .ok (.ifCond .ne 6, 3) := by decide +kernel
theorem dX6_pinch_17 : decode cX6_pinch 17 = .ok (.bipush (-2), 2) := by decide +kernel
theorem dX6_pinch_19 : decode cX6_pinch 19 = .ok (.ireturn, 1) := by decide +kernel
theorem dX6_pinch_20 : decode cX6_pinch 20 = .ok (.aload_n 0, 1) := by decide +kernel
theorem dX6_pinch_21 : decode cX6_pinch 21 = .ok (.getfield 157, 3) := by decide +kernel
theorem dX6_pinch_24 : decode cX6_pinch 24 = .ok (.bipush 6, 2) := by decide +kernel
theorem dX6_pinch_26 : decode cX6_pinch 26 = .ok (.if_icmp .ne 6, 3) := by decide +kernel
theorem dX6_pinch_29 : decode cX6_pinch 29 = .ok (.bipush (-4), 2) := by decide +kernel
theorem dX6_pinch_31 : decode cX6_pinch 31 = .ok (.ireturn, 1) := by decide +kernel
theorem dX6_pinch_32 : decode cX6_pinch 32 = .ok (.aload_n 0, 1) := by decide +kernel
theorem dX6_pinch_33 : decode cX6_pinch 33 = .ok (.getfield 46, 3) := by decide +kernel
theorem dX6_pinch_36 : decode cX6_pinch 36 = .ok (.aload_n 0, 1) := by decide +kernel
theorem dX6_pinch_37 : decode cX6_pinch 37 = .ok (.getfield 157, 3) := by decide +kernel
theorem dX6_pinch_40 : decode cX6_pinch 40 = .ok (.iload_n 1, 1) := by decide +kernel
theorem dX6_pinch_41 : decode cX6_pinch 41 = .ok (.iastore, 1) := by decide +kernel
theorem dX6_pinch_42 : decode cX6_pinch 42 = .ok (.aload_n 0, 1) := by decide +kernel
theorem dX6_pinch_43 : decode cX6_pinch 43 = .ok (.getfield 49, 3) := by decide +kernel
theorem dX6_pinch_46 : decode cX6_pinch 46 = .ok (.aload_n 0, 1) := by decide +kernel
theorem dX6_pinch_47 : decode cX6_pinch 47 = .ok (.getfield 157, 3) := by decide +kernel
theorem dX6_pinch_50 : decode cX6_pinch 50 = .ok (.iload_n 2, 1) := by decide +kernel
theorem dX6_pinch_51 : decode cX6_pinch 51 = .ok (.iastore, 1) := by decide +kernel
theorem dX6_pinch_52 : decode cX6_pinch 52 = .ok (.aload_n 0, 1) := by decide +kernel
theorem dX6_pinch_53 : decode cX6_pinch 53 = .ok (.dup, 1) := by decide +kernel
theorem dX6_pinch_54 : decode cX6_pinch 54 = .ok (.getfield 157, 3) := by decide +kernel
theorem dX6_pinch_57 : decode cX6_pinch 57 = .ok (.iconst 1, 1) := by decide +kernel
theorem dX6_pinch_58 : decode cX6_pinch 58 = .ok (.iadd, 1) := by decide +kernel
theorem dX6_pinch_59 : decode cX6_pinch 59 = .ok (.putfield 157, 3) := by decide +kernel
theorem dX6_pinch_62 : decode cX6_pinch 62 = .ok (.aload_n 0, 1) := by decide +kernel
theorem dX6_pinch_63 : decode cX6_pinch 63 = .ok (.getfield 157, 3) := by decide +kernel
theorem dX6_pinch_66 : decode cX6_pinch 66 = .ok (.ireturn, 1) := by decide +kernel
theorem dX6_back_0 : decode cX6_back 0 = .ok (.iload_n 1, 1) := by decide +kernel
theorem dX6_back_1 : decode cX6_back 1 = .ok (.iconst 0, 1) := by decide +kernel
theorem dX6_back_2 : decode cX6_back 2 = .ok (.iconst 1, 1) := by decide +kernel
theorem dX6_back_3 : decode cX6_back 3 = .ok (.invokestatic 103, 3) := by decide +kernel
theorem dX6_back_6 : decode cX6_back 6 = .ok (.ifCond .ne 6, 3) := by decide +kernel
theorem dX6_back_9 : decode cX6_back 9 = .ok (.bipush (-2), 2) := by decide +kernel
theorem dX6_back_11 : decode cX6_back 11 = .ok (.ireturn, 1) := by decide +kernel
theorem dX6_back_12 : decode cX6_back 12 = .ok (.iload_n 1, 1) := by decide +kernel
theorem dX6_back_13 : decode cX6_back 13 = .ok (.ifCond .ne 10, 3) := by decide +kernel
theorem dX6_back_16 : decode cX6_back 16 = .ok (.aload_n 0, 1) := by decide +kernel
theorem dX6_back_17 : decode cX6_back 17 = .ok (.getfield 154, 3) := by decide +kernel
theorem dX6_back_20 : decode cX6_back 20 = .ok (.goto 7, 3) := by decide +kernel
theorem dX6_back_23 : decode cX6_back 23 = .ok (.aload_n 0, 1) := by decide +kernel
theorem dX6_back_24 : decode cX6_back 24 = .ok (.getfield 157, 3) := by decide +kernel
theorem dX6_back_27 : decode cX6_back 27 = .ok (.istore_n 2, 1) := by decide +kernel
theorem dX6_back_28 : decode cX6_back 28 = .ok (.iload_n 2, 1) := by decide +kernel
theorem dX6_back_29 : decode cX6_back 29 = .ok (.ifCond .ne 6, 3) := by decide +kernel
theorem dX6_back_32 : decode cX6_back 32 = .ok (.bipush (-3), 2) := by decide +kernel
theorem dX6_back_34 : decode cX6_back 34 = .ok (.ireturn, 1) := by decide +kernel
theorem dX6_back_35 : decode cX6_back 35 = .ok (.aload_n 0, 1) := by decide +kernel
theorem dX6_back_36 : decode cX6_back 36 = .ok (.dup, 1) := by decide +kernel
theorem dX6_back_37 : decode cX6_back 37 = .ok (.getfield 154, 3) := by decide +kernel
theorem dX6_back_40 : decode cX6_back 40 = .ok (.iload_n 1, 1) := by decide +kernel
theorem dX6_back_41 : decode cX6_back 41 = .ok (.ifCond .ne 7, 3) := by decide +kernel
theorem dX6_back_44 : decode cX6_back 44 = .ok (.iconst 1, 1) := by decide +kernel
theorem dX6_back_45 : decode cX6_back 45 = .ok (.goto 4, 3) := by decide +kernel
theorem dX6_back_48 : decode cX6_back 48 = .ok (.iconst 0, 1) := by decide +kernel
theorem dX6_back_49 : decode cX6_back 49 = .ok (.isub, 1) := by decide +kernel
theorem dX6_back_50 : decode cX6_back 50 = .ok (.putfield 154, 3) := by decide +kernel
theorem dX6_back_53 : decode cX6_back 53 = .ok (.aload_n 0, 1) := by decide +kernel
theorem dX6_back_54 : decode cX6_back 54 = .ok (.dup, 1) := by decide +kernel
theorem dX6_back_55 : decode cX6_back 55 = .ok (.getfield 157, 3) := by decide +kernel
theorem dX6_back_58 : decode cX6_back 58 = .ok (.iload_n 1, 1) := by decide +kernel
theorem dX6_back_59 : decode cX6_back 59 = .ok (.iconst 1, 1) := by decide +kernel
theorem dX6_back_60 : decode cX6_back 60 = .ok (.if_icmp .ne 7, 3) := by decide +kernel
theorem dX6_back_63 : decode cX6_back 63 = .ok (.iconst 1, 1) := by decide +kernel
theorem dX6_back_64 : decode cX6_back 64 = .ok (.goto 4, 3) := by decide +kernel
theorem dX6_back_67 : decode cX6_back 67 = .ok (.iconst 0, 1) := by decide +kernel
theorem dX6_back_68 : decode cX6_back 68 = .ok (.isub, 1) := by decide +kernel
theorem dX6_back_69 : decode cX6_back 69 = .ok (.putfield 157, 3) := by decide +kernel
theorem dX6_back_72 : decode cX6_back 72 = .ok (.iload_n 2, 1) := by decide +kernel
theorem dX6_back_73 : decode cX6_back 73 = .ok (.iconst 1, 1) := by decide +kernel
theorem dX6_back_74 : decode cX6_back 74 = .ok (.isub, 1) := by decide +kernel
theorem dX6_back_75 : decode cX6_back 75 = .ok (.ireturn, 1) := by decide +kernel
theorem dX6_read_0 : decode cX6_read 0 = .ok (.iload_n 1, 1) := by decide +kernel
theorem dX6_read_1 : decode cX6_read 1 = .ok (.invokestatic 160, 3) := by decide +kernel
theorem dX6_read_4 : decode cX6_read 4 = .ok (.ifCond .ne 6, 3) := by decide +kernel
theorem dX6_read_7 : decode cX6_read 7 = .ok (.bipush (-2), 2) := by decide +kernel
theorem dX6_read_9 : decode cX6_read 9 = .ok (.ireturn, 1) := by decide +kernel
theorem dX6_read_10 : decode cX6_read 10 = .ok (.aload_n 0, 1) := by decide +kernel
theorem dX6_read_11 : decode cX6_read 11 = .ok (.getfield 85, 3) := by decide +kernel
theorem dX6_read_14 : decode cX6_read 14 = .ok (.iload_n 1, 1) := by decide +kernel
theorem dX6_read_15 : decode cX6_read 15 = .ok (.baload, 1) := by decide +kernel
theorem dX6_read_16 : decode cX6_read 16 = .ok (.ifCond .ne 9, 3) := by decide +kernel
theorem dX6_read_19 : decode cX6_read 19 = .ok (.aload_n 0, 1) := by decide +kernel
theorem dX6_read_20 : decode cX6_read 20 = .ok (.iconst 1, 1) := by decide +kernel
theorem dX6_read_21 : decode cX6_read 21 = .ok (.invokevirtual 163, 3) := by decide +kernel
theorem dX6_read_24 : decode cX6_read 24 = .ok (.ireturn, 1) := by decide +kernel
theorem dX6_read_25 : decode cX6_read 25 = .ok (.iconst 0, 1) := by decide +kernel
theorem dX6_read_26 : decode cX6_read 26 = .ok (.istore_n 2, 1) := by decide +kernel
theorem dX6_read_27 : decode cX6_read 27 = .ok (.iconst 2, 1) := by decide +kernel
theorem dX6_read_28 : decode cX6_read 28 = .ok (.iload_n 2, 1) := by decide +kernel
theorem dX6_read_29 : decode cX6_read 29 = .ok (.imul, 1) := by decide +kernel
theorem dX6_read_30 : decode cX6_read 30 = .ok (.iconst 1, 1) := by decide +kernel
theorem dX6_read_31 : decode cX6_read 31 = .ok (.iadd, 1) := by decide +kernel
theorem dX6_read_32 : decode cX6_read 32 = .ok (.aload_n 0, 1) := by decide +kernel
theorem dX6_read_33 : decode cX6_read 33 = .ok (.getfield 92, 3) := by decide +kernel
theorem dX6_read_36 : decode cX6_read 36 = .ok (.iload_n 1, 1) := by decide +kernel
theorem dX6_read_37 : decode cX6_read 37 = .ok (.iaload, 1) := by decide +kernel
theorem dX6_read_38 : decode cX6_read 38 = .ok (.if_icmp .ge 44, 3) := by decide +kernel
theorem dX6_read_41 : decode cX6_read 41 = .ok (.aload_n 0, 1) := by decide +kernel
theorem dX6_read_42 : decode cX6_read 42 = .ok (.aload_n 0, 1) := by decide +kernel
theorem dX6_read_43 : decode cX6_read 43 = .ok (.getfield 95, 3) := by decide +kernel
theorem dX6_read_46 : decode cX6_read 46 = .ok (.bipush 60, 2) := by decide +kernel
theorem dX6_read_48 : decode cX6_read 48 = .ok (.iload_n 1, 1) := by decide +kernel
theorem dX6_read_49 : decode cX6_read 49 = .ok (.imul, 1) := by decide +kernel
theorem dX6_read_50 : decode cX6_read 50 = .ok (.iconst 2, 1) := by decide +kernel
theorem dX6_read_51 : decode cX6_read 51 = .ok (.iload_n 2, 1) := by decide +kernel
theorem dX6_read_52 : decode cX6_read 52 = .ok (.imul, 1) := by decide +kernel
theorem dX6_read_53 : decode cX6_read 53 = .ok (.iadd, 1) := by decide +kernel
theorem dX6_read_54 : decode cX6_read 54 = .ok (.iaload, 1) := by decide +kernel
theorem dX6_read_55 : decode cX6_read 55 = .ok (.aload_n 0, 1) := by decide +kernel
theorem dX6_read_56 : decode cX6_read 56 = .ok (.getfield 95, 3) := by decide +kernel
theorem dX6_read_59 : decode cX6_read 59 = .ok (.bipush 60, 2) := by decide +kernel
theorem dX6_read_61 : decode cX6_read 61 = .ok (.iload_n 1, 1) := by decide +kernel
theorem dX6_read_62 : decode cX6_read 62 = .ok (.imul, 1) := by decide +kernel
theorem dX6_read_63 : decode cX6_read 63 = .ok (.iconst 2, 1) := by decide +kernel
theorem dX6_read_64 : decode cX6_read 64 = .ok (.iload_n 2, 1) := by decide +kernel
theorem dX6_read_65 : decode cX6_read 65 = .ok (.imul, 1) := by decide +kernel
theorem dX6_read_66 : decode cX6_read 66 = .ok (.iadd, 1) := by decide +kernel
theorem dX6_read_67 : decode cX6_read 67 = .ok (.iconst 1, 1) := by decide +kernel
theorem dX6_read_68 : decode cX6_read 68 = .ok (.iadd, 1) := by decide +kernel
theorem dX6_read_69 : decode cX6_read 69 = .ok (.iaload, 1) := by decide +kernel
theorem dX6_read_70 : decode cX6_read 70 = .ok (.invokevirtual 166, 3) := by decide +kernel
theorem dX6_read_73 : decode cX6_read 73 = .ok (.ifCond .le 9, 3) := by decide +kernel
theorem dX6_read_76 : decode cX6_read 76 = .ok (.iinc 2 1, 3) := by decide +kernel
theorem dX6_read_79 : decode cX6_read 79 = .ok (.goto (-52), 3) := by decide +kernel
theorem dX6_read_82 : decode cX6_read 82 = .ok (.iload_n 2, 1) := by decide +kernel
theorem dX6_read_83 : decode cX6_read 83 = .ok (.ireturn, 1) := by decide +kernel
theorem dX6_asTold_0 : decode cX6_asTold 0 = .ok (.aload_n 0, 1) := by decide +kernel
theorem dX6_asTold_1 : decode cX6_asTold 1 = .ok (.invokevirtual 139, 3) := by decide +kernel
theorem dX6_asTold_4 : decode cX6_asTold 4 = .ok (.iconst 0, 1) := by decide +kernel
theorem dX6_asTold_5 : decode cX6_asTold 5 = .ok (.istore_n 1, 1) := by decide +kernel
theorem dX6_asTold_6 : decode cX6_asTold 6 = .ok (.iload_n 1, 1) := by decide +kernel
theorem dX6_asTold_7 : decode cX6_asTold 7 = .ok (.bipush 40, 2) := by decide +kernel
theorem dX6_asTold_9 : decode cX6_asTold 9 = .ok (.if_icmp .ge 21, 3) := by decide +kernel
theorem dX6_asTold_12 : decode cX6_asTold 12 = .ok (.aload_n 0, 1) := by decide +kernel
theorem dX6_asTold_13 : decode cX6_asTold 13 = .ok (.getfield 52, 3) := by decide +kernel
theorem dX6_asTold_16 : decode cX6_asTold 16 = .ok (.iload_n 1, 1) := by decide +kernel
theorem dX6_asTold_17 : decode cX6_asTold 17 = .ok (.aload_n 0, 1) := by decide +kernel
theorem dX6_asTold_18 : decode cX6_asTold 18 = .ok (.getfield 31, 3) := by decide +kernel
theorem dX6_asTold_21 : decode cX6_asTold 21 = .ok (.iload_n 1, 1) := by decide +kernel
theorem dX6_asTold_22 : decode cX6_asTold 22 = .ok (.iaload, 1) := by decide +kernel
theorem dX6_asTold_23 : decode cX6_asTold 23 = .ok (.iastore, 1) := by decide +kernel
theorem dX6_asTold_24 : decode cX6_asTold 24 = .ok (.iinc 1 1, 3) := by decide +kernel
theorem dX6_asTold_27 : decode cX6_asTold 27 = .ok (.goto (-21), 3) := by decide +kernel
theorem dX6_asTold_30 : decode cX6_asTold 30 = .ok (.aload_n 0, 1) := by decide +kernel
theorem dX6_asTold_31 : decode cX6_asTold 31 = .ok (.iconst 0, 1) := by decide +kernel
theorem dX6_asTold_32 : decode cX6_asTold 32 = .ok (.putfield 169, 3) := by decide +kernel
theorem dX6_asTold_35 : decode cX6_asTold 35 = .ok (.aload_n 0, 1) := by decide +kernel
theorem dX6_asTold_36 : decode cX6_asTold 36 = .ok (.iconst 0, 1) := by decide +kernel
theorem dX6_asTold_37 : decode cX6_asTold 37 = .ok (.putfield 172, 3) := by decide +kernel
theorem dX6_asTold_40 : decode cX6_asTold 40 = .ok (.aload_n 0, 1) := by decide +kernel
theorem dX6_asTold_41 : decode cX6_asTold 41 = .ok (.iconst (-1), 1) := by decide +kernel
theorem dX6_asTold_42 : decode cX6_asTold 42 = .ok (.putfield 175, 3) := by decide +kernel
theorem dX6_asTold_45 : decode cX6_asTold 45 = .ok (.aload_n 0, 1) := by decide +kernel
theorem dX6_asTold_46 : decode cX6_asTold 46 = .ok (.aload_n 0, 1) := by decide +kernel
theorem dX6_asTold_47 : decode cX6_asTold 47 = .ok (.getfield 34, 3) := by decide +kernel
theorem dX6_asTold_50 : decode cX6_asTold 50 = .ok (.iconst 0, 1) := by decide +kernel
theorem dX6_asTold_51 : decode cX6_asTold 51 = .ok (.iaload, 1) := by decide +kernel
theorem dX6_asTold_52 : decode cX6_asTold 52 = .ok (.putfield 178, 3) := by decide +kernel
theorem dX6_asTold_55 : decode cX6_asTold 55 = .ok (.return_, 1) := by decide +kernel
theorem dX6_doneIn_0 : decode cX6_doneIn 0 = .ok (.aload_n 0, 1) := by decide +kernel
theorem dX6_doneIn_1 : decode cX6_doneIn 1 = .ok (.getfield 28, 3) := by decide +kernel
theorem dX6_doneIn_4 : decode cX6_doneIn 4 = .ok (.iconst 3, 1) := by decide +kernel
theorem dX6_doneIn_5 : decode cX6_doneIn 5 = .ok (.iload_n 1, 1) := by decide +kernel
theorem dX6_doneIn_6 : decode cX6_doneIn 6 = .ok (.imul, 1) := by decide +kernel
theorem dX6_doneIn_7 : decode cX6_doneIn 7 = .ok (.iload_n 2, 1) := by decide +kernel
theorem dX6_doneIn_8 : decode cX6_doneIn 8 = .ok (.aload_n 0, 1) := by decide +kernel
theorem dX6_doneIn_9 : decode cX6_doneIn 9 = .ok (.getfield 25, 3) := by decide +kernel
theorem dX6_doneIn_12 : decode cX6_doneIn 12 = .ok (.iload_n 1, 1) := by decide +kernel
theorem dX6_doneIn_13 : decode cX6_doneIn 13 = .ok (.iaload, 1) := by decide +kernel
theorem dX6_doneIn_14 : decode cX6_doneIn 14 = .ok (.irem, 1) := by decide +kernel
theorem dX6_doneIn_15 : decode cX6_doneIn 15 = .ok (.iadd, 1) := by decide +kernel
theorem dX6_doneIn_16 : decode cX6_doneIn 16 = .ok (.iaload, 1) := by decide +kernel
theorem dX6_doneIn_17 : decode cX6_doneIn 17 = .ok (.ireturn, 1) := by decide +kernel
theorem dX6_needs_0 : decode cX6_needs 0 = .ok (.iconst 1, 1) := by decide +kernel
theorem dX6_needs_1 : decode cX6_needs 1 = .ok (.aload_n 0, 1) := by decide +kernel
theorem dX6_needs_2 : decode cX6_needs 2 = .ok (.iload_n 1, 1) := by decide +kernel
theorem dX6_needs_3 : decode cX6_needs 3 = .ok (.iload_n 2, 1) := by decide +kernel
theorem dX6_needs_4 : decode cX6_needs 4 = .ok (.invokevirtual 181, 3) := by decide +kernel
theorem dX6_needs_7 : decode cX6_needs 7 = .ok (.ishl, 1) := by decide +kernel
theorem dX6_needs_8 : decode cX6_needs 8 = .ok (.ireturn, 1) := by decide +kernel
theorem dX6_leaking_0 : decode cX6_leaking 0 = .ok (.iconst 0, 1) := by decide +kernel
theorem dX6_leaking_1 : decode cX6_leaking 1 = .ok (.istore_n 2, 1) := by decide +kernel
theorem dX6_leaking_2 : decode cX6_leaking 2 = .ok (.iconst 0, 1) := by decide +kernel
theorem dX6_leaking_3 : decode cX6_leaking 3 = .ok (.istore_n 3, 1) := by decide +kernel
theorem dX6_leaking_4 : decode cX6_leaking 4 = .ok (.iload_n 3, 1) := by decide +kernel
theorem dX6_leaking_5 : decode cX6_leaking 5 = .ok (.aload_n 0, 1) := by decide +kernel
theorem dX6_leaking_6 : decode cX6_leaking 6 = .ok (.getfield 154, 3) := by decide +kernel
theorem dX6_leaking_9 : decode cX6_leaking 9 = .ok (.if_icmp .ge 80, 3) := by decide +kernel
theorem dX6_leaking_12 : decode cX6_leaking 12 = .ok (.iload_n 1, 1) := by decide +kernel
theorem dX6_leaking_13 : decode cX6_leaking 13 = .ok (.aload_n 0, 1) := by decide +kernel
theorem dX6_leaking_14 : decode cX6_leaking 14 = .ok (.getfield 37, 3) := by decide +kernel
theorem dX6_leaking_17 : decode cX6_leaking 17 = .ok (.iload_n 3, 1) := by decide +kernel
theorem dX6_leaking_18 : decode cX6_leaking 18 = .ok (.iaload, 1) := by decide +kernel
theorem dX6_leaking_19 : decode cX6_leaking 19 = .ok (.if_icmp .lt 32, 3) := by decide +kernel
theorem dX6_leaking_22 : decode cX6_leaking 22 = .ok (.aload_n 0, 1) := by decide +kernel
theorem dX6_leaking_23 : decode cX6_leaking 23 = .ok (.getfield 43, 3) := by decide +kernel
theorem dX6_leaking_26 : decode cX6_leaking 26 = .ok (.iload_n 3, 1) := by decide +kernel
theorem dX6_leaking_27 : decode cX6_leaking 27 = .ok (.iaload, 1) := by decide +kernel
theorem dX6_leaking_28 : decode cX6_leaking 28 = .ok (.aload_n 0, 1) := by decide +kernel
theorem dX6_leaking_29 : decode cX6_leaking 29 = .ok (.getfield 37, 3) := by decide +kernel
theorem dX6_leaking_32 : decode cX6_leaking 32 = .ok (.iload_n 3, 1) := by decide +kernel
theorem dX6_leaking_33 : decode cX6_leaking 33 = .ok (.iaload, 1) := by decide +kernel
theorem dX6_leaking_34 : decode cX6_leaking 34 = .ok (.if_icmp .le 13, 3) := by decide +kernel
theorem dX6_leaking_37 : decode cX6_leaking 37 = .ok (.iload_n 1, 1) := by decide +kernel
theorem dX6_leaking_38 : decode cX6_leaking 38 = .ok (.aload_n 0, 1) := by decide +kernel
theorem dX6_leaking_39 : decode cX6_leaking 39 = .ok (.getfield 43, 3) := by decide +kernel
theorem dX6_leaking_42 : decode cX6_leaking 42 = .ok (.iload_n 3, 1) := by decide +kernel
theorem dX6_leaking_43 : decode cX6_leaking 43 = .ok (.iaload, 1) := by decide +kernel
theorem dX6_leaking_44 : decode cX6_leaking 44 = .ok (.if_icmp .ge 7, 3) := by decide +kernel
theorem dX6_leaking_47 : decode cX6_leaking 47 = .ok (.iconst 1, 1) := by decide +kernel
theorem dX6_leaking_48 : decode cX6_leaking 48 = .ok (.goto 4, 3) := by decide +kernel
theorem dX6_leaking_51 : decode cX6_leaking 51 = .ok (.iconst 0, 1) := by decide +kernel
theorem dX6_leaking_52 : decode cX6_leaking 52 = .ok (.istore 4, 2) := by decide +kernel
theorem dX6_leaking_54 : decode cX6_leaking 54 = .ok (.iload_n 2, 1) := by decide +kernel
theorem dX6_leaking_55 : decode cX6_leaking 55 = .ok (.iload 4, 2) := by decide +kernel
theorem dX6_leaking_57 : decode cX6_leaking 57 = .ok (.ifCond .eq 23, 3) := by decide +kernel
theorem dX6_leaking_60 : decode cX6_leaking 60 = .ok (.aload_n 0, 1) := by decide +kernel
theorem dX6_leaking_61 : decode cX6_leaking 61 = .ok (.getfield 169, 3) := by decide +kernel
theorem dX6_leaking_64 : decode cX6_leaking 64 = .ok (.iload_n 3, 1) := by decide +kernel
theorem dX6_leaking_65 : decode cX6_leaking 65 = .ok (.invokestatic 184, 3) := by decide +kernel
theorem dX6_leaking_68 : decode cX6_leaking 68 = .ok (.ifCond .ne 12, 3) := by decide +kernel
theorem dX6_leaking_71 : decode cX6_leaking 71 = .ok (.aload_n 0, 1) := by decide +kernel
theorem dX6_leaking_72 : decode cX6_leaking 72 = .ok (.getfield 40, 3) := by decide +kernel
theorem dX6_leaking_75 : decode cX6_leaking 75 = .ok (.iload_n 3, 1) := by decide +kernel
theorem dX6_leaking_76 : decode cX6_leaking 76 = .ok (.iaload, 1) := by decide +kernel
theorem dX6_leaking_77 : decode cX6_leaking 77 = .ok (.goto 4, 3) := by decide +kernel
theorem dX6_leaking_80 : decode cX6_leaking 80 = .ok (.iconst 0, 1) := by decide +kernel
theorem dX6_leaking_81 : decode cX6_leaking 81 = .ok (.iadd, 1) := by decide +kernel
theorem dX6_leaking_82 : decode cX6_leaking 82 = .ok (.istore_n 2, 1) := by decide +kernel
theorem dX6_leaking_83 : decode cX6_leaking 83 = .ok (.iinc 3 1, 3) := by decide +kernel
theorem dX6_leaking_86 : decode cX6_leaking 86 = .ok (.goto (-82), 3) := by decide +kernel
theorem dX6_leaking_89 : decode cX6_leaking 89 = .ok (.iload_n 2, 1) := by decide +kernel
theorem dX6_leaking_90 : decode cX6_leaking 90 = .ok (.ireturn, 1) := by decide +kernel
theorem dX6_opens_0 : decode cX6_opens 0 = .ok (.iconst 0, 1) := by decide +kernel
theorem dX6_opens_1 : decode cX6_opens 1 = .ok (.istore_n 2, 1) := by decide +kernel
theorem dX6_opens_2 : decode cX6_opens 2 = .ok (.iload_n 2, 1) := by decide +kernel
theorem dX6_opens_3 : decode cX6_opens 3 = .ok (.aload_n 0, 1) := by decide +kernel
theorem dX6_opens_4 : decode cX6_opens 4 = .ok (.getfield 118, 3) := by decide +kernel
theorem dX6_opens_7 : decode cX6_opens 7 = .ok (.if_icmp .ge 33, 3) := by decide +kernel
theorem dX6_opens_10 : decode cX6_opens 10 = .ok (.aload_n 0, 1) := by decide +kernel
theorem dX6_opens_11 : decode cX6_opens 11 = .ok (.getfield 55, 3) := by decide +kernel
theorem dX6_opens_14 : decode cX6_opens 14 = .ok (.iload_n 2, 1) := by decide +kernel
theorem dX6_opens_15 : decode cX6_opens 15 = .ok (.iload_n 2, 1) := by decide +kernel
theorem dX6_opens_16 : decode cX6_opens 16 = .ok (.aload_n 0, 1) := by decide +kernel
theorem dX6_opens_17 : decode cX6_opens 17 = .ok (.getfield 175, 3) := by decide +kernel
theorem dX6_opens_20 : decode cX6_opens 20 = .ok (.if_icmp .ne 7, 3) := by decide +kernel
theorem dX6_opens_23 : decode cX6_opens 23 = .ok (.iconst 0, 1) := by decide +kernel
theorem dX6_opens_24 : decode cX6_opens 24 = .ok (.goto 9, 3) := by decide +kernel
theorem dX6_opens_27 : decode cX6_opens 27 = .ok (.aload_n 0, 1) := by decide +kernel
theorem dX6_opens_28 : decode cX6_opens 28 = .ok (.getfield 22, 3) := by decide +kernel
theorem dX6_opens_31 : decode cX6_opens 31 = .ok (.iload_n 2, 1) := by decide +kernel
theorem dX6_opens_32 : decode cX6_opens 32 = .ok (.iaload, 1) := by decide +kernel
theorem dX6_opens_33 : decode cX6_opens 33 = .ok (.iastore, 1) := by decide +kernel
theorem dX6_opens_34 : decode cX6_opens 34 = .ok (.iinc 2 1, 3) := by decide +kernel
theorem dX6_opens_37 : decode cX6_opens 37 = .ok (.goto (-35), 3) := by decide +kernel
theorem dX6_opens_40 : decode cX6_opens 40 = .ok (.iconst 0, 1) := by decide +kernel
theorem dX6_opens_41 : decode cX6_opens 41 = .ok (.istore_n 2, 1) := by decide +kernel
theorem dX6_opens_42 : decode cX6_opens 42 = .ok (.iload_n 2, 1) := by decide +kernel
theorem dX6_opens_43 : decode cX6_opens 43 = .ok (.aload_n 0, 1) := by decide +kernel
theorem dX6_opens_44 : decode cX6_opens 44 = .ok (.getfield 157, 3) := by decide +kernel
theorem dX6_opens_47 : decode cX6_opens 47 = .ok (.if_icmp .ge 55, 3) := by decide +kernel
theorem dX6_opens_50 : decode cX6_opens 50 = .ok (.aload_n 0, 1) := by decide +kernel
theorem dX6_opens_51 : decode cX6_opens 51 = .ok (.getfield 46, 3) := by decide +kernel
theorem dX6_opens_54 : decode cX6_opens 54 = .ok (.iload_n 2, 1) := by decide +kernel
theorem dX6_opens_55 : decode cX6_opens 55 = .ok (.iaload, 1) := by decide +kernel
theorem dX6_opens_56 : decode cX6_opens 56 = .ok (.iload_n 1, 1) := by decide +kernel
theorem dX6_opens_57 : decode cX6_opens 57 = .ok (.if_icmp .ne 39, 3) := by decide +kernel
theorem dX6_opens_60 : decode cX6_opens 60 = .ok (.aload_n 0, 1) := by decide +kernel
theorem dX6_opens_61 : decode cX6_opens 61 = .ok (.getfield 49, 3) := by decide +kernel
theorem dX6_opens_64 : decode cX6_opens 64 = .ok (.iload_n 2, 1) := by decide +kernel
theorem dX6_opens_65 : decode cX6_opens 65 = .ok (.iaload, 1) := by decide +kernel
theorem dX6_opens_66 : decode cX6_opens 66 = .ok (.aload_n 0, 1) := by decide +kernel
theorem dX6_opens_67 : decode cX6_opens 67 = .ok (.getfield 118, 3) := by decide +kernel
theorem dX6_opens_70 : decode cX6_opens 70 = .ok (.if_icmp .ge 26, 3) := by decide +kernel
theorem dX6_opens_73 : decode cX6_opens 73 = .ok (.aload_n 0, 1) := by decide +kernel
theorem dX6_opens_74 : decode cX6_opens 74 = .ok (.getfield 172, 3) := by decide +kernel
theorem dX6_opens_77 : decode cX6_opens 77 = .ok (.iload_n 2, 1) := by decide +kernel
theorem dX6_opens_78 : decode cX6_opens 78 = .ok (.invokestatic 184, 3) := by decide +kernel
theorem dX6_opens_81 : decode cX6_opens 81 = .ok (.ifCond .ne 15, 3) := by decide +kernel
theorem dX6_opens_84 : decode cX6_opens 84 = .ok (.aload_n 0, 1) := by decide +kernel
theorem dX6_opens_85 : decode cX6_opens 85 = .ok (.getfield 55, 3) := by decide +kernel
theorem dX6_opens_88 : decode cX6_opens 88 = .ok (.aload_n 0, 1) := by decide +kernel
theorem dX6_opens_89 : decode cX6_opens 89 = .ok (.getfield 49, 3) := by decide +kernel
theorem dX6_opens_92 : decode cX6_opens 92 = .ok (.iload_n 2, 1) := by decide +kernel
theorem dX6_opens_93 : decode cX6_opens 93 = .ok (.iaload, 1) := by decide +kernel
theorem dX6_opens_94 : decode cX6_opens 94 = .ok (.iconst 0, 1) := by decide +kernel
theorem dX6_opens_95 : decode cX6_opens 95 = .ok (.iastore, 1) := by decide +kernel
theorem dX6_opens_96 : decode cX6_opens 96 = .ok (.iinc 2 1, 3) := by decide +kernel
theorem dX6_opens_99 : decode cX6_opens 99 = .ok (.goto (-57), 3) := by decide +kernel
theorem dX6_opens_102 : decode cX6_opens 102 = .ok (.return_, 1) := by decide +kernel
theorem dX6_gets_0 : decode cX6_gets 0 = .ok (.aload_n 0, 1) := by decide +kernel
theorem dX6_gets_1 : decode cX6_gets 1 = .ok (.iload_n 1, 1) := by decide +kernel
theorem dX6_gets_2 : decode cX6_gets 2 = .ok (.iload_n 2, 1) := by decide +kernel
theorem dX6_gets_3 : decode cX6_gets 3 = .ok (.invokevirtual 188, 3) := by decide +kernel
theorem dX6_gets_6 : decode cX6_gets 6 = .ok (.istore_n 3, 1) := by decide +kernel
theorem dX6_gets_7 : decode cX6_gets 7 = .ok (.aload_n 0, 1) := by decide +kernel
theorem dX6_gets_8 : decode cX6_gets 8 = .ok (.getfield 191, 3) := by decide +kernel
theorem dX6_gets_11 : decode cX6_gets 11 = .ok (.iload_n 3, 1) := by decide +kernel
theorem dX6_gets_12 : decode cX6_gets 12 = .ok (.if_icmp .ge 10, 3) := by decide +kernel
theorem dX6_gets_15 : decode cX6_gets 15 = .ok (.aload_n 0, 1) := by decide +kernel
theorem dX6_gets_16 : decode cX6_gets 16 = .ok (.getfield 191, 3) := by decide +kernel
theorem dX6_gets_19 : decode cX6_gets 19 = .ok (.goto 4, 3) := by decide +kernel
theorem dX6_gets_22 : decode cX6_gets 22 = .ok (.iload_n 3, 1) := by decide +kernel
theorem dX6_gets_23 : decode cX6_gets 23 = .ok (.istore_n 3, 1) := by decide +kernel
theorem dX6_gets_24 : decode cX6_gets 24 = .ok (.iload_n 1, 1) := by decide +kernel
theorem dX6_gets_25 : decode cX6_gets 25 = .ok (.istore 4, 2) := by decide +kernel
theorem dX6_gets_27 : decode cX6_gets 27 = .ok (.iload 4, 2) := by decide +kernel
theorem dX6_gets_29 : decode cX6_gets 29 = .ok (.iconst (-1), 1) := by decide +kernel
theorem dX6_gets_30 : decode cX6_gets 30 = .ok (.if_icmp .eq 38, 3) := by decide +kernel
theorem dX6_gets_33 : decode cX6_gets 33 = .ok (.aload_n 0, 1) := by decide +kernel
theorem dX6_gets_34 : decode cX6_gets 34 = .ok (.getfield 55, 3) := by decide +kernel
theorem dX6_gets_37 : decode cX6_gets 37 = .ok (.iload 4, 2) := by decide +kernel
theorem dX6_gets_39 : decode cX6_gets 39 = .ok (.iaload, 1) := by decide +kernel
theorem dX6_gets_40 : decode cX6_gets 40 = .ok (.iload_n 3, 1) := by decide +kernel
theorem dX6_gets_41 : decode cX6_gets 41 = .ok (.if_icmp .ge 13, 3) := by decide +kernel
theorem dX6_gets_44 : decode cX6_gets 44 = .ok (.aload_n 0, 1) := by decide +kernel
theorem dX6_gets_45 : decode cX6_gets 45 = .ok (.getfield 55, 3) := by decide +kernel
theorem dX6_gets_48 : decode cX6_gets 48 = .ok (.iload 4, 2) := by decide +kernel
theorem dX6_gets_50 : decode cX6_gets 50 = .ok (.iaload, 1) := by decide +kernel
theorem dX6_gets_51 : decode cX6_gets 51 = .ok (.goto 4, 3) := by decide +kernel
theorem dX6_gets_54 : decode cX6_gets 54 = .ok (.iload_n 3, 1) := by decide +kernel
theorem dX6_gets_55 : decode cX6_gets 55 = .ok (.istore_n 3, 1) := by decide +kernel
theorem dX6_gets_56 : decode cX6_gets 56 = .ok (.aload_n 0, 1) := by decide +kernel
theorem dX6_gets_57 : decode cX6_gets 57 = .ok (.getfield 16, 3) := by decide +kernel
theorem dX6_gets_60 : decode cX6_gets 60 = .ok (.iload 4, 2) := by decide +kernel
theorem dX6_gets_62 : decode cX6_gets 62 = .ok (.iaload, 1) := by decide +kernel
theorem dX6_gets_63 : decode cX6_gets 63 = .ok (.istore 4, 2) := by decide +kernel
theorem dX6_gets_65 : decode cX6_gets 65 = .ok (.goto (-38), 3) := by decide +kernel
theorem dX6_gets_68 : decode cX6_gets 68 = .ok (.iload_n 1, 1) := by decide +kernel
theorem dX6_gets_69 : decode cX6_gets 69 = .ok (.istore 4, 2) := by decide +kernel
theorem dX6_gets_71 : decode cX6_gets 71 = .ok (.iload 4, 2) := by decide +kernel
theorem dX6_gets_73 : decode cX6_gets 73 = .ok (.iconst (-1), 1) := by decide +kernel
theorem dX6_gets_74 : decode cX6_gets 74 = .ok (.if_icmp .eq 26, 3) := by decide +kernel
theorem dX6_gets_77 : decode cX6_gets 77 = .ok (.aload_n 0, 1) := by decide +kernel
theorem dX6_gets_78 : decode cX6_gets 78 = .ok (.getfield 55, 3) := by decide +kernel
theorem dX6_gets_81 : decode cX6_gets 81 = .ok (.iload 4, 2) := by decide +kernel
theorem dX6_gets_83 : decode cX6_gets 83 = .ok (.dup2, 1) := by decide +kernel
theorem dX6_gets_84 : decode cX6_gets 84 = .ok (.iaload, 1) := by decide +kernel
theorem dX6_gets_85 : decode cX6_gets 85 = .ok (.iload_n 3, 1) := by decide +kernel
theorem dX6_gets_86 : decode cX6_gets 86 = .ok (.isub, 1) := by decide +kernel
theorem dX6_gets_87 : decode cX6_gets 87 = .ok (.iastore, 1) := by decide +kernel
theorem dX6_gets_88 : decode cX6_gets 88 = .ok (.aload_n 0, 1) := by decide +kernel
theorem dX6_gets_89 : decode cX6_gets 89 = .ok (.getfield 16, 3) := by decide +kernel
theorem dX6_gets_92 : decode cX6_gets 92 = .ok (.iload 4, 2) := by decide +kernel
theorem dX6_gets_94 : decode cX6_gets 94 = .ok (.iaload, 1) := by decide +kernel
theorem dX6_gets_95 : decode cX6_gets 95 = .ok (.istore 4, 2) := by decide +kernel
theorem dX6_gets_97 : decode cX6_gets 97 = .ok (.goto (-26), 3) := by decide +kernel
theorem dX6_gets_100 : decode cX6_gets 100 = .ok (.aload_n 0, 1) := by decide +kernel
theorem dX6_gets_101 : decode cX6_gets 101 = .ok (.dup, 1) := by decide +kernel
theorem dX6_gets_102 : decode cX6_gets 102 = .ok (.getfield 191, 3) := by decide +kernel
theorem dX6_gets_105 : decode cX6_gets 105 = .ok (.iload_n 3, 1) := by decide +kernel
theorem dX6_gets_106 : decode cX6_gets 106 = .ok (.isub, 1) := by decide +kernel
theorem dX6_gets_107 : decode cX6_gets 107 = .ok (.putfield 191, 3) := by decide +kernel
theorem dX6_gets_110 : decode cX6_gets 110 = .ok (.iload_n 3, 1) := by decide +kernel
theorem dX6_gets_111 : decode cX6_gets 111 = .ok (.ireturn, 1) := by decide +kernel
theorem dX6_goesBy_0 : decode cX6_goesBy 0 = .ok (.aload_n 0, 1) := by decide +kernel
theorem dX6_goesBy_1 : decode cX6_goesBy 1 = .ok (.dup, 1) := by decide +kernel
theorem dX6_goesBy_2 : decode cX6_goesBy 2 = .ok (.getfield 191, 3) := by decide +kernel
theorem dX6_goesBy_5 : decode cX6_goesBy 5 = .ok (.aload_n 0, 1) := by decide +kernel
theorem dX6_goesBy_6 : decode cX6_goesBy 6 = .ok (.getfield 34, 3) := by decide +kernel
theorem dX6_goesBy_9 : decode cX6_goesBy 9 = .ok (.iconst 2, 1) := by decide +kernel
theorem dX6_goesBy_10 : decode cX6_goesBy 10 = .ok (.iaload, 1) := by decide +kernel
theorem dX6_goesBy_11 : decode cX6_goesBy 11 = .ok (.aload_n 0, 1) := by decide +kernel
theorem dX6_goesBy_12 : decode cX6_goesBy 12 = .ok (.getfield 52, 3) := by decide +kernel
theorem dX6_goesBy_15 : decode cX6_goesBy 15 = .ok (.iload_n 1, 1) := by decide +kernel
theorem dX6_goesBy_16 : decode cX6_goesBy 16 = .ok (.iaload, 1) := by decide +kernel
theorem dX6_goesBy_17 : decode cX6_goesBy 17 = .ok (.imul, 1) := by decide +kernel
theorem dX6_goesBy_18 : decode cX6_goesBy 18 = .ok (.iadd, 1) := by decide +kernel
theorem dX6_goesBy_19 : decode cX6_goesBy 19 = .ok (.putfield 191, 3) := by decide +kernel
theorem dX6_goesBy_22 : decode cX6_goesBy 22 = .ok (.aload_n 0, 1) := by decide +kernel
theorem dX6_goesBy_23 : decode cX6_goesBy 23 = .ok (.aload_n 0, 1) := by decide +kernel
theorem dX6_goesBy_24 : decode cX6_goesBy 24 = .ok (.getfield 191, 3) := by decide +kernel
theorem dX6_goesBy_27 : decode cX6_goesBy 27 = .ok (.aload_n 0, 1) := by decide +kernel
theorem dX6_goesBy_28 : decode cX6_goesBy 28 = .ok (.getfield 34, 3) := by decide +kernel
theorem dX6_goesBy_31 : decode cX6_goesBy 31 = .ok (.iconst 1, 1) := by decide +kernel
theorem dX6_goesBy_32 : decode cX6_goesBy 32 = .ok (.iaload, 1) := by decide +kernel
theorem dX6_goesBy_33 : decode cX6_goesBy 33 = .ok (.if_icmp .ge 10, 3) := by decide +kernel
theorem dX6_goesBy_36 : decode cX6_goesBy 36 = .ok (.aload_n 0, 1) := by decide +kernel
theorem dX6_goesBy_37 : decode cX6_goesBy 37 = .ok (.getfield 191, 3) := by decide +kernel
theorem dX6_goesBy_40 : decode cX6_goesBy 40 = .ok (.goto 9, 3) := by decide +kernel
theorem dX6_goesBy_43 : decode cX6_goesBy 43 = .ok (.aload_n 0, 1) := by decide +kernel
theorem dX6_goesBy_44 : decode cX6_goesBy 44 = .ok (.getfield 34, 3) := by decide +kernel
theorem dX6_goesBy_47 : decode cX6_goesBy 47 = .ok (.iconst 1, 1) := by decide +kernel
theorem dX6_goesBy_48 : decode cX6_goesBy 48 = .ok (.iaload, 1) := by decide +kernel
theorem dX6_goesBy_49 : decode cX6_goesBy 49 = .ok (.putfield 191, 3) := by decide +kernel
theorem dX6_goesBy_52 : decode cX6_goesBy 52 = .ok (.aload_n 0, 1) := by decide +kernel
theorem dX6_goesBy_53 : decode cX6_goesBy 53 = .ok (.iload_n 1, 1) := by decide +kernel
theorem dX6_goesBy_54 : decode cX6_goesBy 54 = .ok (.invokevirtual 194, 3) := by decide +kernel
theorem dX6_goesBy_57 : decode cX6_goesBy 57 = .ok (.istore_n 2, 1) := by decide +kernel
theorem dX6_goesBy_58 : decode cX6_goesBy 58 = .ok (.aload_n 0, 1) := by decide +kernel
theorem dX6_goesBy_59 : decode cX6_goesBy 59 = .ok (.getfield 61, 3) := by decide +kernel
theorem dX6_goesBy_62 : decode cX6_goesBy 62 = .ok (.iload_n 1, 1) := by decide +kernel
theorem dX6_goesBy_63 : decode cX6_goesBy 63 = .ok (.iload_n 2, 1) := by decide +kernel
theorem dX6_goesBy_64 : decode cX6_goesBy 64 = .ok (.aload_n 0, 1) := by decide +kernel
theorem dX6_goesBy_65 : decode cX6_goesBy 65 = .ok (.getfield 191, 3) := by decide +kernel
theorem dX6_goesBy_68 : decode cX6_goesBy 68 = .ok (.if_icmp .ge 7, 3) := by decide +kernel
theorem dX6_goesBy_71 : decode cX6_goesBy 71 = .ok (.iload_n 2, 1) := by decide +kernel
theorem dX6_goesBy_72 : decode cX6_goesBy 72 = .ok (.goto 7, 3) := by decide +kernel
theorem dX6_goesBy_75 : decode cX6_goesBy 75 = .ok (.aload_n 0, 1) := by decide +kernel
theorem dX6_goesBy_76 : decode cX6_goesBy 76 = .ok (.getfield 191, 3) := by decide +kernel
theorem dX6_goesBy_79 : decode cX6_goesBy 79 = .ok (.iastore, 1) := by decide +kernel
theorem dX6_goesBy_80 : decode cX6_goesBy 80 = .ok (.aload_n 0, 1) := by decide +kernel
theorem dX6_goesBy_81 : decode cX6_goesBy 81 = .ok (.dup, 1) := by decide +kernel
theorem dX6_goesBy_82 : decode cX6_goesBy 82 = .ok (.getfield 191, 3) := by decide +kernel
theorem dX6_goesBy_85 : decode cX6_goesBy 85 = .ok (.aload_n 0, 1) := by decide +kernel
theorem dX6_goesBy_86 : decode cX6_goesBy 86 = .ok (.getfield 61, 3) := by decide +kernel
theorem dX6_goesBy_89 : decode cX6_goesBy 89 = .ok (.iload_n 1, 1) := by decide +kernel
theorem dX6_goesBy_90 : decode cX6_goesBy 90 = .ok (.iaload, 1) := by decide +kernel
theorem dX6_goesBy_91 : decode cX6_goesBy 91 = .ok (.isub, 1) := by decide +kernel
theorem dX6_goesBy_92 : decode cX6_goesBy 92 = .ok (.putfield 191, 3) := by decide +kernel
theorem dX6_goesBy_95 : decode cX6_goesBy 95 = .ok (.aload_n 0, 1) := by decide +kernel
theorem dX6_goesBy_96 : decode cX6_goesBy 96 = .ok (.iload_n 1, 1) := by decide +kernel
theorem dX6_goesBy_97 : decode cX6_goesBy 97 = .ok (.invokevirtual 197, 3) := by decide +kernel
theorem dX6_goesBy_100 : decode cX6_goesBy 100 = .ok (.aload_n 0, 1) := by decide +kernel
theorem dX6_goesBy_101 : decode cX6_goesBy 101 = .ok (.getfield 64, 3) := by decide +kernel
theorem dX6_goesBy_104 : decode cX6_goesBy 104 = .ok (.iload_n 1, 1) := by decide +kernel
theorem dX6_goesBy_105 : decode cX6_goesBy 105 = .ok (.iconst 0, 1) := by decide +kernel
theorem dX6_goesBy_106 : decode cX6_goesBy 106 = .ok (.iastore, 1) := by decide +kernel
theorem dX6_goesBy_107 : decode cX6_goesBy 107 = .ok (.aload_n 0, 1) := by decide +kernel
theorem dX6_goesBy_108 : decode cX6_goesBy 108 = .ok (.getfield 67, 3) := by decide +kernel
theorem dX6_goesBy_111 : decode cX6_goesBy 111 = .ok (.iload_n 1, 1) := by decide +kernel
theorem dX6_goesBy_112 : decode cX6_goesBy 112 = .ok (.iconst 0, 1) := by decide +kernel
theorem dX6_goesBy_113 : decode cX6_goesBy 113 = .ok (.iastore, 1) := by decide +kernel
theorem dX6_goesBy_114 : decode cX6_goesBy 114 = .ok (.iconst 0, 1) := by decide +kernel
theorem dX6_goesBy_115 : decode cX6_goesBy 115 = .ok (.istore_n 3, 1) := by decide +kernel
theorem dX6_goesBy_116 : decode cX6_goesBy 116 = .ok (.iload_n 3, 1) := by decide +kernel
theorem dX6_goesBy_117 : decode cX6_goesBy 117 = .ok (.aload_n 0, 1) := by decide +kernel
theorem dX6_goesBy_118 : decode cX6_goesBy 118 = .ok (.getfield 118, 3) := by decide +kernel
theorem dX6_goesBy_121 : decode cX6_goesBy 121 = .ok (.if_icmp .ge 83, 3) := by decide +kernel
theorem dX6_goesBy_124 : decode cX6_goesBy 124 = .ok (.aload_n 0, 1) := by decide +kernel
theorem dX6_goesBy_125 : decode cX6_goesBy 125 = .ok (.iload_n 3, 1) := by decide +kernel
theorem dX6_goesBy_126 : decode cX6_goesBy 126 = .ok (.iload_n 1, 1) := by decide +kernel
theorem dX6_goesBy_127 : decode cX6_goesBy 127 = .ok (.invokevirtual 201, 3) := by decide +kernel
theorem dX6_goesBy_130 : decode cX6_goesBy 130 = .ok (.istore 4, 2) := by decide +kernel
theorem dX6_goesBy_132 : decode cX6_goesBy 132 = .ok (.aload_n 0, 1) := by decide +kernel
theorem dX6_goesBy_133 : decode cX6_goesBy 133 = .ok (.getfield 70, 3) := by decide +kernel
theorem dX6_goesBy_136 : decode cX6_goesBy 136 = .ok (.bipush 8, 2) := by decide +kernel
theorem dX6_goesBy_138 : decode cX6_goesBy 138 = .ok (.iload_n 1, 1) := by decide +kernel
theorem dX6_goesBy_139 : decode cX6_goesBy 139 = .ok (.imul, 1) := by decide +kernel
theorem dX6_goesBy_140 : decode cX6_goesBy 140 = .ok (.iload_n 3, 1) := by decide +kernel
theorem dX6_goesBy_141 : decode cX6_goesBy 141 = .ok (.iadd, 1) := by decide +kernel
theorem dX6_goesBy_142 : decode cX6_goesBy 142 = .ok (.iload 4, 2) := by decide +kernel
theorem dX6_goesBy_144 : decode cX6_goesBy 144 = .ok (.iastore, 1) := by decide +kernel
theorem dX6_goesBy_145 : decode cX6_goesBy 145 = .ok (.aload_n 0, 1) := by decide +kernel
theorem dX6_goesBy_146 : decode cX6_goesBy 146 = .ok (.getfield 64, 3) := by decide +kernel
theorem dX6_goesBy_149 : decode cX6_goesBy 149 = .ok (.iload_n 1, 1) := by decide +kernel
theorem dX6_goesBy_150 : decode cX6_goesBy 150 = .ok (.dup2, 1) := by decide +kernel
theorem dX6_goesBy_151 : decode cX6_goesBy 151 = .ok (.iaload, 1) := by decide +kernel
theorem dX6_goesBy_152 : decode cX6_goesBy 152 = .ok (.iload 4, 2) := by decide +kernel
theorem dX6_goesBy_154 : decode cX6_goesBy 154 = .ok (.ifCond .le 14, 3) := by decide +kernel
theorem dX6_goesBy_157 : decode cX6_goesBy 157 = .ok (.iconst 1, 1) := by decide +kernel
theorem dX6_goesBy_158 : decode cX6_goesBy 158 = .ok (.aload_n 0, 1) := by decide +kernel
theorem dX6_goesBy_159 : decode cX6_goesBy 159 = .ok (.getfield 19, 3) := by decide +kernel
theorem dX6_goesBy_162 : decode cX6_goesBy 162 = .ok (.iload_n 3, 1) := by decide +kernel
theorem dX6_goesBy_163 : decode cX6_goesBy 163 = .ok (.iaload, 1) := by decide +kernel
theorem dX6_goesBy_164 : decode cX6_goesBy 164 = .ok (.ishl, 1) := by decide +kernel
theorem dX6_goesBy_165 : decode cX6_goesBy 165 = .ok (.goto 4, 3) := by decide +kernel
theorem dX6_goesBy_168 : decode cX6_goesBy 168 = .ok (.iconst 0, 1) := by decide +kernel
theorem dX6_goesBy_169 : decode cX6_goesBy 169 = .ok (.ior, 1) := by decide +kernel
theorem dX6_goesBy_170 : decode cX6_goesBy 170 = .ok (.iastore, 1) := by decide +kernel
theorem dX6_goesBy_171 : decode cX6_goesBy 171 = .ok (.aload_n 0, 1) := by decide +kernel
theorem dX6_goesBy_172 : decode cX6_goesBy 172 = .ok (.getfield 67, 3) := by decide +kernel
theorem dX6_goesBy_175 : decode cX6_goesBy 175 = .ok (.iload_n 1, 1) := by decide +kernel
theorem dX6_goesBy_176 : decode cX6_goesBy 176 = .ok (.dup2, 1) := by decide +kernel
theorem dX6_goesBy_177 : decode cX6_goesBy 177 = .ok (.iaload, 1) := by decide +kernel
theorem dX6_goesBy_178 : decode cX6_goesBy 178 = .ok (.iload 4, 2) := by decide +kernel
theorem dX6_goesBy_180 : decode cX6_goesBy 180 = .ok (.aload_n 0, 1) := by decide +kernel
theorem dX6_goesBy_181 : decode cX6_goesBy 181 = .ok (.iload_n 3, 1) := by decide +kernel
theorem dX6_goesBy_182 : decode cX6_goesBy 182 = .ok (.iload_n 1, 1) := by decide +kernel
theorem dX6_goesBy_183 : decode cX6_goesBy 183 = .ok (.invokevirtual 188, 3) := by decide +kernel
theorem dX6_goesBy_186 : decode cX6_goesBy 186 = .ok (.if_icmp .ge 9, 3) := by decide +kernel
theorem dX6_goesBy_189 : decode cX6_goesBy 189 = .ok (.iconst 1, 1) := by decide +kernel
theorem dX6_goesBy_190 : decode cX6_goesBy 190 = .ok (.iload_n 3, 1) := by decide +kernel
theorem dX6_goesBy_191 : decode cX6_goesBy 191 = .ok (.ishl, 1) := by decide +kernel
theorem dX6_goesBy_192 : decode cX6_goesBy 192 = .ok (.goto 4, 3) := by decide +kernel
theorem dX6_goesBy_195 : decode cX6_goesBy 195 = .ok (.iconst 0, 1) := by decide +kernel
theorem dX6_goesBy_196 : decode cX6_goesBy 196 = .ok (.ior, 1) := by decide +kernel
theorem dX6_goesBy_197 : decode cX6_goesBy 197 = .ok (.iastore, 1) := by decide +kernel
theorem dX6_goesBy_198 : decode cX6_goesBy 198 = .ok (.iinc 3 1, 3) := by decide +kernel
theorem dX6_goesBy_201 : decode cX6_goesBy 201 = .ok (.goto (-85), 3) := by decide +kernel
theorem dX6_goesBy_204 : decode cX6_goesBy 204 = .ok (.aload_n 0, 1) := by decide +kernel
theorem dX6_goesBy_205 : decode cX6_goesBy 205 = .ok (.getfield 58, 3) := by decide +kernel
theorem dX6_goesBy_208 : decode cX6_goesBy 208 = .ok (.iload_n 1, 1) := by decide +kernel
theorem dX6_goesBy_209 : decode cX6_goesBy 209 = .ok (.aload_n 0, 1) := by decide +kernel
theorem dX6_goesBy_210 : decode cX6_goesBy 210 = .ok (.getfield 191, 3) := by decide +kernel
theorem dX6_goesBy_213 : decode cX6_goesBy 213 = .ok (.iastore, 1) := by decide +kernel
theorem dX6_goesBy_214 : decode cX6_goesBy 214 = .ok (.return_, 1) := by decide +kernel
theorem dX6_runs_0 : decode cX6_runs 0 = .ok (.aload_n 0, 1) := by decide +kernel
theorem dX6_runs_1 : decode cX6_runs 1 = .ok (.aload_n 0, 1) := by decide +kernel
theorem dX6_runs_2 : decode cX6_runs 2 = .ok (.getfield 178, 3) := by decide +kernel
theorem dX6_runs_5 : decode cX6_runs 5 = .ok (.putfield 191, 3) := by decide +kernel
theorem dX6_runs_8 : decode cX6_runs 8 = .ok (.iconst 0, 1) := by decide +kernel
theorem dX6_runs_9 : decode cX6_runs 9 = .ok (.istore_n 1, 1) := by decide +kernel
theorem dX6_runs_10 : decode cX6_runs 10 = .ok (.iload_n 1, 1) := by decide +kernel
theorem dX6_runs_11 : decode cX6_runs 11 = .ok (.bipush 40, 2) := by decide +kernel
theorem dX6_runs_13 : decode cX6_runs 13 = .ok (.if_icmp .ge 14, 3) := by decide +kernel
theorem dX6_runs_16 : decode cX6_runs 16 = .ok (.aload_n 0, 1) := by decide +kernel
theorem dX6_runs_17 : decode cX6_runs 17 = .ok (.iload_n 1, 1) := by decide +kernel
theorem dX6_runs_18 : decode cX6_runs 18 = .ok (.invokevirtual 204, 3) := by decide +kernel
theorem dX6_runs_21 : decode cX6_runs 21 = .ok (.iinc 1 1, 3) := by decide +kernel
theorem dX6_runs_24 : decode cX6_runs 24 = .ok (.goto (-14), 3) := by decide +kernel
theorem dX6_runs_27 : decode cX6_runs 27 = .ok (.return_, 1) := by decide +kernel
theorem dX6_runsTold_0 : decode cX6_runsTold 0 = .ok (.aload_n 0, 1) := by decide +kernel
theorem dX6_runsTold_1 : decode cX6_runsTold 1 = .ok (.invokevirtual 207, 3) := by decide +kernel
theorem dX6_runsTold_4 : decode cX6_runsTold 4 = .ok (.aload_n 0, 1) := by decide +kernel
theorem dX6_runsTold_5 : decode cX6_runsTold 5 = .ok (.invokevirtual 210, 3) := by decide +kernel
theorem dX6_runsTold_8 : decode cX6_runsTold 8 = .ok (.return_, 1) := by decide +kernel
theorem dX6_bagOf_0 : decode cX6_bagOf 0 = .ok (.aload_n 0, 1) := by decide +kernel
theorem dX6_bagOf_1 : decode cX6_bagOf 1 = .ok (.invokevirtual 213, 3) := by decide +kernel
theorem dX6_bagOf_4 : decode cX6_bagOf 4 = .ok (.iload_n 2, 1) := by decide +kernel
theorem dX6_bagOf_5 : decode cX6_bagOf 5 = .ok (.ifCond .ne 12, 3) := by decide +kernel
theorem dX6_bagOf_8 : decode cX6_bagOf 8 = .ok (.aload_n 0, 1) := by decide +kernel
theorem dX6_bagOf_9 : decode cX6_bagOf 9 = .ok (.getfield 58, 3) := by decide +kernel
theorem dX6_bagOf_12 : decode cX6_bagOf 12 = .ok (.iload_n 1, 1) := by decide +kernel
theorem dX6_bagOf_13 : decode cX6_bagOf 13 = .ok (.iaload, 1) := by decide +kernel
theorem dX6_bagOf_14 : decode cX6_bagOf 14 = .ok (.goto 37, 3) := by decide +kernel
theorem dX6_bagOf_17 : decode cX6_bagOf 17 = .ok (.iload_n 2, 1) := by decide +kernel
theorem dX6_bagOf_18 : decode cX6_bagOf 18 = .ok (.iconst 1, 1) := by decide +kernel
theorem dX6_bagOf_19 : decode cX6_bagOf 19 = .ok (.if_icmp .ne 12, 3) := by decide +kernel
theorem dX6_bagOf_22 : decode cX6_bagOf 22 = .ok (.aload_n 0, 1) := by decide +kernel
theorem dX6_bagOf_23 : decode cX6_bagOf 23 = .ok (.getfield 61, 3) := by decide +kernel
theorem dX6_bagOf_26 : decode cX6_bagOf 26 = .ok (.iload_n 1, 1) := by decide +kernel
theorem dX6_bagOf_27 : decode cX6_bagOf 27 = .ok (.iaload, 1) := by decide +kernel
theorem dX6_bagOf_28 : decode cX6_bagOf 28 = .ok (.goto 23, 3) := by decide +kernel
theorem dX6_bagOf_31 : decode cX6_bagOf 31 = .ok (.iload_n 2, 1) := by decide +kernel
theorem dX6_bagOf_32 : decode cX6_bagOf 32 = .ok (.iconst 2, 1) := by decide +kernel
theorem dX6_bagOf_33 : decode cX6_bagOf 33 = .ok (.if_icmp .ne 12, 3) := by decide +kernel
theorem dX6_bagOf_36 : decode cX6_bagOf 36 = .ok (.aload_n 0, 1) := by decide +kernel
theorem dX6_bagOf_37 : decode cX6_bagOf 37 = .ok (.getfield 64, 3) := by decide +kernel
theorem dX6_bagOf_40 : decode cX6_bagOf 40 = .ok (.iload_n 1, 1) := by decide +kernel
theorem dX6_bagOf_41 : decode cX6_bagOf 41 = .ok (.iaload, 1) := by decide +kernel
theorem dX6_bagOf_42 : decode cX6_bagOf 42 = .ok (.goto 9, 3) := by decide +kernel
theorem dX6_bagOf_45 : decode cX6_bagOf 45 = .ok (.aload_n 0, 1) := by decide +kernel
theorem dX6_bagOf_46 : decode cX6_bagOf 46 = .ok (.getfield 67, 3) := by decide +kernel
theorem dX6_bagOf_49 : decode cX6_bagOf 49 = .ok (.iload_n 1, 1) := by decide +kernel
theorem dX6_bagOf_50 : decode cX6_bagOf 50 = .ok (.iaload, 1) := by decide +kernel
theorem dX6_bagOf_51 : decode cX6_bagOf 51 = .ok (.ireturn, 1) := by decide +kernel
theorem dX6_bag_0 : decode cX6_bag 0 = .ok (.iload_n 1, 1) := by decide +kernel
theorem dX6_bag_1 : decode cX6_bag 1 = .ok (.invokestatic 148, 3) := by decide +kernel
theorem dX6_bag_4 : decode cX6_bag 4 = .ok (.ifCond .eq 21, 3) := by decide +kernel
theorem dX6_bag_7 : decode cX6_bag 7 = .ok (.iload_n 2, 1) := by decide +kernel
theorem dX6_bag_8 : decode cX6_bag 8 = .ok (.iconst 0, 1) := by decide +kernel
theorem dX6_bag_9 : decode cX6_bag 9 = .ok (.iconst 3, 1) := by decide +kernel
theorem dX6_bag_10 : decode cX6_bag 10 = .ok (.invokestatic 103, 3) := by decide +kernel
theorem dX6_bag_13 : decode cX6_bag 13 = .ok (.ifCond .eq 12, 3) := by decide +kernel
theorem dX6_bag_16 : decode cX6_bag 16 = .ok (.aload_n 0, 1) := by decide +kernel
theorem dX6_bag_17 : decode cX6_bag 17 = .ok (.iload_n 1, 1) := by decide +kernel
theorem dX6_bag_18 : decode cX6_bag 18 = .ok (.iload_n 2, 1) := by decide +kernel
theorem dX6_bag_19 : decode cX6_bag 19 = .ok (.invokevirtual 216, 3) := by decide +kernel
theorem dX6_bag_22 : decode cX6_bag 22 = .ok (.goto 5, 3) := by decide +kernel
theorem dX6_bag_25 : decode cX6_bag 25 = .ok (.bipush (-2), 2) := by decide +kernel
theorem dX6_bag_27 : decode cX6_bag 27 = .ok (.ireturn, 1) := by decide +kernel
theorem dX6_gotOf_0 : decode cX6_gotOf 0 = .ok (.aload_n 0, 1) := by decide +kernel
theorem dX6_gotOf_1 : decode cX6_gotOf 1 = .ok (.invokevirtual 213, 3) := by decide +kernel
theorem dX6_gotOf_4 : decode cX6_gotOf 4 = .ok (.iload_n 3, 1) := by decide +kernel
theorem dX6_gotOf_5 : decode cX6_gotOf 5 = .ok (.ifCond .ne 17, 3) := by decide +kernel
theorem dX6_gotOf_8 : decode cX6_gotOf 8 = .ok (.aload_n 0, 1) := by decide +kernel
theorem dX6_gotOf_9 : decode cX6_gotOf 9 = .ok (.getfield 70, 3) := by decide +kernel
theorem dX6_gotOf_12 : decode cX6_gotOf 12 = .ok (.bipush 8, 2) := by decide +kernel
theorem dX6_gotOf_14 : decode cX6_gotOf 14 = .ok (.iload_n 1, 1) := by decide +kernel
theorem dX6_gotOf_15 : decode cX6_gotOf 15 = .ok (.imul, 1) := by decide +kernel
theorem dX6_gotOf_16 : decode cX6_gotOf 16 = .ok (.iload_n 2, 1) := by decide +kernel
theorem dX6_gotOf_17 : decode cX6_gotOf 17 = .ok (.iadd, 1) := by decide +kernel
theorem dX6_gotOf_18 : decode cX6_gotOf 18 = .ok (.iaload, 1) := by decide +kernel
theorem dX6_gotOf_19 : decode cX6_gotOf 19 = .ok (.goto 23, 3) := by decide +kernel
theorem dX6_gotOf_22 : decode cX6_gotOf 22 = .ok (.iload_n 3, 1) := by decide +kernel
theorem dX6_gotOf_23 : decode cX6_gotOf 23 = .ok (.iconst 1, 1) := by decide +kernel
theorem dX6_gotOf_24 : decode cX6_gotOf 24 = .ok (.if_icmp .ne 12, 3) := by decide +kernel
theorem dX6_gotOf_27 : decode cX6_gotOf 27 = .ok (.aload_n 0, 1) := by decide +kernel
theorem dX6_gotOf_28 : decode cX6_gotOf 28 = .ok (.iload_n 2, 1) := by decide +kernel
theorem dX6_gotOf_29 : decode cX6_gotOf 29 = .ok (.iload_n 1, 1) := by decide +kernel
theorem dX6_gotOf_30 : decode cX6_gotOf 30 = .ok (.invokevirtual 188, 3) := by decide +kernel
theorem dX6_gotOf_33 : decode cX6_gotOf 33 = .ok (.goto 9, 3) := by decide +kernel
theorem dX6_gotOf_36 : decode cX6_gotOf 36 = .ok (.aload_n 0, 1) := by decide +kernel
theorem dX6_gotOf_37 : decode cX6_gotOf 37 = .ok (.iload_n 2, 1) := by decide +kernel
theorem dX6_gotOf_38 : decode cX6_gotOf 38 = .ok (.iload_n 1, 1) := by decide +kernel
theorem dX6_gotOf_39 : decode cX6_gotOf 39 = .ok (.invokevirtual 181, 3) := by decide +kernel
theorem dX6_gotOf_42 : decode cX6_gotOf 42 = .ok (.ireturn, 1) := by decide +kernel
theorem dX6_got_0 : decode cX6_got 0 = .ok (.iload_n 1, 1) := by decide +kernel
theorem dX6_got_1 : decode cX6_got 1 = .ok (.invokestatic 148, 3) := by decide +kernel
theorem dX6_got_4 : decode cX6_got 4 = .ok (.ifCond .eq 30, 3) := by decide +kernel
theorem dX6_got_7 : decode cX6_got 7 = .ok (.aload_n 0, 1) := by decide +kernel
theorem dX6_got_8 : decode cX6_got 8 = .ok (.iload_n 2, 1) := by decide +kernel
theorem dX6_got_9 : decode cX6_got 9 = .ok (.invokevirtual 142, 3) := by decide +kernel
theorem dX6_got_12 : decode cX6_got 12 = .ok (.ifCond .eq 22, 3) := by decide +kernel
theorem dX6_got_15 : decode cX6_got 15 = .ok (.iload_n 3, 1) := by decide +kernel
theorem dX6_got_16 : decode cX6_got 16 = .ok (.iconst 0, 1) := by decide +kernel
theorem dX6_got_17 : decode cX6_got 17 = .ok (.iconst 2, 1) := by decide +kernel
theorem dX6_got_18 : decode cX6_got 18 = .ok (.invokestatic 103, 3) := by decide +kernel
theorem dX6_got_21 : decode cX6_got 21 = .ok (.ifCond .eq 13, 3) := by decide +kernel
theorem dX6_got_24 : decode cX6_got 24 = .ok (.aload_n 0, 1) := by decide +kernel
theorem dX6_got_25 : decode cX6_got 25 = .ok (.iload_n 1, 1) := by decide +kernel
theorem dX6_got_26 : decode cX6_got 26 = .ok (.iload_n 2, 1) := by decide +kernel
theorem dX6_got_27 : decode cX6_got 27 = .ok (.iload_n 3, 1) := by decide +kernel
theorem dX6_got_28 : decode cX6_got 28 = .ok (.invokevirtual 219, 3) := by decide +kernel
theorem dX6_got_31 : decode cX6_got 31 = .ok (.goto 5, 3) := by decide +kernel
theorem dX6_got_34 : decode cX6_got 34 = .ok (.bipush (-2), 2) := by decide +kernel
theorem dX6_got_36 : decode cX6_got 36 = .ok (.ireturn, 1) := by decide +kernel
theorem dX6_shortOf_0 : decode cX6_shortOf 0 = .ok (.iconst 0, 1) := by decide +kernel
theorem dX6_shortOf_1 : decode cX6_shortOf 1 = .ok (.istore_n 2, 1) := by decide +kernel
theorem dX6_shortOf_2 : decode cX6_shortOf 2 = .ok (.iconst 0, 1) := by decide +kernel
theorem dX6_shortOf_3 : decode cX6_shortOf 3 = .ok (.istore_n 3, 1) := by decide +kernel
theorem dX6_shortOf_4 : decode cX6_shortOf 4 = .ok (.iload_n 3, 1) := by decide +kernel
theorem dX6_shortOf_5 : decode cX6_shortOf 5 = .ok (.bipush 40, 2) := by decide +kernel
theorem dX6_shortOf_7 : decode cX6_shortOf 7 = .ok (.if_icmp .ge 30, 3) := by decide +kernel
theorem dX6_shortOf_10 : decode cX6_shortOf 10 = .ok (.iload_n 2, 1) := by decide +kernel
theorem dX6_shortOf_11 : decode cX6_shortOf 11 = .ok (.aload_n 0, 1) := by decide +kernel
theorem dX6_shortOf_12 : decode cX6_shortOf 12 = .ok (.getfield 67, 3) := by decide +kernel
theorem dX6_shortOf_15 : decode cX6_shortOf 15 = .ok (.iload_n 3, 1) := by decide +kernel
theorem dX6_shortOf_16 : decode cX6_shortOf 16 = .ok (.iaload, 1) := by decide +kernel
theorem dX6_shortOf_17 : decode cX6_shortOf 17 = .ok (.iload_n 1, 1) := by decide +kernel
theorem dX6_shortOf_18 : decode cX6_shortOf 18 = .ok (.invokestatic 184, 3) := by decide +kernel
theorem dX6_shortOf_21 : decode cX6_shortOf 21 = .ok (.ifCond .eq 7, 3) := by decide +kernel
theorem dX6_shortOf_24 : decode cX6_shortOf 24 = .ok (.iconst 1, 1) := by decide +kernel
theorem dX6_shortOf_25 : decode cX6_shortOf 25 = .ok (.goto 4, 3) := by decide +kernel
theorem dX6_shortOf_28 : decode cX6_shortOf 28 = .ok (.iconst 0, 1) := by decide +kernel
theorem dX6_shortOf_29 : decode cX6_shortOf 29 = .ok (.iadd, 1) := by decide +kernel
theorem dX6_shortOf_30 : decode cX6_shortOf 30 = .ok (.istore_n 2, 1) := by decide +kernel
theorem dX6_shortOf_31 : decode cX6_shortOf 31 = .ok (.iinc 3 1, 3) := by decide +kernel
theorem dX6_shortOf_34 : decode cX6_shortOf 34 = .ok (.goto (-30), 3) := by decide +kernel
theorem dX6_shortOf_37 : decode cX6_shortOf 37 = .ok (.iload_n 2, 1) := by decide +kernel
theorem dX6_shortOf_38 : decode cX6_shortOf 38 = .ok (.ireturn, 1) := by decide +kernel
theorem dX6_shortAll_0 : decode cX6_shortAll 0 = .ok (.iconst 0, 1) := by decide +kernel
theorem dX6_shortAll_1 : decode cX6_shortAll 1 = .ok (.istore_n 1, 1) := by decide +kernel
theorem dX6_shortAll_2 : decode cX6_shortAll 2 = .ok (.iconst 0, 1) := by decide +kernel
theorem dX6_shortAll_3 : decode cX6_shortAll 3 = .ok (.istore_n 2, 1) := by decide +kernel
theorem dX6_shortAll_4 : decode cX6_shortAll 4 = .ok (.iload_n 2, 1) := by decide +kernel
theorem dX6_shortAll_5 : decode cX6_shortAll 5 = .ok (.aload_n 0, 1) := by decide +kernel
theorem dX6_shortAll_6 : decode cX6_shortAll 6 = .ok (.getfield 118, 3) := by decide +kernel
theorem dX6_shortAll_9 : decode cX6_shortAll 9 = .ok (.if_icmp .ge 17, 3) := by decide +kernel
theorem dX6_shortAll_12 : decode cX6_shortAll 12 = .ok (.iload_n 1, 1) := by decide +kernel
theorem dX6_shortAll_13 : decode cX6_shortAll 13 = .ok (.aload_n 0, 1) := by decide +kernel
theorem dX6_shortAll_14 : decode cX6_shortAll 14 = .ok (.iload_n 2, 1) := by decide +kernel
theorem dX6_shortAll_15 : decode cX6_shortAll 15 = .ok (.invokevirtual 223, 3) := by decide +kernel
theorem dX6_shortAll_18 : decode cX6_shortAll 18 = .ok (.iadd, 1) := by decide +kernel
theorem dX6_shortAll_19 : decode cX6_shortAll 19 = .ok (.istore_n 1, 1) := by decide +kernel
theorem dX6_shortAll_20 : decode cX6_shortAll 20 = .ok (.iinc 2 1, 3) := by decide +kernel
theorem dX6_shortAll_23 : decode cX6_shortAll 23 = .ok (.goto (-19), 3) := by decide +kernel
theorem dX6_shortAll_26 : decode cX6_shortAll 26 = .ok (.iload_n 1, 1) := by decide +kernel
theorem dX6_shortAll_27 : decode cX6_shortAll 27 = .ok (.ireturn, 1) := by decide +kernel
theorem dX6_heldOf_0 : decode cX6_heldOf 0 = .ok (.aload_n 0, 1) := by decide +kernel
theorem dX6_heldOf_1 : decode cX6_heldOf 1 = .ok (.invokevirtual 213, 3) := by decide +kernel
theorem dX6_heldOf_4 : decode cX6_heldOf 4 = .ok (.iconst (-1), 1) := by decide +kernel
theorem dX6_heldOf_5 : decode cX6_heldOf 5 = .ok (.istore_n 3, 1) := by decide +kernel
theorem dX6_heldOf_6 : decode cX6_heldOf 6 = .ok (.bipush 39, 2) := by decide +kernel
theorem dX6_heldOf_8 : decode cX6_heldOf 8 = .ok (.istore 4, 2) := by decide +kernel
theorem dX6_heldOf_10 : decode cX6_heldOf 10 = .ok (.iload 4, 2) := by decide +kernel
theorem dX6_heldOf_12 : decode cX6_heldOf 12 = .ok (.ifCond .lt 30, 3) := by decide +kernel
theorem dX6_heldOf_15 : decode cX6_heldOf 15 = .ok (.aload_n 0, 1) := by decide +kernel
theorem dX6_heldOf_16 : decode cX6_heldOf 16 = .ok (.getfield 67, 3) := by decide +kernel
theorem dX6_heldOf_19 : decode cX6_heldOf 19 = .ok (.iload 4, 2) := by decide +kernel
theorem dX6_heldOf_21 : decode cX6_heldOf 21 = .ok (.iaload, 1) := by decide +kernel
theorem dX6_heldOf_22 : decode cX6_heldOf 22 = .ok (.iload_n 1, 1) := by decide +kernel
theorem dX6_heldOf_23 : decode cX6_heldOf 23 = .ok (.invokestatic 184, 3) := by decide +kernel
theorem dX6_heldOf_26 : decode cX6_heldOf 26 = .ok (.ifCond .eq 8, 3) := by decide +kernel
theorem dX6_heldOf_29 : decode cX6_heldOf 29 = .ok (.iload 4, 2) := by decide +kernel
theorem dX6_heldOf_31 : decode cX6_heldOf 31 = .ok (.goto 4, 3) := by decide +kernel
theorem dX6_heldOf_34 : decode cX6_heldOf 34 = .ok (.iload_n 3, 1) := by decide +kernel
theorem dX6_heldOf_35 : decode cX6_heldOf 35 = .ok (.istore_n 3, 1) := by decide +kernel
theorem dX6_heldOf_36 : decode cX6_heldOf 36 = .ok (.iinc 4 (-1), 3) := by decide +kernel
theorem dX6_heldOf_39 : decode cX6_heldOf 39 = .ok (.goto (-29), 3) := by decide +kernel
theorem dX6_heldOf_42 : decode cX6_heldOf 42 = .ok (.iload_n 2, 1) := by decide +kernel
theorem dX6_heldOf_43 : decode cX6_heldOf 43 = .ok (.ifCond .ne 7, 3) := by decide +kernel
theorem dX6_heldOf_46 : decode cX6_heldOf 46 = .ok (.iload_n 3, 1) := by decide +kernel
theorem dX6_heldOf_47 : decode cX6_heldOf 47 = .ok (.goto 8, 3) := by decide +kernel
theorem dX6_heldOf_50 : decode cX6_heldOf 50 = .ok (.aload_n 0, 1) := by decide +kernel
theorem dX6_heldOf_51 : decode cX6_heldOf 51 = .ok (.iload_n 1, 1) := by decide +kernel
theorem dX6_heldOf_52 : decode cX6_heldOf 52 = .ok (.invokevirtual 223, 3) := by decide +kernel
theorem dX6_heldOf_55 : decode cX6_heldOf 55 = .ok (.ireturn, 1) := by decide +kernel
theorem dX6_held_0 : decode cX6_held 0 = .ok (.aload_n 0, 1) := by decide +kernel
theorem dX6_held_1 : decode cX6_held 1 = .ok (.iload_n 1, 1) := by decide +kernel
theorem dX6_held_2 : decode cX6_held 2 = .ok (.invokevirtual 142, 3) := by decide +kernel
theorem dX6_held_5 : decode cX6_held 5 = .ok (.ifCond .eq 21, 3) := by decide +kernel
theorem dX6_held_8 : decode cX6_held 8 = .ok (.iload_n 2, 1) := by decide +kernel
theorem dX6_held_9 : decode cX6_held 9 = .ok (.iconst 0, 1) := by decide +kernel
theorem dX6_held_10 : decode cX6_held 10 = .ok (.iconst 1, 1) := by decide +kernel
theorem dX6_held_11 : decode cX6_held 11 = .ok (.invokestatic 103, 3) := by decide +kernel
theorem dX6_held_14 : decode cX6_held 14 = .ok (.ifCond .eq 12, 3) := by decide +kernel
theorem dX6_held_17 : decode cX6_held 17 = .ok (.aload_n 0, 1) := by decide +kernel
theorem dX6_held_18 : decode cX6_held 18 = .ok (.iload_n 1, 1) := by decide +kernel
theorem dX6_held_19 : decode cX6_held 19 = .ok (.iload_n 2, 1) := by decide +kernel
theorem dX6_held_20 : decode cX6_held 20 = .ok (.invokevirtual 226, 3) := by decide +kernel
theorem dX6_held_23 : decode cX6_held 23 = .ok (.goto 5, 3) := by decide +kernel
theorem dX6_held_26 : decode cX6_held 26 = .ok (.bipush (-2), 2) := by decide +kernel
theorem dX6_held_28 : decode cX6_held 28 = .ok (.ireturn, 1) := by decide +kernel
theorem dX6_firstOf_0 : decode cX6_firstOf 0 = .ok (.aload_n 0, 1) := by decide +kernel
theorem dX6_firstOf_1 : decode cX6_firstOf 1 = .ok (.invokevirtual 213, 3) := by decide +kernel
theorem dX6_firstOf_4 : decode cX6_firstOf 4 = .ok (.iconst (-1), 1) := by decide +kernel
theorem dX6_firstOf_5 : decode cX6_firstOf 5 = .ok (.istore_n 1, 1) := by decide +kernel
theorem dX6_firstOf_6 : decode cX6_firstOf 6 = .ok (.bipush 39, 2) := by decide +kernel
theorem dX6_firstOf_8 : decode cX6_firstOf 8 = .ok (.istore_n 2, 1) := by decide +kernel
theorem dX6_firstOf_9 : decode cX6_firstOf 9 = .ok (.iload_n 2, 1) := by decide +kernel
theorem dX6_firstOf_10 : decode cX6_firstOf 10 = .ok (.ifCond .lt 24, 3) := by decide +kernel
theorem dX6_firstOf_13 : decode cX6_firstOf 13 = .ok (.aload_n 0, 1) := by decide +kernel
theorem dX6_firstOf_14 : decode cX6_firstOf 14 = .ok (.getfield 67, 3) := by decide +kernel
theorem dX6_firstOf_17 : decode cX6_firstOf 17 = .ok (.iload_n 2, 1) := by decide +kernel
theorem dX6_firstOf_18 : decode cX6_firstOf 18 = .ok (.iaload, 1) := by decide +kernel
theorem dX6_firstOf_19 : decode cX6_firstOf 19 = .ok (.ifCond .eq 7, 3) := by decide +kernel
theorem dX6_firstOf_22 : decode cX6_firstOf 22 = .ok (.iload_n 2, 1) := by decide +kernel
theorem dX6_firstOf_23 : decode cX6_firstOf 23 = .ok (.goto 4, 3) := by decide +kernel
theorem dX6_firstOf_26 : decode cX6_firstOf 26 = .ok (.iload_n 1, 1) := by decide +kernel
theorem dX6_firstOf_27 : decode cX6_firstOf 27 = .ok (.istore_n 1, 1) := by decide +kernel
theorem dX6_firstOf_28 : decode cX6_firstOf 28 = .ok (.iinc 2 (-1), 3) := by decide +kernel
theorem dX6_firstOf_31 : decode cX6_firstOf 31 = .ok (.goto (-22), 3) := by decide +kernel
theorem dX6_firstOf_34 : decode cX6_firstOf 34 = .ok (.iload_n 1, 1) := by decide +kernel
theorem dX6_firstOf_35 : decode cX6_firstOf 35 = .ok (.ireturn, 1) := by decide +kernel
theorem dX6_first_0 : decode cX6_first 0 = .ok (.aload_n 0, 1) := by decide +kernel
theorem dX6_first_1 : decode cX6_first 1 = .ok (.invokevirtual 229, 3) := by decide +kernel
theorem dX6_first_4 : decode cX6_first 4 = .ok (.ireturn, 1) := by decide +kernel
theorem dX6_quietOf_0 : decode cX6_quietOf 0 = .ok (.aload_n 0, 1) := by decide +kernel
theorem dX6_quietOf_1 : decode cX6_quietOf 1 = .ok (.invokevirtual 213, 3) := by decide +kernel
theorem dX6_quietOf_4 : decode cX6_quietOf 4 = .ok (.iconst (-1), 1) := by decide +kernel
theorem dX6_quietOf_5 : decode cX6_quietOf 5 = .ok (.istore_n 1, 1) := by decide +kernel
theorem dX6_quietOf_6 : decode cX6_quietOf 6 = .ok (.bipush 39, 2) := by decide +kernel
theorem dX6_quietOf_8 : decode cX6_quietOf 8 = .ok (.istore_n 2, 1) := by decide +kernel
theorem dX6_quietOf_9 : decode cX6_quietOf 9 = .ok (.iload_n 2, 1) := by decide +kernel
theorem dX6_quietOf_10 : decode cX6_quietOf 10 = .ok (.ifCond .lt 24, 3) := by decide +kernel
theorem dX6_quietOf_13 : decode cX6_quietOf 13 = .ok (.aload_n 0, 1) := by decide +kernel
theorem dX6_quietOf_14 : decode cX6_quietOf 14 = .ok (.getfield 58, 3) := by decide +kernel
theorem dX6_quietOf_17 : decode cX6_quietOf 17 = .ok (.iload_n 2, 1) := by decide +kernel
theorem dX6_quietOf_18 : decode cX6_quietOf 18 = .ok (.iaload, 1) := by decide +kernel
theorem dX6_quietOf_19 : decode cX6_quietOf 19 = .ok (.ifCond .ne 7, 3) := by decide +kernel
theorem dX6_quietOf_22 : decode cX6_quietOf 22 = .ok (.iload_n 2, 1) := by decide +kernel
theorem dX6_quietOf_23 : decode cX6_quietOf 23 = .ok (.goto 4, 3) := by decide +kernel
theorem dX6_quietOf_26 : decode cX6_quietOf 26 = .ok (.iload_n 1, 1) := by decide +kernel
theorem dX6_quietOf_27 : decode cX6_quietOf 27 = .ok (.istore_n 1, 1) := by decide +kernel
theorem dX6_quietOf_28 : decode cX6_quietOf 28 = .ok (.iinc 2 (-1), 3) := by decide +kernel
theorem dX6_quietOf_31 : decode cX6_quietOf 31 = .ok (.goto (-22), 3) := by decide +kernel
theorem dX6_quietOf_34 : decode cX6_quietOf 34 = .ok (.iload_n 1, 1) := by decide +kernel
theorem dX6_quietOf_35 : decode cX6_quietOf 35 = .ok (.ireturn, 1) := by decide +kernel
theorem dX6_quiet_0 : decode cX6_quiet 0 = .ok (.aload_n 0, 1) := by decide +kernel
theorem dX6_quiet_1 : decode cX6_quiet 1 = .ok (.invokevirtual 232, 3) := by decide +kernel
theorem dX6_quiet_4 : decode cX6_quiet 4 = .ok (.ireturn, 1) := by decide +kernel
theorem dX6_wellOf_0 : decode cX6_wellOf 0 = .ok (.aload_n 0, 1) := by decide +kernel
theorem dX6_wellOf_1 : decode cX6_wellOf 1 = .ok (.invokevirtual 213, 3) := by decide +kernel
theorem dX6_wellOf_4 : decode cX6_wellOf 4 = .ok (.iconst 0, 1) := by decide +kernel
theorem dX6_wellOf_5 : decode cX6_wellOf 5 = .ok (.istore_n 1, 1) := by decide +kernel
theorem dX6_wellOf_6 : decode cX6_wellOf 6 = .ok (.iconst 0, 1) := by decide +kernel
theorem dX6_wellOf_7 : decode cX6_wellOf 7 = .ok (.istore_n 2, 1) := by decide +kernel
theorem dX6_wellOf_8 : decode cX6_wellOf 8 = .ok (.iload_n 2, 1) := by decide +kernel
theorem dX6_wellOf_9 : decode cX6_wellOf 9 = .ok (.bipush 40, 2) := by decide +kernel
theorem dX6_wellOf_11 : decode cX6_wellOf 11 = .ok (.if_icmp .ge 26, 3) := by decide +kernel
theorem dX6_wellOf_14 : decode cX6_wellOf 14 = .ok (.iload_n 1, 1) := by decide +kernel
theorem dX6_wellOf_15 : decode cX6_wellOf 15 = .ok (.aload_n 0, 1) := by decide +kernel
theorem dX6_wellOf_16 : decode cX6_wellOf 16 = .ok (.getfield 67, 3) := by decide +kernel
theorem dX6_wellOf_19 : decode cX6_wellOf 19 = .ok (.iload_n 2, 1) := by decide +kernel
theorem dX6_wellOf_20 : decode cX6_wellOf 20 = .ok (.iaload, 1) := by decide +kernel
theorem dX6_wellOf_21 : decode cX6_wellOf 21 = .ok (.ifCond .ne 7, 3) := by decide +kernel
theorem dX6_wellOf_24 : decode cX6_wellOf 24 = .ok (.iconst 1, 1) := by decide +kernel
theorem dX6_wellOf_25 : decode cX6_wellOf 25 = .ok (.goto 4, 3) := by decide +kernel
theorem dX6_wellOf_28 : decode cX6_wellOf 28 = .ok (.iconst 0, 1) := by decide +kernel
theorem dX6_wellOf_29 : decode cX6_wellOf 29 = .ok (.iadd, 1) := by decide +kernel
theorem dX6_wellOf_30 : decode cX6_wellOf 30 = .ok (.istore_n 1, 1) := by decide +kernel
theorem dX6_wellOf_31 : decode cX6_wellOf 31 = .ok (.iinc 2 1, 3) := by decide +kernel
theorem dX6_wellOf_34 : decode cX6_wellOf 34 = .ok (.goto (-26), 3) := by decide +kernel
theorem dX6_wellOf_37 : decode cX6_wellOf 37 = .ok (.iload_n 1, 1) := by decide +kernel
theorem dX6_wellOf_38 : decode cX6_wellOf 38 = .ok (.ireturn, 1) := by decide +kernel
theorem dX6_well_0 : decode cX6_well 0 = .ok (.aload_n 0, 1) := by decide +kernel
theorem dX6_well_1 : decode cX6_well 1 = .ok (.invokevirtual 235, 3) := by decide +kernel
theorem dX6_well_4 : decode cX6_well 4 = .ok (.ireturn, 1) := by decide +kernel
theorem dX6_elbowOf_0 : decode cX6_elbowOf 0 = .ok (.aload_n 0, 1) := by decide +kernel
theorem dX6_elbowOf_1 : decode cX6_elbowOf 1 = .ok (.invokevirtual 207, 3) := by decide +kernel
theorem dX6_elbowOf_4 : decode cX6_elbowOf 4 = .ok (.iconst (-1), 1) := by decide +kernel
theorem dX6_elbowOf_5 : decode cX6_elbowOf 5 = .ok (.istore_n 2, 1) := by decide +kernel
theorem dX6_elbowOf_6 : decode cX6_elbowOf 6 = .ok (.sipush 999, 3) := by decide +kernel
theorem dX6_elbowOf_9 : decode cX6_elbowOf 9 = .ok (.istore_n 3, 1) := by decide +kernel
theorem dX6_elbowOf_10 : decode cX6_elbowOf 10 = .ok (.iconst 0, 1) := by decide +kernel
theorem dX6_elbowOf_11 : decode cX6_elbowOf 11 = .ok (.istore 4, 2) := by decide +kernel
theorem dX6_elbowOf_13 : decode cX6_elbowOf 13 = .ok (.iload 4, 2) := by decide +kernel
theorem dX6_elbowOf_15 : decode cX6_elbowOf 15 = .ok (.bipush 40, 2) := by decide +kernel
theorem dX6_elbowOf_17 : decode cX6_elbowOf 17 = .ok (.if_icmp .ge 75, 3) := by decide +kernel
theorem dX6_elbowOf_20 : decode cX6_elbowOf 20 = .ok (.aload_n 0, 1) := by decide +kernel
theorem dX6_elbowOf_21 : decode cX6_elbowOf 21 = .ok (.getfield 52, 3) := by decide +kernel
theorem dX6_elbowOf_24 : decode cX6_elbowOf 24 = .ok (.iload 4, 2) := by decide +kernel
theorem dX6_elbowOf_26 : decode cX6_elbowOf 26 = .ok (.aload_n 0, 1) := by decide +kernel
theorem dX6_elbowOf_27 : decode cX6_elbowOf 27 = .ok (.getfield 31, 3) := by decide +kernel
theorem dX6_elbowOf_30 : decode cX6_elbowOf 30 = .ok (.iload 4, 2) := by decide +kernel
theorem dX6_elbowOf_32 : decode cX6_elbowOf 32 = .ok (.iaload, 1) := by decide +kernel
theorem dX6_elbowOf_33 : decode cX6_elbowOf 33 = .ok (.iconst 1, 1) := by decide +kernel
theorem dX6_elbowOf_34 : decode cX6_elbowOf 34 = .ok (.iadd, 1) := by decide +kernel
theorem dX6_elbowOf_35 : decode cX6_elbowOf 35 = .ok (.iastore, 1) := by decide +kernel
theorem dX6_elbowOf_36 : decode cX6_elbowOf 36 = .ok (.aload_n 0, 1) := by decide +kernel
theorem dX6_elbowOf_37 : decode cX6_elbowOf 37 = .ok (.invokevirtual 210, 3) := by decide +kernel
theorem dX6_elbowOf_40 : decode cX6_elbowOf 40 = .ok (.aload_n 0, 1) := by decide +kernel
theorem dX6_elbowOf_41 : decode cX6_elbowOf 41 = .ok (.getfield 52, 3) := by decide +kernel
theorem dX6_elbowOf_44 : decode cX6_elbowOf 44 = .ok (.iload 4, 2) := by decide +kernel
theorem dX6_elbowOf_46 : decode cX6_elbowOf 46 = .ok (.aload_n 0, 1) := by decide +kernel
theorem dX6_elbowOf_47 : decode cX6_elbowOf 47 = .ok (.getfield 31, 3) := by decide +kernel
theorem dX6_elbowOf_50 : decode cX6_elbowOf 50 = .ok (.iload 4, 2) := by decide +kernel
theorem dX6_elbowOf_52 : decode cX6_elbowOf 52 = .ok (.iaload, 1) := by decide +kernel
theorem dX6_elbowOf_53 : decode cX6_elbowOf 53 = .ok (.iastore, 1) := by decide +kernel
theorem dX6_elbowOf_54 : decode cX6_elbowOf 54 = .ok (.aload_n 0, 1) := by decide +kernel
theorem dX6_elbowOf_55 : decode cX6_elbowOf 55 = .ok (.invokevirtual 238, 3) := by decide +kernel
theorem dX6_elbowOf_58 : decode cX6_elbowOf 58 = .ok (.istore 5, 2) := by decide +kernel
theorem dX6_elbowOf_60 : decode cX6_elbowOf 60 = .ok (.iload 5, 2) := by decide +kernel
theorem dX6_elbowOf_62 : decode cX6_elbowOf 62 = .ok (.iload_n 3, 1) := by decide +kernel
theorem dX6_elbowOf_63 : decode cX6_elbowOf 63 = .ok (.if_icmp .ge 8, 3) := by decide +kernel
theorem dX6_elbowOf_66 : decode cX6_elbowOf 66 = .ok (.iload 4, 2) := by decide +kernel
theorem dX6_elbowOf_68 : decode cX6_elbowOf 68 = .ok (.goto 4, 3) := by decide +kernel
theorem dX6_elbowOf_71 : decode cX6_elbowOf 71 = .ok (.iload_n 2, 1) := by decide +kernel
theorem dX6_elbowOf_72 : decode cX6_elbowOf 72 = .ok (.istore_n 2, 1) := by decide +kernel
theorem dX6_elbowOf_73 : decode cX6_elbowOf 73 = .ok (.iload 5, 2) := by decide +kernel
theorem dX6_elbowOf_75 : decode cX6_elbowOf 75 = .ok (.iload_n 3, 1) := by decide +kernel
theorem dX6_elbowOf_76 : decode cX6_elbowOf 76 = .ok (.if_icmp .ge 8, 3) := by decide +kernel
theorem dX6_elbowOf_79 : decode cX6_elbowOf 79 = .ok (.iload 5, 2) := by decide +kernel
theorem dX6_elbowOf_81 : decode cX6_elbowOf 81 = .ok (.goto 4, 3) := by decide +kernel
theorem dX6_elbowOf_84 : decode cX6_elbowOf 84 = .ok (.iload_n 3, 1) := by decide +kernel
theorem dX6_elbowOf_85 : decode cX6_elbowOf 85 = .ok (.istore_n 3, 1) := by decide +kernel
theorem dX6_elbowOf_86 : decode cX6_elbowOf 86 = .ok (.iinc 4 1, 3) := by decide +kernel
theorem dX6_elbowOf_89 : decode cX6_elbowOf 89 = .ok (.goto (-76), 3) := by decide +kernel
theorem dX6_elbowOf_92 : decode cX6_elbowOf 92 = .ok (.iload_n 1, 1) := by decide +kernel
theorem dX6_elbowOf_93 : decode cX6_elbowOf 93 = .ok (.ifCond .ne 7, 3) := by decide +kernel
theorem dX6_elbowOf_96 : decode cX6_elbowOf 96 = .ok (.iload_n 2, 1) := by decide +kernel
theorem dX6_elbowOf_97 : decode cX6_elbowOf 97 = .ok (.goto 4, 3) := by decide +kernel
theorem dX6_elbowOf_100 : decode cX6_elbowOf 100 = .ok (.iload_n 3, 1) := by decide +kernel
theorem dX6_elbowOf_101 : decode cX6_elbowOf 101 = .ok (.ireturn, 1) := by decide +kernel
theorem dX6_elbow_0 : decode cX6_elbow 0 = .ok (.iload_n 1, 1) := by decide +kernel
theorem dX6_elbow_1 : decode cX6_elbow 1 = .ok (.iconst 0, 1) := by decide +kernel
theorem dX6_elbow_2 : decode cX6_elbow 2 = .ok (.iconst 1, 1) := by decide +kernel
theorem dX6_elbow_3 : decode cX6_elbow 3 = .ok (.invokestatic 103, 3) := by decide +kernel
theorem dX6_elbow_6 : decode cX6_elbow 6 = .ok (.ifCond .eq 11, 3) := by decide +kernel
theorem dX6_elbow_9 : decode cX6_elbow 9 = .ok (.aload_n 0, 1) := by decide +kernel
theorem dX6_elbow_10 : decode cX6_elbow 10 = .ok (.iload_n 1, 1) := by decide +kernel
theorem dX6_elbow_11 : decode cX6_elbow 11 = .ok (.invokevirtual 241, 3) := by decide +kernel
theorem dX6_elbow_14 : decode cX6_elbow 14 = .ok (.goto 5, 3) := by decide +kernel
theorem dX6_elbow_17 : decode cX6_elbow 17 = .ok (.bipush (-2), 2) := by decide +kernel
theorem dX6_elbow_19 : decode cX6_elbow 19 = .ok (.ireturn, 1) := by decide +kernel
theorem dX6_shutOf_0 : decode cX6_shutOf 0 = .ok (.aload_n 0, 1) := by decide +kernel
theorem dX6_shutOf_1 : decode cX6_shutOf 1 = .ok (.invokevirtual 207, 3) := by decide +kernel
theorem dX6_shutOf_4 : decode cX6_shutOf 4 = .ok (.iconst (-1), 1) := by decide +kernel
theorem dX6_shutOf_5 : decode cX6_shutOf 5 = .ok (.istore_n 3, 1) := by decide +kernel
theorem dX6_shutOf_6 : decode cX6_shutOf 6 = .ok (.sipush 999, 3) := by decide +kernel
theorem dX6_shutOf_9 : decode cX6_shutOf 9 = .ok (.istore 4, 2) := by decide +kernel
theorem dX6_shutOf_11 : decode cX6_shutOf 11 = .ok (.iconst 0, 1) := by decide +kernel
theorem dX6_shutOf_12 : decode cX6_shutOf 12 = .ok (.istore 5, 2) := by decide +kernel
theorem dX6_shutOf_14 : decode cX6_shutOf 14 = .ok (.iload 5, 2) := by decide +kernel
theorem dX6_shutOf_16 : decode cX6_shutOf 16 = .ok (.aload_n 0, 1) := by decide +kernel
theorem dX6_shutOf_17 : decode cX6_shutOf 17 = .ok (.getfield 118, 3) := by decide +kernel
theorem dX6_shutOf_20 : decode cX6_shutOf 20 = .ok (.if_icmp .ge 62, 3) := by decide +kernel
theorem dX6_shutOf_23 : decode cX6_shutOf 23 = .ok (.iload 5, 2) := by decide +kernel
theorem dX6_shutOf_25 : decode cX6_shutOf 25 = .ok (.iload_n 1, 1) := by decide +kernel
theorem dX6_shutOf_26 : decode cX6_shutOf 26 = .ok (.if_icmp .eq 50, 3) := by decide +kernel
theorem dX6_shutOf_29 : decode cX6_shutOf 29 = .ok (.aload_n 0, 1) := by decide +kernel
theorem dX6_shutOf_30 : decode cX6_shutOf 30 = .ok (.iload 5, 2) := by decide +kernel
theorem dX6_shutOf_32 : decode cX6_shutOf 32 = .ok (.putfield 175, 3) := by decide +kernel
theorem dX6_shutOf_35 : decode cX6_shutOf 35 = .ok (.aload_n 0, 1) := by decide +kernel
theorem dX6_shutOf_36 : decode cX6_shutOf 36 = .ok (.invokevirtual 210, 3) := by decide +kernel
theorem dX6_shutOf_39 : decode cX6_shutOf 39 = .ok (.aload_n 0, 1) := by decide +kernel
theorem dX6_shutOf_40 : decode cX6_shutOf 40 = .ok (.iload_n 1, 1) := by decide +kernel
theorem dX6_shutOf_41 : decode cX6_shutOf 41 = .ok (.invokevirtual 223, 3) := by decide +kernel
theorem dX6_shutOf_44 : decode cX6_shutOf 44 = .ok (.istore 6, 2) := by decide +kernel
theorem dX6_shutOf_46 : decode cX6_shutOf 46 = .ok (.iload 6, 2) := by decide +kernel
theorem dX6_shutOf_48 : decode cX6_shutOf 48 = .ok (.iload 4, 2) := by decide +kernel
theorem dX6_shutOf_50 : decode cX6_shutOf 50 = .ok (.if_icmp .ge 8, 3) := by decide +kernel
theorem dX6_shutOf_53 : decode cX6_shutOf 53 = .ok (.iload 5, 2) := by decide +kernel
theorem dX6_shutOf_55 : decode cX6_shutOf 55 = .ok (.goto 4, 3) := by decide +kernel
theorem dX6_shutOf_58 : decode cX6_shutOf 58 = .ok (.iload_n 3, 1) := by decide +kernel
theorem dX6_shutOf_59 : decode cX6_shutOf 59 = .ok (.istore_n 3, 1) := by decide +kernel
theorem dX6_shutOf_60 : decode cX6_shutOf 60 = .ok (.iload 6, 2) := by decide +kernel
theorem dX6_shutOf_62 : decode cX6_shutOf 62 = .ok (.iload 4, 2) := by decide +kernel
theorem dX6_shutOf_64 : decode cX6_shutOf 64 = .ok (.if_icmp .ge 8, 3) := by decide +kernel
theorem dX6_shutOf_67 : decode cX6_shutOf 67 = .ok (.iload 6, 2) := by decide +kernel
theorem dX6_shutOf_69 : decode cX6_shutOf 69 = .ok (.goto 5, 3) := by decide +kernel
theorem dX6_shutOf_72 : decode cX6_shutOf 72 = .ok (.iload 4, 2) := by decide +kernel
theorem dX6_shutOf_74 : decode cX6_shutOf 74 = .ok (.istore 4, 2) := by decide +kernel
theorem dX6_shutOf_76 : decode cX6_shutOf 76 = .ok (.iinc 5 1, 3) := by decide +kernel
theorem dX6_shutOf_79 : decode cX6_shutOf 79 = .ok (.goto (-65), 3) := by decide +kernel
theorem dX6_shutOf_82 : decode cX6_shutOf 82 = .ok (.iload_n 3, 1) := by decide +kernel
theorem dX6_shutOf_83 : decode cX6_shutOf 83 = .ok (.iconst (-1), 1) := by decide +kernel
theorem dX6_shutOf_84 : decode cX6_shutOf 84 = .ok (.if_icmp .eq 7, 3) := by decide +kernel
theorem dX6_shutOf_87 : decode cX6_shutOf 87 = .ok (.iload_n 2, 1) := by decide +kernel
theorem dX6_shutOf_88 : decode cX6_shutOf 88 = .ok (.ifCond .ne 7, 3) := by decide +kernel
theorem dX6_shutOf_91 : decode cX6_shutOf 91 = .ok (.iload_n 3, 1) := by decide +kernel
theorem dX6_shutOf_92 : decode cX6_shutOf 92 = .ok (.goto 5, 3) := by decide +kernel
theorem dX6_shutOf_95 : decode cX6_shutOf 95 = .ok (.iload 4, 2) := by decide +kernel
theorem dX6_shutOf_97 : decode cX6_shutOf 97 = .ok (.ireturn, 1) := by decide +kernel
theorem dX6_shut_0 : decode cX6_shut 0 = .ok (.aload_n 0, 1) := by decide +kernel
theorem dX6_shut_1 : decode cX6_shut 1 = .ok (.iload_n 1, 1) := by decide +kernel
theorem dX6_shut_2 : decode cX6_shut 2 = .ok (.invokevirtual 142, 3) := by decide +kernel
theorem dX6_shut_5 : decode cX6_shut 5 = .ok (.ifCond .eq 21, 3) := by decide +kernel
theorem dX6_shut_8 : decode cX6_shut 8 = .ok (.iload_n 2, 1) := by decide +kernel
theorem dX6_shut_9 : decode cX6_shut 9 = .ok (.iconst 0, 1) := by decide +kernel
theorem dX6_shut_10 : decode cX6_shut 10 = .ok (.iconst 1, 1) := by decide +kernel
theorem dX6_shut_11 : decode cX6_shut 11 = .ok (.invokestatic 103, 3) := by decide +kernel
theorem dX6_shut_14 : decode cX6_shut 14 = .ok (.ifCond .eq 12, 3) := by decide +kernel
theorem dX6_shut_17 : decode cX6_shut 17 = .ok (.aload_n 0, 1) := by decide +kernel
theorem dX6_shut_18 : decode cX6_shut 18 = .ok (.iload_n 1, 1) := by decide +kernel
theorem dX6_shut_19 : decode cX6_shut 19 = .ok (.iload_n 2, 1) := by decide +kernel
theorem dX6_shut_20 : decode cX6_shut 20 = .ok (.invokevirtual 244, 3) := by decide +kernel
theorem dX6_shut_23 : decode cX6_shut 23 = .ok (.goto 5, 3) := by decide +kernel
theorem dX6_shut_26 : decode cX6_shut 26 = .ok (.bipush (-2), 2) := by decide +kernel
theorem dX6_shut_28 : decode cX6_shut 28 = .ok (.ireturn, 1) := by decide +kernel
theorem dX6_leastNow_0 : decode cX6_leastNow 0 = .ok (.aload_n 0, 1) := by decide +kernel
theorem dX6_leastNow_1 : decode cX6_leastNow 1 = .ok (.invokevirtual 207, 3) := by decide +kernel
theorem dX6_leastNow_4 : decode cX6_leastNow 4 = .ok (.iconst (-1), 1) := by decide +kernel
theorem dX6_leastNow_5 : decode cX6_leastNow 5 = .ok (.istore_n 1, 1) := by decide +kernel
theorem dX6_leastNow_6 : decode cX6_leastNow 6 = .ok (.iconst 0, 1) := by decide +kernel
theorem dX6_leastNow_7 : decode cX6_leastNow 7 = .ok (.istore_n 2, 1) := by decide +kernel
theorem dX6_leastNow_8 : decode cX6_leastNow 8 = .ok (.iload_n 2, 1) := by decide +kernel
theorem dX6_leastNow_9 : decode cX6_leastNow 9 = .ok (.bipush 61, 2) := by decide +kernel
theorem dX6_leastNow_11 : decode cX6_leastNow 11 = .ok (.if_icmp .ge 36, 3) := by decide +kernel
theorem dX6_leastNow_14 : decode cX6_leastNow 14 = .ok (.iload_n 1, 1) := by decide +kernel
theorem dX6_leastNow_15 : decode cX6_leastNow 15 = .ok (.iconst (-1), 1) := by decide +kernel
theorem dX6_leastNow_16 : decode cX6_leastNow 16 = .ok (.if_icmp .ne 31, 3) := by decide +kernel
theorem dX6_leastNow_19 : decode cX6_leastNow 19 = .ok (.aload_n 0, 1) := by decide +kernel
theorem dX6_leastNow_20 : decode cX6_leastNow 20 = .ok (.iload_n 2, 1) := by decide +kernel
theorem dX6_leastNow_21 : decode cX6_leastNow 21 = .ok (.putfield 178, 3) := by decide +kernel
theorem dX6_leastNow_24 : decode cX6_leastNow 24 = .ok (.aload_n 0, 1) := by decide +kernel
theorem dX6_leastNow_25 : decode cX6_leastNow 25 = .ok (.invokevirtual 210, 3) := by decide +kernel
theorem dX6_leastNow_28 : decode cX6_leastNow 28 = .ok (.aload_n 0, 1) := by decide +kernel
theorem dX6_leastNow_29 : decode cX6_leastNow 29 = .ok (.invokevirtual 238, 3) := by decide +kernel
theorem dX6_leastNow_32 : decode cX6_leastNow 32 = .ok (.ifCond .ne 7, 3) := by decide +kernel
theorem dX6_leastNow_35 : decode cX6_leastNow 35 = .ok (.iload_n 2, 1) := by decide +kernel
theorem dX6_leastNow_36 : decode cX6_leastNow 36 = .ok (.goto 4, 3) := by decide +kernel
theorem dX6_leastNow_39 : decode cX6_leastNow 39 = .ok (.iconst (-1), 1) := by decide +kernel
theorem dX6_leastNow_40 : decode cX6_leastNow 40 = .ok (.istore_n 1, 1) := by decide +kernel
theorem dX6_leastNow_41 : decode cX6_leastNow 41 = .ok (.iinc 2 1, 3) := by decide +kernel
theorem dX6_leastNow_44 : decode cX6_leastNow 44 = .ok (.goto (-36), 3) := by decide +kernel
theorem dX6_leastNow_47 : decode cX6_leastNow 47 = .ok (.iload_n 1, 1) := by decide +kernel
theorem dX6_leastNow_48 : decode cX6_leastNow 48 = .ok (.ireturn, 1) := by decide +kernel
theorem dX6_least_0 : decode cX6_least 0 = .ok (.aload_n 0, 1) := by decide +kernel
theorem dX6_least_1 : decode cX6_least 1 = .ok (.invokevirtual 247, 3) := by decide +kernel
theorem dX6_least_4 : decode cX6_least 4 = .ok (.ireturn, 1) := by decide +kernel
theorem dX6_patchOf_0 : decode cX6_patchOf 0 = .ok (.aload_n 0, 1) := by decide +kernel
theorem dX6_patchOf_1 : decode cX6_patchOf 1 = .ok (.invokevirtual 207, 3) := by decide +kernel
theorem dX6_patchOf_4 : decode cX6_patchOf 4 = .ok (.iconst (-1), 1) := by decide +kernel
theorem dX6_patchOf_5 : decode cX6_patchOf 5 = .ok (.istore_n 2, 1) := by decide +kernel
theorem dX6_patchOf_6 : decode cX6_patchOf 6 = .ok (.sipush 999, 3) := by decide +kernel
theorem dX6_patchOf_9 : decode cX6_patchOf 9 = .ok (.istore_n 3, 1) := by decide +kernel
theorem dX6_patchOf_10 : decode cX6_patchOf 10 = .ok (.iconst 0, 1) := by decide +kernel
theorem dX6_patchOf_11 : decode cX6_patchOf 11 = .ok (.istore 4, 2) := by decide +kernel
theorem dX6_patchOf_13 : decode cX6_patchOf 13 = .ok (.iload 4, 2) := by decide +kernel
theorem dX6_patchOf_15 : decode cX6_patchOf 15 = .ok (.aload_n 0, 1) := by decide +kernel
theorem dX6_patchOf_16 : decode cX6_patchOf 16 = .ok (.getfield 154, 3) := by decide +kernel
theorem dX6_patchOf_19 : decode cX6_patchOf 19 = .ok (.if_icmp .ge 53, 3) := by decide +kernel
theorem dX6_patchOf_22 : decode cX6_patchOf 22 = .ok (.aload_n 0, 1) := by decide +kernel
theorem dX6_patchOf_23 : decode cX6_patchOf 23 = .ok (.iconst 1, 1) := by decide +kernel
theorem dX6_patchOf_24 : decode cX6_patchOf 24 = .ok (.iload 4, 2) := by decide +kernel
theorem dX6_patchOf_26 : decode cX6_patchOf 26 = .ok (.ishl, 1) := by decide +kernel
theorem dX6_patchOf_27 : decode cX6_patchOf 27 = .ok (.putfield 169, 3) := by decide +kernel
theorem dX6_patchOf_30 : decode cX6_patchOf 30 = .ok (.aload_n 0, 1) := by decide +kernel
theorem dX6_patchOf_31 : decode cX6_patchOf 31 = .ok (.invokevirtual 210, 3) := by decide +kernel
theorem dX6_patchOf_34 : decode cX6_patchOf 34 = .ok (.aload_n 0, 1) := by decide +kernel
theorem dX6_patchOf_35 : decode cX6_patchOf 35 = .ok (.invokevirtual 238, 3) := by decide +kernel
theorem dX6_patchOf_38 : decode cX6_patchOf 38 = .ok (.istore 5, 2) := by decide +kernel
theorem dX6_patchOf_40 : decode cX6_patchOf 40 = .ok (.iload 5, 2) := by decide +kernel
theorem dX6_patchOf_42 : decode cX6_patchOf 42 = .ok (.iload_n 3, 1) := by decide +kernel
theorem dX6_patchOf_43 : decode cX6_patchOf 43 = .ok (.if_icmp .ge 8, 3) := by decide +kernel
theorem dX6_patchOf_46 : decode cX6_patchOf 46 = .ok (.iload 4, 2) := by decide +kernel
theorem dX6_patchOf_48 : decode cX6_patchOf 48 = .ok (.goto 4, 3) := by decide +kernel
theorem dX6_patchOf_51 : decode cX6_patchOf 51 = .ok (.iload_n 2, 1) := by decide +kernel
theorem dX6_patchOf_52 : decode cX6_patchOf 52 = .ok (.istore_n 2, 1) := by decide +kernel
theorem dX6_patchOf_53 : decode cX6_patchOf 53 = .ok (.iload 5, 2) := by decide +kernel
theorem dX6_patchOf_55 : decode cX6_patchOf 55 = .ok (.iload_n 3, 1) := by decide +kernel
theorem dX6_patchOf_56 : decode cX6_patchOf 56 = .ok (.if_icmp .ge 8, 3) := by decide +kernel
theorem dX6_patchOf_59 : decode cX6_patchOf 59 = .ok (.iload 5, 2) := by decide +kernel
theorem dX6_patchOf_61 : decode cX6_patchOf 61 = .ok (.goto 4, 3) := by decide +kernel
theorem dX6_patchOf_64 : decode cX6_patchOf 64 = .ok (.iload_n 3, 1) := by decide +kernel
theorem dX6_patchOf_65 : decode cX6_patchOf 65 = .ok (.istore_n 3, 1) := by decide +kernel
theorem dX6_patchOf_66 : decode cX6_patchOf 66 = .ok (.iinc 4 1, 3) := by decide +kernel
theorem dX6_patchOf_69 : decode cX6_patchOf 69 = .ok (.goto (-56), 3) := by decide +kernel
theorem dX6_patchOf_72 : decode cX6_patchOf 72 = .ok (.iload_n 2, 1) := by decide +kernel
theorem dX6_patchOf_73 : decode cX6_patchOf 73 = .ok (.iconst (-1), 1) := by decide +kernel
theorem dX6_patchOf_74 : decode cX6_patchOf 74 = .ok (.if_icmp .eq 7, 3) := by decide +kernel
theorem dX6_patchOf_77 : decode cX6_patchOf 77 = .ok (.iload_n 1, 1) := by decide +kernel
theorem dX6_patchOf_78 : decode cX6_patchOf 78 = .ok (.ifCond .ne 7, 3) := by decide +kernel
theorem dX6_patchOf_81 : decode cX6_patchOf 81 = .ok (.iload_n 2, 1) := by decide +kernel
theorem dX6_patchOf_82 : decode cX6_patchOf 82 = .ok (.goto 4, 3) := by decide +kernel
theorem dX6_patchOf_85 : decode cX6_patchOf 85 = .ok (.iload_n 3, 1) := by decide +kernel
theorem dX6_patchOf_86 : decode cX6_patchOf 86 = .ok (.ireturn, 1) := by decide +kernel
theorem dX6_patch_0 : decode cX6_patch 0 = .ok (.iload_n 1, 1) := by decide +kernel
theorem dX6_patch_1 : decode cX6_patch 1 = .ok (.iconst 0, 1) := by decide +kernel
theorem dX6_patch_2 : decode cX6_patch 2 = .ok (.iconst 1, 1) := by decide +kernel
theorem dX6_patch_3 : decode cX6_patch 3 = .ok (.invokestatic 103, 3) := by decide +kernel
theorem dX6_patch_6 : decode cX6_patch 6 = .ok (.ifCond .eq 11, 3) := by decide +kernel
theorem dX6_patch_9 : decode cX6_patch 9 = .ok (.aload_n 0, 1) := by decide +kernel
theorem dX6_patch_10 : decode cX6_patch 10 = .ok (.iload_n 1, 1) := by decide +kernel
theorem dX6_patch_11 : decode cX6_patch 11 = .ok (.invokevirtual 250, 3) := by decide +kernel
theorem dX6_patch_14 : decode cX6_patch 14 = .ok (.goto 5, 3) := by decide +kernel
theorem dX6_patch_17 : decode cX6_patch 17 = .ok (.bipush (-2), 2) := by decide +kernel
theorem dX6_patch_19 : decode cX6_patch 19 = .ok (.ireturn, 1) := by decide +kernel
theorem dX6_seen_0 : decode cX6_seen 0 = .ok (.iload_n 1, 1) := by decide +kernel
theorem dX6_seen_1 : decode cX6_seen 1 = .ok (.invokestatic 148, 3) := by decide +kernel
theorem dX6_seen_4 : decode cX6_seen 4 = .ok (.ifCond .eq 22, 3) := by decide +kernel
theorem dX6_seen_7 : decode cX6_seen 7 = .ok (.iload_n 2, 1) := by decide +kernel
theorem dX6_seen_8 : decode cX6_seen 8 = .ok (.iconst 0, 1) := by decide +kernel
theorem dX6_seen_9 : decode cX6_seen 9 = .ok (.bipush 7, 2) := by decide +kernel
theorem dX6_seen_11 : decode cX6_seen 11 = .ok (.invokestatic 103, 3) := by decide +kernel
theorem dX6_seen_14 : decode cX6_seen 14 = .ok (.ifCond .eq 12, 3) := by decide +kernel
theorem dX6_seen_17 : decode cX6_seen 17 = .ok (.iload_n 3, 1) := by decide +kernel
theorem dX6_seen_18 : decode cX6_seen 18 = .ok (.iconst 0, 1) := by decide +kernel
theorem dX6_seen_19 : decode cX6_seen 19 = .ok (.iconst 4, 1) := by decide +kernel
theorem dX6_seen_20 : decode cX6_seen 20 = .ok (.invokestatic 103, 3) := by decide +kernel
theorem dX6_seen_23 : decode cX6_seen 23 = .ok (.ifCond .ne 6, 3) := by decide +kernel
theorem dX6_seen_26 : decode cX6_seen 26 = .ok (.bipush (-2), 2) := by decide +kernel
theorem dX6_seen_28 : decode cX6_seen 28 = .ok (.ireturn, 1) := by decide +kernel
theorem dX6_seen_29 : decode cX6_seen 29 = .ok (.aload_n 0, 1) := by decide +kernel
theorem dX6_seen_30 : decode cX6_seen 30 = .ok (.getfield 253, 3) := by decide +kernel
theorem dX6_seen_33 : decode cX6_seen 33 = .ok (.bipush 8, 2) := by decide +kernel
theorem dX6_seen_35 : decode cX6_seen 35 = .ok (.if_icmp .ne 6, 3) := by decide +kernel
theorem dX6_seen_38 : decode cX6_seen 38 = .ok (.bipush (-4), 2) := by decide +kernel
theorem dX6_seen_40 : decode cX6_seen 40 = .ok (.ireturn, 1) := by decide +kernel
theorem dX6_seen_41 : decode cX6_seen 41 = .ok (.aload_n 0, 1) := by decide +kernel
theorem dX6_seen_42 : decode cX6_seen 42 = .ok (.getfield 73, 3) := by decide +kernel
theorem dX6_seen_45 : decode cX6_seen 45 = .ok (.aload_n 0, 1) := by decide +kernel
theorem dX6_seen_46 : decode cX6_seen 46 = .ok (.getfield 253, 3) := by decide +kernel
theorem dX6_seen_49 : decode cX6_seen 49 = .ok (.iload_n 1, 1) := by decide +kernel
theorem dX6_seen_50 : decode cX6_seen 50 = .ok (.iastore, 1) := by decide +kernel
theorem dX6_seen_51 : decode cX6_seen 51 = .ok (.aload_n 0, 1) := by decide +kernel
theorem dX6_seen_52 : decode cX6_seen 52 = .ok (.getfield 76, 3) := by decide +kernel
theorem dX6_seen_55 : decode cX6_seen 55 = .ok (.aload_n 0, 1) := by decide +kernel
theorem dX6_seen_56 : decode cX6_seen 56 = .ok (.getfield 253, 3) := by decide +kernel
theorem dX6_seen_59 : decode cX6_seen 59 = .ok (.iload_n 2, 1) := by decide +kernel
theorem dX6_seen_60 : decode cX6_seen 60 = .ok (.iastore, 1) := by decide +kernel
theorem dX6_seen_61 : decode cX6_seen 61 = .ok (.aload_n 0, 1) := by decide +kernel
theorem dX6_seen_62 : decode cX6_seen 62 = .ok (.getfield 79, 3) := by decide +kernel
theorem dX6_seen_65 : decode cX6_seen 65 = .ok (.aload_n 0, 1) := by decide +kernel
theorem dX6_seen_66 : decode cX6_seen 66 = .ok (.getfield 253, 3) := by decide +kernel
theorem dX6_seen_69 : decode cX6_seen 69 = .ok (.iload_n 3, 1) := by decide +kernel
theorem dX6_seen_70 : decode cX6_seen 70 = .ok (.iastore, 1) := by decide +kernel
theorem dX6_seen_71 : decode cX6_seen 71 = .ok (.aload_n 0, 1) := by decide +kernel
theorem dX6_seen_72 : decode cX6_seen 72 = .ok (.dup, 1) := by decide +kernel
theorem dX6_seen_73 : decode cX6_seen 73 = .ok (.getfield 253, 3) := by decide +kernel
theorem dX6_seen_76 : decode cX6_seen 76 = .ok (.iconst 1, 1) := by decide +kernel
theorem dX6_seen_77 : decode cX6_seen 77 = .ok (.iadd, 1) := by decide +kernel
theorem dX6_seen_78 : decode cX6_seen 78 = .ok (.putfield 253, 3) := by decide +kernel
theorem dX6_seen_81 : decode cX6_seen 81 = .ok (.aload_n 0, 1) := by decide +kernel
theorem dX6_seen_82 : decode cX6_seen 82 = .ok (.getfield 253, 3) := by decide +kernel
theorem dX6_seen_85 : decode cX6_seen 85 = .ok (.ireturn, 1) := by decide +kernel
theorem dX6_forget_0 : decode cX6_forget 0 = .ok (.aload_n 0, 1) := by decide +kernel
theorem dX6_forget_1 : decode cX6_forget 1 = .ok (.getfield 253, 3) := by decide +kernel
theorem dX6_forget_4 : decode cX6_forget 4 = .ok (.istore_n 1, 1) := by decide +kernel
theorem dX6_forget_5 : decode cX6_forget 5 = .ok (.aload_n 0, 1) := by decide +kernel
theorem dX6_forget_6 : decode cX6_forget 6 = .ok (.iconst 0, 1) := by decide +kernel
theorem dX6_forget_7 : decode cX6_forget 7 = .ok (.putfield 253, 3) := by decide +kernel
theorem dX6_forget_10 : decode cX6_forget 10 = .ok (.iload_n 1, 1) := by decide +kernel
theorem dX6_forget_11 : decode cX6_forget 11 = .ok (.ireturn, 1) := by decide +kernel
theorem dX6_isSeen_0 : decode cX6_isSeen 0 = .ok (.aload_n 0, 1) := by decide +kernel
theorem dX6_isSeen_1 : decode cX6_isSeen 1 = .ok (.invokevirtual 210, 3) := by decide +kernel
theorem dX6_isSeen_4 : decode cX6_isSeen 4 = .ok (.iconst 1, 1) := by decide +kernel
theorem dX6_isSeen_5 : decode cX6_isSeen 5 = .ok (.istore_n 1, 1) := by decide +kernel
theorem dX6_isSeen_6 : decode cX6_isSeen 6 = .ok (.iconst 0, 1) := by decide +kernel
theorem dX6_isSeen_7 : decode cX6_isSeen 7 = .ok (.istore_n 2, 1) := by decide +kernel
theorem dX6_isSeen_8 : decode cX6_isSeen 8 = .ok (.iload_n 2, 1) := by decide +kernel
theorem dX6_isSeen_9 : decode cX6_isSeen 9 = .ok (.aload_n 0, 1) := by decide +kernel
theorem dX6_isSeen_10 : decode cX6_isSeen 10 = .ok (.getfield 253, 3) := by decide +kernel
theorem dX6_isSeen_13 : decode cX6_isSeen 13 = .ok (.if_icmp .ge 62, 3) := by decide +kernel
theorem dX6_isSeen_16 : decode cX6_isSeen 16 = .ok (.iload_n 1, 1) := by decide +kernel
theorem dX6_isSeen_17 : decode cX6_isSeen 17 = .ok (.ifCond .eq 58, 3) := by decide +kernel
theorem dX6_isSeen_20 : decode cX6_isSeen 20 = .ok (.aload_n 0, 1) := by decide +kernel
theorem dX6_isSeen_21 : decode cX6_isSeen 21 = .ok (.getfield 76, 3) := by decide +kernel
theorem dX6_isSeen_24 : decode cX6_isSeen 24 = .ok (.iload_n 2, 1) := by decide +kernel
theorem dX6_isSeen_25 : decode cX6_isSeen 25 = .ok (.iaload, 1) := by decide +kernel
theorem dX6_isSeen_26 : decode cX6_isSeen 26 = .ok (.aload_n 0, 1) := by decide +kernel
theorem dX6_isSeen_27 : decode cX6_isSeen 27 = .ok (.getfield 118, 3) := by decide +kernel
theorem dX6_isSeen_30 : decode cX6_isSeen 30 = .ok (.if_icmp .ge 37, 3) := by decide +kernel
theorem dX6_isSeen_33 : decode cX6_isSeen 33 = .ok (.aload_n 0, 1) := by decide +kernel
theorem dX6_isSeen_34 : decode cX6_isSeen 34 = .ok (.getfield 70, 3) := by decide +kernel
theorem dX6_isSeen_37 : decode cX6_isSeen 37 = .ok (.bipush 8, 2) := by decide +kernel
theorem dX6_isSeen_39 : decode cX6_isSeen 39 = .ok (.aload_n 0, 1) := by decide +kernel
theorem dX6_isSeen_40 : decode cX6_isSeen 40 = .ok (.getfield 73, 3) := by decide +kernel
theorem dX6_isSeen_43 : decode cX6_isSeen 43 = .ok (.iload_n 2, 1) := by decide +kernel
theorem dX6_isSeen_44 : decode cX6_isSeen 44 = .ok (.iaload, 1) := by decide +kernel
theorem dX6_isSeen_45 : decode cX6_isSeen 45 = .ok (.imul, 1) := by decide +kernel
theorem dX6_isSeen_46 : decode cX6_isSeen 46 = .ok (.aload_n 0, 1) := by decide +kernel
theorem dX6_isSeen_47 : decode cX6_isSeen 47 = .ok (.getfield 76, 3) := by decide +kernel
theorem dX6_isSeen_50 : decode cX6_isSeen 50 = .ok (.iload_n 2, 1) := by decide +kernel
theorem dX6_isSeen_51 : decode cX6_isSeen 51 = .ok (.iaload, 1) := by decide +kernel
theorem dX6_isSeen_52 : decode cX6_isSeen 52 = .ok (.iadd, 1) := by decide +kernel
theorem dX6_isSeen_53 : decode cX6_isSeen 53 = .ok (.iaload, 1) := by decide +kernel
theorem dX6_isSeen_54 : decode cX6_isSeen 54 = .ok (.aload_n 0, 1) := by decide +kernel
theorem dX6_isSeen_55 : decode cX6_isSeen 55 = .ok (.getfield 79, 3) := by decide +kernel
theorem dX6_isSeen_58 : decode cX6_isSeen 58 = .ok (.iload_n 2, 1) := by decide +kernel
theorem dX6_isSeen_59 : decode cX6_isSeen 59 = .ok (.iaload, 1) := by decide +kernel
theorem dX6_isSeen_60 : decode cX6_isSeen 60 = .ok (.if_icmp .ne 7, 3) := by decide +kernel
theorem dX6_isSeen_63 : decode cX6_isSeen 63 = .ok (.iconst 1, 1) := by decide +kernel
theorem dX6_isSeen_64 : decode cX6_isSeen 64 = .ok (.goto 4, 3) := by decide +kernel
theorem dX6_isSeen_67 : decode cX6_isSeen 67 = .ok (.iconst 0, 1) := by decide +kernel
theorem dX6_isSeen_68 : decode cX6_isSeen 68 = .ok (.istore_n 1, 1) := by decide +kernel
theorem dX6_isSeen_69 : decode cX6_isSeen 69 = .ok (.iinc 2 1, 3) := by decide +kernel
theorem dX6_isSeen_72 : decode cX6_isSeen 72 = .ok (.goto (-64), 3) := by decide +kernel
theorem dX6_isSeen_75 : decode cX6_isSeen 75 = .ok (.iload_n 1, 1) := by decide +kernel
theorem dX6_isSeen_76 : decode cX6_isSeen 76 = .ok (.ireturn, 1) := by decide +kernel
theorem dX6_neverNow_0 : decode cX6_neverNow 0 = .ok (.aload_n 0, 1) := by decide +kernel
theorem dX6_neverNow_1 : decode cX6_neverNow 1 = .ok (.invokevirtual 207, 3) := by decide +kernel
theorem dX6_neverNow_4 : decode cX6_neverNow 4 = .ok (.iconst 0, 1) := by decide +kernel
theorem dX6_neverNow_5 : decode cX6_neverNow 5 = .ok (.istore_n 1, 1) := by decide +kernel
theorem dX6_neverNow_6 : decode cX6_neverNow 6 = .ok (.iconst 0, 1) := by decide +kernel
theorem dX6_neverNow_7 : decode cX6_neverNow 7 = .ok (.istore_n 2, 1) := by decide +kernel
theorem dX6_neverNow_8 : decode cX6_neverNow 8 = .ok (.iload_n 2, 1) := by decide +kernel
theorem dX6_neverNow_9 : decode cX6_neverNow 9 = .ok (.aload_n 0, 1) := by decide +kernel
theorem dX6_neverNow_10 : decode cX6_neverNow 10 = .ok (.getfield 157, 3) := by decide +kernel
theorem dX6_neverNow_13 : decode cX6_neverNow 13 = .ok (.if_icmp .ge 33, 3) := by decide +kernel
theorem dX6_neverNow_16 : decode cX6_neverNow 16 = .ok (.aload_n 0, 1) := by decide +kernel
theorem dX6_neverNow_17 : decode cX6_neverNow 17 = .ok (.iconst 1, 1) := by decide +kernel
theorem dX6_neverNow_18 : decode cX6_neverNow 18 = .ok (.iload_n 2, 1) := by decide +kernel
theorem dX6_neverNow_19 : decode cX6_neverNow 19 = .ok (.ishl, 1) := by decide +kernel
theorem dX6_neverNow_20 : decode cX6_neverNow 20 = .ok (.putfield 172, 3) := by decide +kernel
theorem dX6_neverNow_23 : decode cX6_neverNow 23 = .ok (.iload_n 1, 1) := by decide +kernel
theorem dX6_neverNow_24 : decode cX6_neverNow 24 = .ok (.aload_n 0, 1) := by decide +kernel
theorem dX6_neverNow_25 : decode cX6_neverNow 25 = .ok (.invokevirtual 256, 3) := by decide +kernel
theorem dX6_neverNow_28 : decode cX6_neverNow 28 = .ok (.ifCond .eq 9, 3) := by decide +kernel
theorem dX6_neverNow_31 : decode cX6_neverNow 31 = .ok (.iconst 1, 1) := by decide +kernel
theorem dX6_neverNow_32 : decode cX6_neverNow 32 = .ok (.iload_n 2, 1) := by decide +kernel
theorem dX6_neverNow_33 : decode cX6_neverNow 33 = .ok (.ishl, 1) := by decide +kernel
theorem dX6_neverNow_34 : decode cX6_neverNow 34 = .ok (.goto 4, 3) := by decide +kernel
theorem dX6_neverNow_37 : decode cX6_neverNow 37 = .ok (.iconst 0, 1) := by decide +kernel
theorem dX6_neverNow_38 : decode cX6_neverNow 38 = .ok (.ior, 1) := by decide +kernel
theorem dX6_neverNow_39 : decode cX6_neverNow 39 = .ok (.istore_n 1, 1) := by decide +kernel
theorem dX6_neverNow_40 : decode cX6_neverNow 40 = .ok (.iinc 2 1, 3) := by decide +kernel
theorem dX6_neverNow_43 : decode cX6_neverNow 43 = .ok (.goto (-35), 3) := by decide +kernel
theorem dX6_neverNow_46 : decode cX6_neverNow 46 = .ok (.iload_n 1, 1) := by decide +kernel
theorem dX6_neverNow_47 : decode cX6_neverNow 47 = .ok (.ireturn, 1) := by decide +kernel
theorem dX6_never_0 : decode cX6_never 0 = .ok (.aload_n 0, 1) := by decide +kernel
theorem dX6_never_1 : decode cX6_never 1 = .ok (.invokevirtual 260, 3) := by decide +kernel
theorem dX6_never_4 : decode cX6_never 4 = .ok (.ireturn, 1) := by decide +kernel
theorem dX6_wasOf_0 : decode cX6_wasOf 0 = .ok (.aload_n 0, 1) := by decide +kernel
theorem dX6_wasOf_1 : decode cX6_wasOf 1 = .ok (.invokevirtual 207, 3) := by decide +kernel
theorem dX6_wasOf_4 : decode cX6_wasOf 4 = .ok (.aload_n 0, 1) := by decide +kernel
theorem dX6_wasOf_5 : decode cX6_wasOf 5 = .ok (.getfield 22, 3) := by decide +kernel
theorem dX6_wasOf_8 : decode cX6_wasOf 8 = .ok (.iload_n 1, 1) := by decide +kernel
theorem dX6_wasOf_9 : decode cX6_wasOf 9 = .ok (.iaload, 1) := by decide +kernel
theorem dX6_wasOf_10 : decode cX6_wasOf 10 = .ok (.istore_n 2, 1) := by decide +kernel
theorem dX6_wasOf_11 : decode cX6_wasOf 11 = .ok (.iconst 0, 1) := by decide +kernel
theorem dX6_wasOf_12 : decode cX6_wasOf 12 = .ok (.istore_n 3, 1) := by decide +kernel
theorem dX6_wasOf_13 : decode cX6_wasOf 13 = .ok (.iconst 1, 1) := by decide +kernel
theorem dX6_wasOf_14 : decode cX6_wasOf 14 = .ok (.istore 4, 2) := by decide +kernel
theorem dX6_wasOf_16 : decode cX6_wasOf 16 = .ok (.iload 4, 2) := by decide +kernel
theorem dX6_wasOf_18 : decode cX6_wasOf 18 = .ok (.bipush 10, 2) := by decide +kernel
theorem dX6_wasOf_20 : decode cX6_wasOf 20 = .ok (.if_icmp .ge 76, 3) := by decide +kernel
theorem dX6_wasOf_23 : decode cX6_wasOf 23 = .ok (.aload_n 0, 1) := by decide +kernel
theorem dX6_wasOf_24 : decode cX6_wasOf 24 = .ok (.getfield 22, 3) := by decide +kernel
theorem dX6_wasOf_27 : decode cX6_wasOf 27 = .ok (.iload_n 1, 1) := by decide +kernel
theorem dX6_wasOf_28 : decode cX6_wasOf 28 = .ok (.iload 4, 2) := by decide +kernel
theorem dX6_wasOf_30 : decode cX6_wasOf 30 = .ok (.iastore, 1) := by decide +kernel
theorem dX6_wasOf_31 : decode cX6_wasOf 31 = .ok (.iload_n 3, 1) := by decide +kernel
theorem dX6_wasOf_32 : decode cX6_wasOf 32 = .ok (.aload_n 0, 1) := by decide +kernel
theorem dX6_wasOf_33 : decode cX6_wasOf 33 = .ok (.invokevirtual 256, 3) := by decide +kernel
theorem dX6_wasOf_36 : decode cX6_wasOf 36 = .ok (.ifCond .eq 10, 3) := by decide +kernel
theorem dX6_wasOf_39 : decode cX6_wasOf 39 = .ok (.iconst 1, 1) := by decide +kernel
theorem dX6_wasOf_40 : decode cX6_wasOf 40 = .ok (.iload 4, 2) := by decide +kernel
theorem dX6_wasOf_42 : decode cX6_wasOf 42 = .ok (.ishl, 1) := by decide +kernel
theorem dX6_wasOf_43 : decode cX6_wasOf 43 = .ok (.goto 4, 3) := by decide +kernel
theorem dX6_wasOf_46 : decode cX6_wasOf 46 = .ok (.iconst 0, 1) := by decide +kernel
theorem dX6_wasOf_47 : decode cX6_wasOf 47 = .ok (.ior, 1) := by decide +kernel
theorem dX6_wasOf_48 : decode cX6_wasOf 48 = .ok (.istore_n 3, 1) := by decide +kernel
theorem dX6_wasOf_49 : decode cX6_wasOf 49 = .ok (.iconst 0, 1) := by decide +kernel
theorem dX6_wasOf_50 : decode cX6_wasOf 50 = .ok (.istore 5, 2) := by decide +kernel
theorem dX6_wasOf_52 : decode cX6_wasOf 52 = .ok (.iload 5, 2) := by decide +kernel
theorem dX6_wasOf_54 : decode cX6_wasOf 54 = .ok (.bipush 40, 2) := by decide +kernel
theorem dX6_wasOf_56 : decode cX6_wasOf 56 = .ok (.if_icmp .ge 34, 3) := by decide +kernel
theorem dX6_wasOf_59 : decode cX6_wasOf 59 = .ok (.aload_n 0, 1) := by decide +kernel
theorem dX6_wasOf_60 : decode cX6_wasOf 60 = .ok (.getfield 82, 3) := by decide +kernel
theorem dX6_wasOf_63 : decode cX6_wasOf 63 = .ok (.bipush 40, 2) := by decide +kernel
theorem dX6_wasOf_65 : decode cX6_wasOf 65 = .ok (.iload 4, 2) := by decide +kernel
theorem dX6_wasOf_67 : decode cX6_wasOf 67 = .ok (.imul, 1) := by decide +kernel
theorem dX6_wasOf_68 : decode cX6_wasOf 68 = .ok (.iload 5, 2) := by decide +kernel
theorem dX6_wasOf_70 : decode cX6_wasOf 70 = .ok (.iadd, 1) := by decide +kernel
theorem dX6_wasOf_71 : decode cX6_wasOf 71 = .ok (.aload_n 0, 1) := by decide +kernel
theorem dX6_wasOf_72 : decode cX6_wasOf 72 = .ok (.getfield 70, 3) := by decide +kernel
theorem dX6_wasOf_75 : decode cX6_wasOf 75 = .ok (.bipush 8, 2) := by decide +kernel
theorem dX6_wasOf_77 : decode cX6_wasOf 77 = .ok (.iload 5, 2) := by decide +kernel
theorem dX6_wasOf_79 : decode cX6_wasOf 79 = .ok (.imul, 1) := by decide +kernel
theorem dX6_wasOf_80 : decode cX6_wasOf 80 = .ok (.iload_n 1, 1) := by decide +kernel
theorem dX6_wasOf_81 : decode cX6_wasOf 81 = .ok (.iadd, 1) := by decide +kernel
theorem dX6_wasOf_82 : decode cX6_wasOf 82 = .ok (.iaload, 1) := by decide +kernel
theorem dX6_wasOf_83 : decode cX6_wasOf 83 = .ok (.iastore, 1) := by decide +kernel
theorem dX6_wasOf_84 : decode cX6_wasOf 84 = .ok (.iinc 5 1, 3) := by decide +kernel
theorem dX6_wasOf_87 : decode cX6_wasOf 87 = .ok (.goto (-35), 3) := by decide +kernel
theorem dX6_wasOf_90 : decode cX6_wasOf 90 = .ok (.iinc 4 1, 3) := by decide +kernel
theorem dX6_wasOf_93 : decode cX6_wasOf 93 = .ok (.goto (-77), 3) := by decide +kernel
theorem dX6_wasOf_96 : decode cX6_wasOf 96 = .ok (.aload_n 0, 1) := by decide +kernel
theorem dX6_wasOf_97 : decode cX6_wasOf 97 = .ok (.getfield 22, 3) := by decide +kernel
theorem dX6_wasOf_100 : decode cX6_wasOf 100 = .ok (.iload_n 1, 1) := by decide +kernel
theorem dX6_wasOf_101 : decode cX6_wasOf 101 = .ok (.iload_n 2, 1) := by decide +kernel
theorem dX6_wasOf_102 : decode cX6_wasOf 102 = .ok (.iastore, 1) := by decide +kernel
theorem dX6_wasOf_103 : decode cX6_wasOf 103 = .ok (.iload_n 3, 1) := by decide +kernel
theorem dX6_wasOf_104 : decode cX6_wasOf 104 = .ok (.ireturn, 1) := by decide +kernel
theorem dX6_was_0 : decode cX6_was 0 = .ok (.aload_n 0, 1) := by decide +kernel
theorem dX6_was_1 : decode cX6_was 1 = .ok (.iload_n 1, 1) := by decide +kernel
theorem dX6_was_2 : decode cX6_was 2 = .ok (.invokevirtual 142, 3) := by decide +kernel
theorem dX6_was_5 : decode cX6_was 5 = .ok (.ifCond .eq 11, 3) := by decide +kernel
theorem dX6_was_8 : decode cX6_was 8 = .ok (.aload_n 0, 1) := by decide +kernel
theorem dX6_was_9 : decode cX6_was 9 = .ok (.iload_n 1, 1) := by decide +kernel
theorem dX6_was_10 : decode cX6_was 10 = .ok (.invokevirtual 263, 3) := by decide +kernel
theorem dX6_was_13 : decode cX6_was 13 = .ok (.goto 5, 3) := by decide +kernel
theorem dX6_was_16 : decode cX6_was 16 = .ok (.bipush (-2), 2) := by decide +kernel
theorem dX6_was_18 : decode cX6_was 18 = .ok (.ireturn, 1) := by decide +kernel
theorem dX6_startsOf_0 : decode cX6_startsOf 0 = .ok (.aload_n 0, 1) := by decide +kernel
theorem dX6_startsOf_1 : decode cX6_startsOf 1 = .ok (.invokevirtual 207, 3) := by decide +kernel
theorem dX6_startsOf_4 : decode cX6_startsOf 4 = .ok (.iconst 0, 1) := by decide +kernel
theorem dX6_startsOf_5 : decode cX6_startsOf 5 = .ok (.istore_n 2, 1) := by decide +kernel
theorem dX6_startsOf_6 : decode cX6_startsOf 6 = .ok (.iconst (-1), 1) := by decide +kernel
theorem dX6_startsOf_7 : decode cX6_startsOf 7 = .ok (.istore_n 3, 1) := by decide +kernel
theorem dX6_startsOf_8 : decode cX6_startsOf 8 = .ok (.iconst (-1), 1) := by decide +kernel
theorem dX6_startsOf_9 : decode cX6_startsOf 9 = .ok (.istore 4, 2) := by decide +kernel
theorem dX6_startsOf_11 : decode cX6_startsOf 11 = .ok (.iconst 0, 1) := by decide +kernel
theorem dX6_startsOf_12 : decode cX6_startsOf 12 = .ok (.istore 5, 2) := by decide +kernel
theorem dX6_startsOf_14 : decode cX6_startsOf 14 = .ok (.iload 5, 2) := by decide +kernel
theorem dX6_startsOf_16 : decode cX6_startsOf 16 = .ok (.bipush 61, 2) := by decide +kernel
theorem dX6_startsOf_18 : decode cX6_startsOf 18 = .ok (.if_icmp .ge 65, 3) := by decide +kernel
theorem dX6_startsOf_21 : decode cX6_startsOf 21 = .ok (.aload_n 0, 1) := by decide +kernel
theorem dX6_startsOf_22 : decode cX6_startsOf 22 = .ok (.iload 5, 2) := by decide +kernel
theorem dX6_startsOf_24 : decode cX6_startsOf 24 = .ok (.putfield 178, 3) := by decide +kernel
theorem dX6_startsOf_27 : decode cX6_startsOf 27 = .ok (.aload_n 0, 1) := by decide +kernel
theorem dX6_startsOf_28 : decode cX6_startsOf 28 = .ok (.invokevirtual 256, 3) := by decide +kernel
theorem dX6_startsOf_31 : decode cX6_startsOf 31 = .ok (.istore 6, 2) := by decide +kernel
theorem dX6_startsOf_33 : decode cX6_startsOf 33 = .ok (.iload_n 2, 1) := by decide +kernel
theorem dX6_startsOf_34 : decode cX6_startsOf 34 = .ok (.iload 6, 2) := by decide +kernel
theorem dX6_startsOf_36 : decode cX6_startsOf 36 = .ok (.ifCond .eq 7, 3) := by decide +kernel
theorem dX6_startsOf_39 : decode cX6_startsOf 39 = .ok (.iconst 1, 1) := by decide +kernel
theorem dX6_startsOf_40 : decode cX6_startsOf 40 = .ok (.goto 4, 3) := by decide +kernel
theorem dX6_startsOf_43 : decode cX6_startsOf 43 = .ok (.iconst 0, 1) := by decide +kernel
theorem dX6_startsOf_44 : decode cX6_startsOf 44 = .ok (.iadd, 1) := by decide +kernel
theorem dX6_startsOf_45 : decode cX6_startsOf 45 = .ok (.istore_n 2, 1) := by decide +kernel
theorem dX6_startsOf_46 : decode cX6_startsOf 46 = .ok (.iload 6, 2) := by decide +kernel
theorem dX6_startsOf_48 : decode cX6_startsOf 48 = .ok (.ifCond .eq 13, 3) := by decide +kernel
theorem dX6_startsOf_51 : decode cX6_startsOf 51 = .ok (.iload_n 3, 1) := by decide +kernel
theorem dX6_startsOf_52 : decode cX6_startsOf 52 = .ok (.iconst (-1), 1) := by decide +kernel
theorem dX6_startsOf_53 : decode cX6_startsOf 53 = .ok (.if_icmp .ne 8, 3) := by decide +kernel
theorem dX6_startsOf_56 : decode cX6_startsOf 56 = .ok (.iload 5, 2) := by decide +kernel
theorem dX6_startsOf_58 : decode cX6_startsOf 58 = .ok (.goto 4, 3) := by decide +kernel
theorem dX6_startsOf_61 : decode cX6_startsOf 61 = .ok (.iload_n 3, 1) := by decide +kernel
theorem dX6_startsOf_62 : decode cX6_startsOf 62 = .ok (.istore_n 3, 1) := by decide +kernel
theorem dX6_startsOf_63 : decode cX6_startsOf 63 = .ok (.iload 6, 2) := by decide +kernel
theorem dX6_startsOf_65 : decode cX6_startsOf 65 = .ok (.ifCond .eq 8, 3) := by decide +kernel
theorem dX6_startsOf_68 : decode cX6_startsOf 68 = .ok (.iload 5, 2) := by decide +kernel
theorem dX6_startsOf_70 : decode cX6_startsOf 70 = .ok (.goto 5, 3) := by decide +kernel
theorem dX6_startsOf_73 : decode cX6_startsOf 73 = .ok (.iload 4, 2) := by decide +kernel
theorem dX6_startsOf_75 : decode cX6_startsOf 75 = .ok (.istore 4, 2) := by decide +kernel
theorem dX6_startsOf_77 : decode cX6_startsOf 77 = .ok (.iinc 5 1, 3) := by decide +kernel
theorem dX6_startsOf_80 : decode cX6_startsOf 80 = .ok (.goto (-66), 3) := by decide +kernel
theorem dX6_startsOf_83 : decode cX6_startsOf 83 = .ok (.iload_n 1, 1) := by decide +kernel
theorem dX6_startsOf_84 : decode cX6_startsOf 84 = .ok (.ifCond .ne 7, 3) := by decide +kernel
theorem dX6_startsOf_87 : decode cX6_startsOf 87 = .ok (.iload_n 2, 1) := by decide +kernel
theorem dX6_startsOf_88 : decode cX6_startsOf 88 = .ok (.goto 14, 3) := by decide +kernel
theorem dX6_startsOf_91 : decode cX6_startsOf 91 = .ok (.iload_n 1, 1) := by decide +kernel
theorem dX6_startsOf_92 : decode cX6_startsOf 92 = .ok (.iconst 1, 1) := by decide +kernel
theorem dX6_startsOf_93 : decode cX6_startsOf 93 = .ok (.if_icmp .ne 7, 3) := by decide +kernel
theorem dX6_startsOf_96 : decode cX6_startsOf 96 = .ok (.iload_n 3, 1) := by decide +kernel
theorem dX6_startsOf_97 : decode cX6_startsOf 97 = .ok (.goto 5, 3) := by decide +kernel
theorem dX6_startsOf_100 : decode cX6_startsOf 100 = .ok (.iload 4, 2) := by decide +kernel
theorem dX6_startsOf_102 : decode cX6_startsOf 102 = .ok (.ireturn, 1) := by decide +kernel
theorem dX6_starts_0 : decode cX6_starts 0 = .ok (.iload_n 1, 1) := by decide +kernel
theorem dX6_starts_1 : decode cX6_starts 1 = .ok (.iconst 0, 1) := by decide +kernel
theorem dX6_starts_2 : decode cX6_starts 2 = .ok (.iconst 2, 1) := by decide +kernel
theorem dX6_starts_3 : decode cX6_starts 3 = .ok (.invokestatic 103, 3) := by decide +kernel
theorem dX6_starts_6 : decode cX6_starts 6 = .ok (.ifCond .eq 11, 3) := by decide +kernel
theorem dX6_starts_9 : decode cX6_starts 9 = .ok (.aload_n 0, 1) := by decide +kernel
theorem dX6_starts_10 : decode cX6_starts 10 = .ok (.iload_n 1, 1) := by decide +kernel
theorem dX6_starts_11 : decode cX6_starts 11 = .ok (.invokevirtual 266, 3) := by decide +kernel
theorem dX6_starts_14 : decode cX6_starts 14 = .ok (.goto 5, 3) := by decide +kernel
theorem dX6_starts_17 : decode cX6_starts 17 = .ok (.bipush (-2), 2) := by decide +kernel
theorem dX6_starts_19 : decode cX6_starts 19 = .ok (.ireturn, 1) := by decide +kernel
theorem dX6_askOf_0 : decode cX6_askOf 0 = .ok (.aload_n 0, 1) := by decide +kernel
theorem dX6_askOf_1 : decode cX6_askOf 1 = .ok (.iload_n 1, 1) := by decide +kernel
theorem dX6_askOf_2 : decode cX6_askOf 2 = .ok (.invokevirtual 263, 3) := by decide +kernel
theorem dX6_askOf_5 : decode cX6_askOf 5 = .ok (.istore_n 2, 1) := by decide +kernel
theorem dX6_askOf_6 : decode cX6_askOf 6 = .ok (.iconst (-1), 1) := by decide +kernel
theorem dX6_askOf_7 : decode cX6_askOf 7 = .ok (.istore_n 3, 1) := by decide +kernel
theorem dX6_askOf_8 : decode cX6_askOf 8 = .ok (.iconst 0, 1) := by decide +kernel
theorem dX6_askOf_9 : decode cX6_askOf 9 = .ok (.istore 4, 2) := by decide +kernel
theorem dX6_askOf_11 : decode cX6_askOf 11 = .ok (.iconst 0, 1) := by decide +kernel
theorem dX6_askOf_12 : decode cX6_askOf 12 = .ok (.istore 5, 2) := by decide +kernel
theorem dX6_askOf_14 : decode cX6_askOf 14 = .ok (.iload 5, 2) := by decide +kernel
theorem dX6_askOf_16 : decode cX6_askOf 16 = .ok (.bipush 40, 2) := by decide +kernel
theorem dX6_askOf_18 : decode cX6_askOf 18 = .ok (.if_icmp .ge 165, 3) := by decide +kernel
theorem dX6_askOf_21 : decode cX6_askOf 21 = .ok (.iconst 0, 1) := by decide +kernel
theorem dX6_askOf_22 : decode cX6_askOf 22 = .ok (.istore 6, 2) := by decide +kernel
theorem dX6_askOf_24 : decode cX6_askOf 24 = .ok (.iconst 1, 1) := by decide +kernel
theorem dX6_askOf_25 : decode cX6_askOf 25 = .ok (.istore 7, 2) := by decide +kernel
theorem dX6_askOf_27 : decode cX6_askOf 27 = .ok (.iload 7, 2) := by decide +kernel
theorem dX6_askOf_29 : decode cX6_askOf 29 = .ok (.bipush 10, 2) := by decide +kernel
theorem dX6_askOf_31 : decode cX6_askOf 31 = .ok (.if_icmp .ge 101, 3) := by decide +kernel
theorem dX6_askOf_34 : decode cX6_askOf 34 = .ok (.iconst 0, 1) := by decide +kernel
theorem dX6_askOf_35 : decode cX6_askOf 35 = .ok (.istore 8, 2) := by decide +kernel
theorem dX6_askOf_37 : decode cX6_askOf 37 = .ok (.iconst 1, 1) := by decide +kernel
theorem dX6_askOf_38 : decode cX6_askOf 38 = .ok (.istore 9, 2) := by decide +kernel
theorem dX6_askOf_40 : decode cX6_askOf 40 = .ok (.iload 9, 2) := by decide +kernel
theorem dX6_askOf_42 : decode cX6_askOf 42 = .ok (.bipush 10, 2) := by decide +kernel
theorem dX6_askOf_44 : decode cX6_askOf 44 = .ok (.if_icmp .ge 66, 3) := by decide +kernel
theorem dX6_askOf_47 : decode cX6_askOf 47 = .ok (.iload 8, 2) := by decide +kernel
theorem dX6_askOf_49 : decode cX6_askOf 49 = .ok (.iload_n 2, 1) := by decide +kernel
theorem dX6_askOf_50 : decode cX6_askOf 50 = .ok (.iload 7, 2) := by decide +kernel
theorem dX6_askOf_52 : decode cX6_askOf 52 = .ok (.invokestatic 184, 3) := by decide +kernel
theorem dX6_askOf_55 : decode cX6_askOf 55 = .ok (.ifCond .eq 45, 3) := by decide +kernel
theorem dX6_askOf_58 : decode cX6_askOf 58 = .ok (.iload_n 2, 1) := by decide +kernel
theorem dX6_askOf_59 : decode cX6_askOf 59 = .ok (.iload 9, 2) := by decide +kernel
theorem dX6_askOf_61 : decode cX6_askOf 61 = .ok (.invokestatic 184, 3) := by decide +kernel
theorem dX6_askOf_64 : decode cX6_askOf 64 = .ok (.ifCond .eq 36, 3) := by decide +kernel
theorem dX6_askOf_67 : decode cX6_askOf 67 = .ok (.aload_n 0, 1) := by decide +kernel
theorem dX6_askOf_68 : decode cX6_askOf 68 = .ok (.getfield 82, 3) := by decide +kernel
theorem dX6_askOf_71 : decode cX6_askOf 71 = .ok (.bipush 40, 2) := by decide +kernel
theorem dX6_askOf_73 : decode cX6_askOf 73 = .ok (.iload 7, 2) := by decide +kernel
theorem dX6_askOf_75 : decode cX6_askOf 75 = .ok (.imul, 1) := by decide +kernel
theorem dX6_askOf_76 : decode cX6_askOf 76 = .ok (.iload 5, 2) := by decide +kernel
theorem dX6_askOf_78 : decode cX6_askOf 78 = .ok (.iadd, 1) := by decide +kernel
theorem dX6_askOf_79 : decode cX6_askOf 79 = .ok (.iaload, 1) := by decide +kernel
theorem dX6_askOf_80 : decode cX6_askOf 80 = .ok (.aload_n 0, 1) := by decide +kernel
theorem dX6_askOf_81 : decode cX6_askOf 81 = .ok (.getfield 82, 3) := by decide +kernel
theorem dX6_askOf_84 : decode cX6_askOf 84 = .ok (.bipush 40, 2) := by decide +kernel
theorem dX6_askOf_86 : decode cX6_askOf 86 = .ok (.iload 9, 2) := by decide +kernel
theorem dX6_askOf_88 : decode cX6_askOf 88 = .ok (.imul, 1) := by decide +kernel
theorem dX6_askOf_89 : decode cX6_askOf 89 = .ok (.iload 5, 2) := by decide +kernel
theorem dX6_askOf_91 : decode cX6_askOf 91 = .ok (.iadd, 1) := by decide +kernel
theorem dX6_askOf_92 : decode cX6_askOf 92 = .ok (.iaload, 1) := by decide +kernel
theorem dX6_askOf_93 : decode cX6_askOf 93 = .ok (.if_icmp .ne 7, 3) := by decide +kernel
theorem dX6_askOf_96 : decode cX6_askOf 96 = .ok (.iconst 1, 1) := by decide +kernel
theorem dX6_askOf_97 : decode cX6_askOf 97 = .ok (.goto 4, 3) := by decide +kernel
theorem dX6_askOf_100 : decode cX6_askOf 100 = .ok (.iconst 0, 1) := by decide +kernel
theorem dX6_askOf_101 : decode cX6_askOf 101 = .ok (.iadd, 1) := by decide +kernel
theorem dX6_askOf_102 : decode cX6_askOf 102 = .ok (.istore 8, 2) := by decide +kernel
theorem dX6_askOf_104 : decode cX6_askOf 104 = .ok (.iinc 9 1, 3) := by decide +kernel
theorem dX6_askOf_107 : decode cX6_askOf 107 = .ok (.goto (-67), 3) := by decide +kernel
theorem dX6_askOf_110 : decode cX6_askOf 110 = .ok (.iload 8, 2) := by decide +kernel
theorem dX6_askOf_112 : decode cX6_askOf 112 = .ok (.iload 6, 2) := by decide +kernel
theorem dX6_askOf_114 : decode cX6_askOf 114 = .ok (.if_icmp .le 8, 3) := by decide +kernel
theorem dX6_askOf_117 : decode cX6_askOf 117 = .ok (.iload 8, 2) := by decide +kernel
theorem dX6_askOf_119 : decode cX6_askOf 119 = .ok (.goto 5, 3) := by decide +kernel
theorem dX6_askOf_122 : decode cX6_askOf 122 = .ok (.iload 6, 2) := by decide +kernel
theorem dX6_askOf_124 : decode cX6_askOf 124 = .ok (.istore 6, 2) := by decide +kernel
theorem dX6_askOf_126 : decode cX6_askOf 126 = .ok (.iinc 7 1, 3) := by decide +kernel
theorem dX6_askOf_129 : decode cX6_askOf 129 = .ok (.goto (-102), 3) := by decide +kernel
theorem dX6_askOf_132 : decode cX6_askOf 132 = .ok (.iload_n 3, 1) := by decide +kernel
theorem dX6_askOf_133 : decode cX6_askOf 133 = .ok (.iconst (-1), 1) := by decide +kernel
theorem dX6_askOf_134 : decode cX6_askOf 134 = .ok (.if_icmp .eq 10, 3) := by decide +kernel
theorem dX6_askOf_137 : decode cX6_askOf 137 = .ok (.iload 6, 2) := by decide +kernel
theorem dX6_askOf_139 : decode cX6_askOf 139 = .ok (.iload 4, 2) := by decide +kernel
theorem dX6_askOf_141 : decode cX6_askOf 141 = .ok (.if_icmp .ge 7, 3) := by decide +kernel
theorem dX6_askOf_144 : decode cX6_askOf 144 = .ok (.iconst 1, 1) := by decide +kernel
theorem dX6_askOf_145 : decode cX6_askOf 145 = .ok (.goto 4, 3) := by decide +kernel
theorem dX6_askOf_148 : decode cX6_askOf 148 = .ok (.iconst 0, 1) := by decide +kernel
theorem dX6_askOf_149 : decode cX6_askOf 149 = .ok (.istore 7, 2) := by decide +kernel
theorem dX6_askOf_151 : decode cX6_askOf 151 = .ok (.iload 7, 2) := by decide +kernel
theorem dX6_askOf_153 : decode cX6_askOf 153 = .ok (.ifCond .eq 8, 3) := by decide +kernel
theorem dX6_askOf_156 : decode cX6_askOf 156 = .ok (.iload 5, 2) := by decide +kernel
theorem dX6_askOf_158 : decode cX6_askOf 158 = .ok (.goto 4, 3) := by decide +kernel
theorem dX6_askOf_161 : decode cX6_askOf 161 = .ok (.iload_n 3, 1) := by decide +kernel
theorem dX6_askOf_162 : decode cX6_askOf 162 = .ok (.istore_n 3, 1) := by decide +kernel
theorem dX6_askOf_163 : decode cX6_askOf 163 = .ok (.iload 7, 2) := by decide +kernel
theorem dX6_askOf_165 : decode cX6_askOf 165 = .ok (.ifCond .eq 8, 3) := by decide +kernel
theorem dX6_askOf_168 : decode cX6_askOf 168 = .ok (.iload 6, 2) := by decide +kernel
theorem dX6_askOf_170 : decode cX6_askOf 170 = .ok (.goto 5, 3) := by decide +kernel
theorem dX6_askOf_173 : decode cX6_askOf 173 = .ok (.iload 4, 2) := by decide +kernel
theorem dX6_askOf_175 : decode cX6_askOf 175 = .ok (.istore 4, 2) := by decide +kernel
theorem dX6_askOf_177 : decode cX6_askOf 177 = .ok (.iinc 5 1, 3) := by decide +kernel
theorem dX6_askOf_180 : decode cX6_askOf 180 = .ok (.goto (-166), 3) := by decide +kernel
theorem dX6_askOf_183 : decode cX6_askOf 183 = .ok (.iload_n 3, 1) := by decide +kernel
theorem dX6_askOf_184 : decode cX6_askOf 184 = .ok (.ireturn, 1) := by decide +kernel
theorem dX6_ask_0 : decode cX6_ask 0 = .ok (.aload_n 0, 1) := by decide +kernel
theorem dX6_ask_1 : decode cX6_ask 1 = .ok (.iload_n 1, 1) := by decide +kernel
theorem dX6_ask_2 : decode cX6_ask 2 = .ok (.invokevirtual 142, 3) := by decide +kernel
theorem dX6_ask_5 : decode cX6_ask 5 = .ok (.ifCond .eq 11, 3) := by decide +kernel
theorem dX6_ask_8 : decode cX6_ask 8 = .ok (.aload_n 0, 1) := by decide +kernel
theorem dX6_ask_9 : decode cX6_ask 9 = .ok (.iload_n 1, 1) := by decide +kernel
theorem dX6_ask_10 : decode cX6_ask 10 = .ok (.invokevirtual 269, 3) := by decide +kernel
theorem dX6_ask_13 : decode cX6_ask 13 = .ok (.goto 5, 3) := by decide +kernel
theorem dX6_ask_16 : decode cX6_ask 16 = .ok (.bipush (-2), 2) := by decide +kernel
theorem dX6_ask_18 : decode cX6_ask 18 = .ok (.ireturn, 1) := by decide +kernel
theorem dX6_mothOf_0 : decode cX6_mothOf 0 = .ok (.aload_n 0, 1) := by decide +kernel
theorem dX6_mothOf_1 : decode cX6_mothOf 1 = .ok (.invokevirtual 207, 3) := by decide +kernel
theorem dX6_mothOf_4 : decode cX6_mothOf 4 = .ok (.lconst 0, 1) := by decide +kernel
theorem dX6_mothOf_5 : decode cX6_mothOf 5 = .ok (.lstore 4, 2) := by decide +kernel
theorem dX6_mothOf_7 : decode cX6_mothOf 7 = .ok (.iconst 0, 1) := by decide +kernel
theorem dX6_mothOf_8 : decode cX6_mothOf 8 = .ok (.istore 6, 2) := by decide +kernel
theorem dX6_mothOf_10 : decode cX6_mothOf 10 = .ok (.iload 6, 2) := by decide +kernel
theorem dX6_mothOf_12 : decode cX6_mothOf 12 = .ok (.iconst 1, 1) := by decide +kernel
theorem dX6_mothOf_13 : decode cX6_mothOf 13 = .ok (.aload_n 0, 1) := by decide +kernel
theorem dX6_mothOf_14 : decode cX6_mothOf 14 = .ok (.getfield 154, 3) := by decide +kernel
theorem dX6_mothOf_17 : decode cX6_mothOf 17 = .ok (.ishl, 1) := by decide +kernel
theorem dX6_mothOf_18 : decode cX6_mothOf 18 = .ok (.if_icmp .ge 84, 3) := by decide +kernel
theorem dX6_mothOf_21 : decode cX6_mothOf 21 = .ok (.lconst 1, 1) := by decide +kernel
theorem dX6_mothOf_22 : decode cX6_mothOf 22 = .ok (.lstore 7, 2) := by decide +kernel
theorem dX6_mothOf_24 : decode cX6_mothOf 24 = .ok (.iconst 0, 1) := by decide +kernel
theorem dX6_mothOf_25 : decode cX6_mothOf 25 = .ok (.istore 9, 2) := by decide +kernel
theorem dX6_mothOf_27 : decode cX6_mothOf 27 = .ok (.iload 9, 2) := by decide +kernel
theorem dX6_mothOf_29 : decode cX6_mothOf 29 = .ok (.aload_n 0, 1) := by decide +kernel
theorem dX6_mothOf_30 : decode cX6_mothOf 30 = .ok (.getfield 154, 3) := by decide +kernel
theorem dX6_mothOf_33 : decode cX6_mothOf 33 = .ok (.if_icmp .ge 34, 3) := by decide +kernel
theorem dX6_mothOf_36 : decode cX6_mothOf 36 = .ok (.lload 7, 2) := by decide +kernel
theorem dX6_mothOf_38 : decode cX6_mothOf 38 = .ok (.iload 6, 2) := by decide +kernel
theorem dX6_mothOf_40 : decode cX6_mothOf 40 = .ok (.iload 9, 2) := by decide +kernel
theorem dX6_mothOf_42 : decode cX6_mothOf 42 = .ok (.invokestatic 184, 3) := by decide +kernel
theorem dX6_mothOf_45 : decode cX6_mothOf 45 = .ok (.ifCond .eq 11, 3) := by decide +kernel
theorem dX6_mothOf_48 : decode cX6_mothOf 48 = .ok (.bipush 16, 2) := by decide +kernel
theorem dX6_mothOf_50 : decode cX6_mothOf 50 = .ok (.iload_n 1, 1) := by decide +kernel
theorem dX6_mothOf_51 : decode cX6_mothOf 51 = .ok (.isub, 1) := by decide +kernel
theorem dX6_mothOf_52 : decode cX6_mothOf 52 = .ok (.i2l, 1) := by decide +kernel
theorem dX6_mothOf_53 : decode cX6_mothOf 53 = .ok (.goto 5, 3) := by decide +kernel
theorem dX6_mothOf_56 : decode cX6_mothOf 56 = .ok (.iload_n 1, 1) := by decide +kernel
theorem dX6_mothOf_57 : decode cX6_mothOf 57 = .ok (.i2l, 1) := by decide +kernel
theorem dX6_mothOf_58 : decode cX6_mothOf 58 = .ok (.lmul, 1) := by decide +kernel
theorem dX6_mothOf_59 : decode cX6_mothOf 59 = .ok (.lstore 7, 2) := by decide +kernel
theorem dX6_mothOf_61 : decode cX6_mothOf 61 = .ok (.iinc 9 1, 3) := by decide +kernel
theorem dX6_mothOf_64 : decode cX6_mothOf 64 = .ok (.goto (-37), 3) := by decide +kernel
theorem dX6_mothOf_67 : decode cX6_mothOf 67 = .ok (.aload_n 0, 1) := by decide +kernel
theorem dX6_mothOf_68 : decode cX6_mothOf 68 = .ok (.iload 6, 2) := by decide +kernel
theorem dX6_mothOf_70 : decode cX6_mothOf 70 = .ok (.putfield 169, 3) := by decide +kernel
theorem dX6_mothOf_73 : decode cX6_mothOf 73 = .ok (.aload_n 0, 1) := by decide +kernel
theorem dX6_mothOf_74 : decode cX6_mothOf 74 = .ok (.invokevirtual 210, 3) := by decide +kernel
theorem dX6_mothOf_77 : decode cX6_mothOf 77 = .ok (.lload 4, 2) := by decide +kernel
theorem dX6_mothOf_79 : decode cX6_mothOf 79 = .ok (.aload_n 0, 1) := by decide +kernel
theorem dX6_mothOf_80 : decode cX6_mothOf 80 = .ok (.iload_n 2, 1) := by decide +kernel
theorem dX6_mothOf_81 : decode cX6_mothOf 81 = .ok (.invokevirtual 223, 3) := by decide +kernel
theorem dX6_mothOf_84 : decode cX6_mothOf 84 = .ok (.ifCond .ne 8, 3) := by decide +kernel
theorem dX6_mothOf_87 : decode cX6_mothOf 87 = .ok (.lload 7, 2) := by decide +kernel
theorem dX6_mothOf_89 : decode cX6_mothOf 89 = .ok (.goto 4, 3) := by decide +kernel
theorem dX6_mothOf_92 : decode cX6_mothOf 92 = .ok (.lconst 0, 1) := by decide +kernel
theorem dX6_mothOf_93 : decode cX6_mothOf 93 = .ok (.ladd, 1) := by decide +kernel
theorem dX6_mothOf_94 : decode cX6_mothOf 94 = .ok (.lstore 4, 2) := by decide +kernel
theorem dX6_mothOf_96 : decode cX6_mothOf 96 = .ok (.iinc 6 1, 3) := by decide +kernel
theorem dX6_mothOf_99 : decode cX6_mothOf 99 = .ok (.goto (-89), 3) := by decide +kernel
theorem dX6_mothOf_102 : decode cX6_mothOf 102 = .ok (.lload 4, 2) := by decide +kernel
theorem dX6_mothOf_104 : decode cX6_mothOf 104 = .ok (.lconst 1, 1) := by decide +kernel
theorem dX6_mothOf_105 : decode cX6_mothOf 105 = .ok (.iconst 4, 1) := by decide +kernel
theorem dX6_mothOf_106 : decode cX6_mothOf 106 = .ok (.aload_n 0, 1) := by decide +kernel
theorem dX6_mothOf_107 : decode cX6_mothOf 107 = .ok (.getfield 154, 3) := by decide +kernel
theorem dX6_mothOf_110 : decode cX6_mothOf 110 = .ok (.imul, 1) := by decide +kernel
theorem dX6_mothOf_111 : decode cX6_mothOf 111 = .ok (.lshl, 1) := by decide +kernel
theorem dX6_mothOf_112 : decode cX6_mothOf 112 = .ok (.iload_n 3, 1) := by decide +kernel
theorem dX6_mothOf_113 : decode cX6_mothOf 113 = .ok (.invokestatic 272, 3) := by decide +kernel
theorem dX6_mothOf_116 : decode cX6_mothOf 116 = .ok (.lreturn, 1) := by decide +kernel
theorem dX6_moth_0 : decode cX6_moth 0 = .ok (.iload_n 1, 1) := by decide +kernel
theorem dX6_moth_1 : decode cX6_moth 1 = .ok (.iconst 0, 1) := by decide +kernel
theorem dX6_moth_2 : decode cX6_moth 2 = .ok (.bipush 16, 2) := by decide +kernel
theorem dX6_moth_4 : decode cX6_moth 4 = .ok (.invokestatic 103, 3) := by decide +kernel
theorem dX6_moth_7 : decode cX6_moth 7 = .ok (.ifCond .eq 30, 3) := by decide +kernel
theorem dX6_moth_10 : decode cX6_moth 10 = .ok (.aload_n 0, 1) := by decide +kernel
theorem dX6_moth_11 : decode cX6_moth 11 = .ok (.iload_n 2, 1) := by decide +kernel
theorem dX6_moth_12 : decode cX6_moth 12 = .ok (.invokevirtual 142, 3) := by decide +kernel
theorem dX6_moth_15 : decode cX6_moth 15 = .ok (.ifCond .eq 22, 3) := by decide +kernel
theorem dX6_moth_18 : decode cX6_moth 18 = .ok (.iload_n 3, 1) := by decide +kernel
theorem dX6_moth_19 : decode cX6_moth 19 = .ok (.iconst 0, 1) := by decide +kernel
theorem dX6_moth_20 : decode cX6_moth 20 = .ok (.iconst 1, 1) := by decide +kernel
theorem dX6_moth_21 : decode cX6_moth 21 = .ok (.invokestatic 103, 3) := by decide +kernel
theorem dX6_moth_24 : decode cX6_moth 24 = .ok (.ifCond .eq 13, 3) := by decide +kernel
theorem dX6_moth_27 : decode cX6_moth 27 = .ok (.aload_n 0, 1) := by decide +kernel
theorem dX6_moth_28 : decode cX6_moth 28 = .ok (.iload_n 1, 1) := by decide +kernel
theorem dX6_moth_29 : decode cX6_moth 29 = .ok (.iload_n 2, 1) := by decide +kernel
theorem dX6_moth_30 : decode cX6_moth 30 = .ok (.iload_n 3, 1) := by decide +kernel
theorem dX6_moth_31 : decode cX6_moth 31 = .ok (.invokevirtual 276, 3) := by decide +kernel
theorem dX6_moth_34 : decode cX6_moth 34 = .ok (.goto 8, 3) := by decide +kernel
theorem dX6_moth_37 : decode cX6_moth 37 = .ok (.bipush (-2), 2) := by decide +kernel
theorem dX6_moth_39 : decode cX6_moth 39 = .ok (.invokestatic 280, 3) := by decide +kernel
theorem dX6_moth_42 : decode cX6_moth 42 = .ok (.lreturn, 1) := by decide +kernel
theorem dX6_yearOf_0 : decode cX6_yearOf 0 = .ok (.aload_n 0, 1) := by decide +kernel
theorem dX6_yearOf_1 : decode cX6_yearOf 1 = .ok (.invokevirtual 207, 3) := by decide +kernel
theorem dX6_yearOf_4 : decode cX6_yearOf 4 = .ok (.iload_n 1, 1) := by decide +kernel
theorem dX6_yearOf_5 : decode cX6_yearOf 5 = .ok (.istore 4, 2) := by decide +kernel
theorem dX6_yearOf_7 : decode cX6_yearOf 7 = .ok (.iconst 0, 1) := by decide +kernel
theorem dX6_yearOf_8 : decode cX6_yearOf 8 = .ok (.istore 5, 2) := by decide +kernel
theorem dX6_yearOf_10 : decode cX6_yearOf 10 = .ok (.iload 5, 2) := by decide +kernel
theorem dX6_yearOf_12 : decode cX6_yearOf 12 = .ok (.bipush 40, 2) := by decide +kernel
theorem dX6_yearOf_14 : decode cX6_yearOf 14 = .ok (.if_icmp .ge 57, 3) := by decide +kernel
theorem dX6_yearOf_17 : decode cX6_yearOf 17 = .ok (.iload 5, 2) := by decide +kernel
theorem dX6_yearOf_19 : decode cX6_yearOf 19 = .ok (.iload_n 2, 1) := by decide +kernel
theorem dX6_yearOf_20 : decode cX6_yearOf 20 = .ok (.if_icmp .ge 16, 3) := by decide +kernel
theorem dX6_yearOf_23 : decode cX6_yearOf 23 = .ok (.ldc_w 284, 3) := by decide +kernel
theorem dX6_yearOf_26 : decode cX6_yearOf 26 = .ok (.iload 4, 2) := by decide +kernel
theorem dX6_yearOf_28 : decode cX6_yearOf 28 = .ok (.imul, 1) := by decide +kernel
theorem dX6_yearOf_29 : decode cX6_yearOf 29 = .ok (.sipush 12345, 3) := by decide +kernel
theorem dX6_yearOf_32 : decode cX6_yearOf 32 = .ok (.iadd, 1) := by decide +kernel
theorem dX6_yearOf_33 : decode cX6_yearOf 33 = .ok (.goto 5, 3) := by decide +kernel
theorem dX6_yearOf_36 : decode cX6_yearOf 36 = .ok (.iload 4, 2) := by decide +kernel
theorem dX6_yearOf_38 : decode cX6_yearOf 38 = .ok (.istore 4, 2) := by decide +kernel
theorem dX6_yearOf_40 : decode cX6_yearOf 40 = .ok (.aload_n 0, 1) := by decide +kernel
theorem dX6_yearOf_41 : decode cX6_yearOf 41 = .ok (.getfield 52, 3) := by decide +kernel
theorem dX6_yearOf_44 : decode cX6_yearOf 44 = .ok (.iload 5, 2) := by decide +kernel
theorem dX6_yearOf_46 : decode cX6_yearOf 46 = .ok (.iload 5, 2) := by decide +kernel
theorem dX6_yearOf_48 : decode cX6_yearOf 48 = .ok (.iload_n 2, 1) := by decide +kernel
theorem dX6_yearOf_49 : decode cX6_yearOf 49 = .ok (.if_icmp .ge 14, 3) := by decide +kernel
theorem dX6_yearOf_52 : decode cX6_yearOf 52 = .ok (.iload 4, 2) := by decide +kernel
theorem dX6_yearOf_54 : decode cX6_yearOf 54 = .ok (.bipush 16, 2) := by decide +kernel
theorem dX6_yearOf_56 : decode cX6_yearOf 56 = .ok (.iushr, 1) := by decide +kernel
theorem dX6_yearOf_57 : decode cX6_yearOf 57 = .ok (.bipush 10, 2) := by decide +kernel
theorem dX6_yearOf_59 : decode cX6_yearOf 59 = .ok (.irem, 1) := by decide +kernel
theorem dX6_yearOf_60 : decode cX6_yearOf 60 = .ok (.goto 4, 3) := by decide +kernel
theorem dX6_yearOf_63 : decode cX6_yearOf 63 = .ok (.iconst 3, 1) := by decide +kernel
theorem dX6_yearOf_64 : decode cX6_yearOf 64 = .ok (.iastore, 1) := by decide +kernel
theorem dX6_yearOf_65 : decode cX6_yearOf 65 = .ok (.iinc 5 1, 3) := by decide +kernel
theorem dX6_yearOf_68 : decode cX6_yearOf 68 = .ok (.goto (-58), 3) := by decide +kernel
theorem dX6_yearOf_71 : decode cX6_yearOf 71 = .ok (.aload_n 0, 1) := by decide +kernel
theorem dX6_yearOf_72 : decode cX6_yearOf 72 = .ok (.invokevirtual 210, 3) := by decide +kernel
theorem dX6_yearOf_75 : decode cX6_yearOf 75 = .ok (.iload_n 3, 1) := by decide +kernel
theorem dX6_yearOf_76 : decode cX6_yearOf 76 = .ok (.ifCond .ne 10, 3) := by decide +kernel
theorem dX6_yearOf_79 : decode cX6_yearOf 79 = .ok (.aload_n 0, 1) := by decide +kernel
theorem dX6_yearOf_80 : decode cX6_yearOf 80 = .ok (.invokevirtual 238, 3) := by decide +kernel
theorem dX6_yearOf_83 : decode cX6_yearOf 83 = .ok (.goto 7, 3) := by decide +kernel
theorem dX6_yearOf_86 : decode cX6_yearOf 86 = .ok (.aload_n 0, 1) := by decide +kernel
theorem dX6_yearOf_87 : decode cX6_yearOf 87 = .ok (.getfield 191, 3) := by decide +kernel
theorem dX6_yearOf_90 : decode cX6_yearOf 90 = .ok (.ireturn, 1) := by decide +kernel
theorem dX6_year_0 : decode cX6_year 0 = .ok (.iload_n 2, 1) := by decide +kernel
theorem dX6_year_1 : decode cX6_year 1 = .ok (.iconst 0, 1) := by decide +kernel
theorem dX6_year_2 : decode cX6_year 2 = .ok (.bipush 40, 2) := by decide +kernel
theorem dX6_year_4 : decode cX6_year 4 = .ok (.invokestatic 103, 3) := by decide +kernel
theorem dX6_year_7 : decode cX6_year 7 = .ok (.ifCond .eq 22, 3) := by decide +kernel
theorem dX6_year_10 : decode cX6_year 10 = .ok (.iload_n 3, 1) := by decide +kernel
theorem dX6_year_11 : decode cX6_year 11 = .ok (.iconst 0, 1) := by decide +kernel
theorem dX6_year_12 : decode cX6_year 12 = .ok (.iconst 1, 1) := by decide +kernel
theorem dX6_year_13 : decode cX6_year 13 = .ok (.invokestatic 103, 3) := by decide +kernel
theorem dX6_year_16 : decode cX6_year 16 = .ok (.ifCond .eq 13, 3) := by decide +kernel
theorem dX6_year_19 : decode cX6_year 19 = .ok (.aload_n 0, 1) := by decide +kernel
theorem dX6_year_20 : decode cX6_year 20 = .ok (.iload_n 1, 1) := by decide +kernel
theorem dX6_year_21 : decode cX6_year 21 = .ok (.iload_n 2, 1) := by decide +kernel
theorem dX6_year_22 : decode cX6_year 22 = .ok (.iload_n 3, 1) := by decide +kernel
theorem dX6_year_23 : decode cX6_year 23 = .ok (.invokevirtual 285, 3) := by decide +kernel
theorem dX6_year_26 : decode cX6_year 26 = .ok (.goto 5, 3) := by decide +kernel
theorem dX6_year_29 : decode cX6_year 29 = .ok (.bipush (-2), 2) := by decide +kernel
theorem dX6_year_31 : decode cX6_year 31 = .ok (.ireturn, 1) := by decide +kernel
theorem dX6_meets_0 : decode cX6_meets 0 = .ok (.aload_n 0, 1) := by decide +kernel
theorem dX6_meets_1 : decode cX6_meets 1 = .ok (.iload_n 1, 1) := by decide +kernel
theorem dX6_meets_2 : decode cX6_meets 2 = .ok (.putfield 288, 3) := by decide +kernel
theorem dX6_meets_5 : decode cX6_meets 5 = .ok (.bipush (-10), 2) := by decide +kernel
theorem dX6_meets_7 : decode cX6_meets 7 = .ok (.iload_n 1, 1) := by decide +kernel
theorem dX6_meets_8 : decode cX6_meets 8 = .ok (.isub, 1) := by decide +kernel
theorem dX6_meets_9 : decode cX6_meets 9 = .ok (.ireturn, 1) := by decide +kernel
theorem dX6_isSheet_0 : decode cX6_isSheet 0 = .ok (.iload_n 0, 1) := by decide +kernel
theorem dX6_isSheet_1 : decode cX6_isSheet 1 = .ok (.iconst 0, 1) := by decide +kernel
theorem dX6_isSheet_2 : decode cX6_isSheet 2 = .ok (.iconst 3, 1) := by decide +kernel
theorem dX6_isSheet_3 : decode cX6_isSheet 3 = .ok (.invokestatic 103, 3) := by decide +kernel
theorem dX6_isSheet_6 : decode cX6_isSheet 6 = .ok (.ireturn, 1) := by decide +kernel
theorem dX6_sheet_0 : decode cX6_sheet 0 = .ok (.iload_n 1, 1) := by decide +kernel
theorem dX6_sheet_1 : decode cX6_sheet 1 = .ok (.invokestatic 160, 3) := by decide +kernel
theorem dX6_sheet_4 : decode cX6_sheet 4 = .ok (.ifCond .eq 18, 3) := by decide +kernel
theorem dX6_sheet_7 : decode cX6_sheet 7 = .ok (.iload_n 2, 1) := by decide +kernel
theorem dX6_sheet_8 : decode cX6_sheet 8 = .ok (.iconst 0, 1) := by decide +kernel
theorem dX6_sheet_9 : decode cX6_sheet 9 = .ok (.iconst 2, 1) := by decide +kernel
theorem dX6_sheet_10 : decode cX6_sheet 10 = .ok (.invokestatic 103, 3) := by decide +kernel
theorem dX6_sheet_13 : decode cX6_sheet 13 = .ok (.ifCond .eq 9, 3) := by decide +kernel
theorem dX6_sheet_16 : decode cX6_sheet 16 = .ok (.iload_n 3, 1) := by decide +kernel
theorem dX6_sheet_17 : decode cX6_sheet 17 = .ok (.bipush 60, 2) := by decide +kernel
theorem dX6_sheet_19 : decode cX6_sheet 19 = .ok (.if_icmp .le 6, 3) := by decide +kernel
theorem dX6_sheet_22 : decode cX6_sheet 22 = .ok (.bipush (-2), 2) := by decide +kernel
theorem dX6_sheet_24 : decode cX6_sheet 24 = .ok (.ireturn, 1) := by decide +kernel
theorem dX6_sheet_25 : decode cX6_sheet 25 = .ok (.iload_n 3, 1) := by decide +kernel
theorem dX6_sheet_26 : decode cX6_sheet 26 = .ok (.ifCond .ge 9, 3) := by decide +kernel
theorem dX6_sheet_29 : decode cX6_sheet 29 = .ok (.aload_n 0, 1) := by decide +kernel
theorem dX6_sheet_30 : decode cX6_sheet 30 = .ok (.iconst 5, 1) := by decide +kernel
theorem dX6_sheet_31 : decode cX6_sheet 31 = .ok (.invokevirtual 163, 3) := by decide +kernel
theorem dX6_sheet_34 : decode cX6_sheet 34 = .ok (.ireturn, 1) := by decide +kernel
theorem dX6_sheet_35 : decode cX6_sheet 35 = .ok (.aload_n 0, 1) := by decide +kernel
theorem dX6_sheet_36 : decode cX6_sheet 36 = .ok (.getfield 85, 3) := by decide +kernel
theorem dX6_sheet_39 : decode cX6_sheet 39 = .ok (.iload_n 1, 1) := by decide +kernel
theorem dX6_sheet_40 : decode cX6_sheet 40 = .ok (.iconst 1, 1) := by decide +kernel
theorem dX6_sheet_41 : decode cX6_sheet 41 = .ok (.bastore, 1) := by decide +kernel
theorem dX6_sheet_42 : decode cX6_sheet 42 = .ok (.aload_n 0, 1) := by decide +kernel
theorem dX6_sheet_43 : decode cX6_sheet 43 = .ok (.getfield 89, 3) := by decide +kernel
theorem dX6_sheet_46 : decode cX6_sheet 46 = .ok (.iload_n 1, 1) := by decide +kernel
theorem dX6_sheet_47 : decode cX6_sheet 47 = .ok (.iload_n 2, 1) := by decide +kernel
theorem dX6_sheet_48 : decode cX6_sheet 48 = .ok (.iastore, 1) := by decide +kernel
theorem dX6_sheet_49 : decode cX6_sheet 49 = .ok (.aload_n 0, 1) := by decide +kernel
theorem dX6_sheet_50 : decode cX6_sheet 50 = .ok (.getfield 92, 3) := by decide +kernel
theorem dX6_sheet_53 : decode cX6_sheet 53 = .ok (.iload_n 1, 1) := by decide +kernel
theorem dX6_sheet_54 : decode cX6_sheet 54 = .ok (.iload_n 3, 1) := by decide +kernel
theorem dX6_sheet_55 : decode cX6_sheet 55 = .ok (.iastore, 1) := by decide +kernel
theorem dX6_sheet_56 : decode cX6_sheet 56 = .ok (.iconst 0, 1) := by decide +kernel
theorem dX6_sheet_57 : decode cX6_sheet 57 = .ok (.istore 4, 2) := by decide +kernel
theorem dX6_sheet_59 : decode cX6_sheet 59 = .ok (.iload 4, 2) := by decide +kernel
theorem dX6_sheet_61 : decode cX6_sheet 61 = .ok (.bipush 60, 2) := by decide +kernel
theorem dX6_sheet_63 : decode cX6_sheet 63 = .ok (.if_icmp .ge 22, 3) := by decide +kernel
theorem dX6_sheet_66 : decode cX6_sheet 66 = .ok (.aload_n 0, 1) := by decide +kernel
theorem dX6_sheet_67 : decode cX6_sheet 67 = .ok (.getfield 95, 3) := by decide +kernel
theorem dX6_sheet_70 : decode cX6_sheet 70 = .ok (.bipush 60, 2) := by decide +kernel
theorem dX6_sheet_72 : decode cX6_sheet 72 = .ok (.iload_n 1, 1) := by decide +kernel
theorem dX6_sheet_73 : decode cX6_sheet 73 = .ok (.imul, 1) := by decide +kernel
theorem dX6_sheet_74 : decode cX6_sheet 74 = .ok (.iload 4, 2) := by decide +kernel
theorem dX6_sheet_76 : decode cX6_sheet 76 = .ok (.iadd, 1) := by decide +kernel
theorem dX6_sheet_77 : decode cX6_sheet 77 = .ok (.iconst 0, 1) := by decide +kernel
theorem dX6_sheet_78 : decode cX6_sheet 78 = .ok (.iastore, 1) := by decide +kernel
theorem dX6_sheet_79 : decode cX6_sheet 79 = .ok (.iinc 4 1, 3) := by decide +kernel
theorem dX6_sheet_82 : decode cX6_sheet 82 = .ok (.goto (-23), 3) := by decide +kernel
theorem dX6_sheet_85 : decode cX6_sheet 85 = .ok (.iload_n 3, 1) := by decide +kernel
theorem dX6_sheet_86 : decode cX6_sheet 86 = .ok (.ireturn, 1) := by decide +kernel
theorem dX6_lose_0 : decode cX6_lose 0 = .ok (.iload_n 1, 1) := by decide +kernel
theorem dX6_lose_1 : decode cX6_lose 1 = .ok (.invokestatic 160, 3) := by decide +kernel
theorem dX6_lose_4 : decode cX6_lose 4 = .ok (.ifCond .ne 6, 3) := by decide +kernel
theorem dX6_lose_7 : decode cX6_lose 7 = .ok (.bipush (-2), 2) := by decide +kernel
theorem dX6_lose_9 : decode cX6_lose 9 = .ok (.ireturn, 1) := by decide +kernel
theorem dX6_lose_10 : decode cX6_lose 10 = .ok (.aload_n 0, 1) := by decide +kernel
theorem dX6_lose_11 : decode cX6_lose 11 = .ok (.getfield 85, 3) := by decide +kernel
theorem dX6_lose_14 : decode cX6_lose 14 = .ok (.iload_n 1, 1) := by decide +kernel
theorem dX6_lose_15 : decode cX6_lose 15 = .ok (.baload, 1) := by decide +kernel
theorem dX6_lose_16 : decode cX6_lose 16 = .ok (.ifCond .ne 9, 3) := by decide +kernel
theorem dX6_lose_19 : decode cX6_lose 19 = .ok (.aload_n 0, 1) := by decide +kernel
theorem dX6_lose_20 : decode cX6_lose 20 = .ok (.iconst 1, 1) := by decide +kernel
theorem dX6_lose_21 : decode cX6_lose 21 = .ok (.invokevirtual 163, 3) := by decide +kernel
theorem dX6_lose_24 : decode cX6_lose 24 = .ok (.ireturn, 1) := by decide +kernel
theorem dX6_lose_25 : decode cX6_lose 25 = .ok (.aload_n 0, 1) := by decide +kernel
theorem dX6_lose_26 : decode cX6_lose 26 = .ok (.getfield 85, 3) := by decide +kernel
theorem dX6_lose_29 : decode cX6_lose 29 = .ok (.iload_n 1, 1) := by decide +kernel
theorem dX6_lose_30 : decode cX6_lose 30 = .ok (.iconst 0, 1) := by decide +kernel
theorem dX6_lose_31 : decode cX6_lose 31 = .ok (.bastore, 1) := by decide +kernel
theorem dX6_lose_32 : decode cX6_lose 32 = .ok (.aload_n 0, 1) := by decide +kernel
theorem dX6_lose_33 : decode cX6_lose 33 = .ok (.getfield 92, 3) := by decide +kernel
theorem dX6_lose_36 : decode cX6_lose 36 = .ok (.iload_n 1, 1) := by decide +kernel
theorem dX6_lose_37 : decode cX6_lose 37 = .ok (.iaload, 1) := by decide +kernel
theorem dX6_lose_38 : decode cX6_lose 38 = .ok (.ireturn, 1) := by decide +kernel
theorem dX6_lacks_0 : decode cX6_lacks 0 = .ok (.aload_n 0, 1) := by decide +kernel
theorem dX6_lacks_1 : decode cX6_lacks 1 = .ok (.getfield 85, 3) := by decide +kernel
theorem dX6_lacks_4 : decode cX6_lacks 4 = .ok (.iload_n 1, 1) := by decide +kernel
theorem dX6_lacks_5 : decode cX6_lacks 5 = .ok (.baload, 1) := by decide +kernel
theorem dX6_lacks_6 : decode cX6_lacks 6 = .ok (.ifCond .ne 7, 3) := by decide +kernel
theorem dX6_lacks_9 : decode cX6_lacks 9 = .ok (.iconst 1, 1) := by decide +kernel
theorem dX6_lacks_10 : decode cX6_lacks 10 = .ok (.goto 38, 3) := by decide +kernel
theorem dX6_lacks_13 : decode cX6_lacks 13 = .ok (.aload_n 0, 1) := by decide +kernel
theorem dX6_lacks_14 : decode cX6_lacks 14 = .ok (.getfield 89, 3) := by decide +kernel
theorem dX6_lacks_17 : decode cX6_lacks 17 = .ok (.iload_n 1, 1) := by decide +kernel
theorem dX6_lacks_18 : decode cX6_lacks 18 = .ok (.iaload, 1) := by decide +kernel
theorem dX6_lacks_19 : decode cX6_lacks 19 = .ok (.iload_n 2, 1) := by decide +kernel
theorem dX6_lacks_20 : decode cX6_lacks 20 = .ok (.if_icmp .eq 7, 3) := by decide +kernel
theorem dX6_lacks_23 : decode cX6_lacks 23 = .ok (.iconst 3, 1) := by decide +kernel
theorem dX6_lacks_24 : decode cX6_lacks 24 = .ok (.goto 24, 3) := by decide +kernel
theorem dX6_lacks_27 : decode cX6_lacks 27 = .ok (.iload_n 3, 1) := by decide +kernel
theorem dX6_lacks_28 : decode cX6_lacks 28 = .ok (.iconst 0, 1) := by decide +kernel
theorem dX6_lacks_29 : decode cX6_lacks 29 = .ok (.aload_n 0, 1) := by decide +kernel
theorem dX6_lacks_30 : decode cX6_lacks 30 = .ok (.getfield 92, 3) := by decide +kernel
theorem dX6_lacks_33 : decode cX6_lacks 33 = .ok (.iload_n 1, 1) := by decide +kernel
theorem dX6_lacks_34 : decode cX6_lacks 34 = .ok (.iaload, 1) := by decide +kernel
theorem dX6_lacks_35 : decode cX6_lacks 35 = .ok (.iconst 1, 1) := by decide +kernel
theorem dX6_lacks_36 : decode cX6_lacks 36 = .ok (.isub, 1) := by decide +kernel
theorem dX6_lacks_37 : decode cX6_lacks 37 = .ok (.invokestatic 103, 3) := by decide +kernel
theorem dX6_lacks_40 : decode cX6_lacks 40 = .ok (.ifCond .eq 7, 3) := by decide +kernel
theorem dX6_lacks_43 : decode cX6_lacks 43 = .ok (.iconst 0, 1) := by decide +kernel
theorem dX6_lacks_44 : decode cX6_lacks 44 = .ok (.goto 4, 3) := by decide +kernel
theorem dX6_lacks_47 : decode cX6_lacks 47 = .ok (.iconst 2, 1) := by decide +kernel
theorem dX6_lacks_48 : decode cX6_lacks 48 = .ok (.ireturn, 1) := by decide +kernel
theorem dX6_keep_0 : decode cX6_keep 0 = .ok (.aload_n 0, 1) := by decide +kernel
theorem dX6_keep_1 : decode cX6_keep 1 = .ok (.getfield 95, 3) := by decide +kernel
theorem dX6_keep_4 : decode cX6_keep 4 = .ok (.bipush 60, 2) := by decide +kernel
theorem dX6_keep_6 : decode cX6_keep 6 = .ok (.iload_n 1, 1) := by decide +kernel
theorem dX6_keep_7 : decode cX6_keep 7 = .ok (.imul, 1) := by decide +kernel
theorem dX6_keep_8 : decode cX6_keep 8 = .ok (.iload_n 2, 1) := by decide +kernel
theorem dX6_keep_9 : decode cX6_keep 9 = .ok (.iadd, 1) := by decide +kernel
theorem dX6_keep_10 : decode cX6_keep 10 = .ok (.aload_n 0, 1) := by decide +kernel
theorem dX6_keep_11 : decode cX6_keep 11 = .ok (.getfield 89, 3) := by decide +kernel
theorem dX6_keep_14 : decode cX6_keep 14 = .ok (.iload_n 1, 1) := by decide +kernel
theorem dX6_keep_15 : decode cX6_keep 15 = .ok (.iaload, 1) := by decide +kernel
theorem dX6_keep_16 : decode cX6_keep 16 = .ok (.ifCond .ne 8, 3) := by decide +kernel
theorem dX6_keep_19 : decode cX6_keep 19 = .ok (.iload_n 3, 1) := by decide +kernel
theorem dX6_keep_20 : decode cX6_keep 20 = .ok (.i2b, 1) := by decide +kernel
theorem dX6_keep_21 : decode cX6_keep 21 = .ok (.goto 19, 3) := by decide +kernel
theorem dX6_keep_24 : decode cX6_keep 24 = .ok (.aload_n 0, 1) := by decide +kernel
theorem dX6_keep_25 : decode cX6_keep 25 = .ok (.getfield 89, 3) := by decide +kernel
theorem dX6_keep_28 : decode cX6_keep 28 = .ok (.iload_n 1, 1) := by decide +kernel
theorem dX6_keep_29 : decode cX6_keep 29 = .ok (.iaload, 1) := by decide +kernel
theorem dX6_keep_30 : decode cX6_keep 30 = .ok (.iconst 1, 1) := by decide +kernel
theorem dX6_keep_31 : decode cX6_keep 31 = .ok (.if_icmp .ne 8, 3) := by decide +kernel
theorem dX6_keep_34 : decode cX6_keep 34 = .ok (.iload_n 3, 1) := by decide +kernel
theorem dX6_keep_35 : decode cX6_keep 35 = .ok (.i2s, 1) := by decide +kernel
theorem dX6_keep_36 : decode cX6_keep 36 = .ok (.goto 4, 3) := by decide +kernel
theorem dX6_keep_39 : decode cX6_keep 39 = .ok (.iload_n 3, 1) := by decide +kernel
theorem dX6_keep_40 : decode cX6_keep 40 = .ok (.iastore, 1) := by decide +kernel
theorem dX6_keep_41 : decode cX6_keep 41 = .ok (.return_, 1) := by decide +kernel
theorem dX6_put_0 : decode cX6_put 0 = .ok (.iload_n 1, 1) := by decide +kernel
theorem dX6_put_1 : decode cX6_put 1 = .ok (.invokestatic 160, 3) := by decide +kernel
theorem dX6_put_4 : decode cX6_put 4 = .ok (.ifCond .eq 12, 3) := by decide +kernel
theorem dX6_put_7 : decode cX6_put 7 = .ok (.iload_n 2, 1) := by decide +kernel
theorem dX6_put_8 : decode cX6_put 8 = .ok (.iconst 0, 1) := by decide +kernel
theorem dX6_put_9 : decode cX6_put 9 = .ok (.iconst 2, 1) := by decide +kernel
theorem dX6_put_10 : decode cX6_put 10 = .ok (.invokestatic 103, 3) := by decide +kernel
theorem dX6_put_13 : decode cX6_put 13 = .ok (.ifCond .ne 6, 3) := by decide +kernel
theorem dX6_put_16 : decode cX6_put 16 = .ok (.bipush (-2), 2) := by decide +kernel
theorem dX6_put_18 : decode cX6_put 18 = .ok (.ireturn, 1) := by decide +kernel
theorem dX6_put_19 : decode cX6_put 19 = .ok (.aload_n 0, 1) := by decide +kernel
theorem dX6_put_20 : decode cX6_put 20 = .ok (.iload_n 1, 1) := by decide +kernel
theorem dX6_put_21 : decode cX6_put 21 = .ok (.iload_n 2, 1) := by decide +kernel
theorem dX6_put_22 : decode cX6_put 22 = .ok (.iload_n 3, 1) := by decide +kernel
theorem dX6_put_23 : decode cX6_put 23 = .ok (.invokevirtual 291, 3) := by decide +kernel
theorem dX6_put_26 : decode cX6_put 26 = .ok (.istore 5, 2) := by decide +kernel
theorem dX6_put_28 : decode cX6_put 28 = .ok (.iload 5, 2) := by decide +kernel
theorem dX6_put_30 : decode cX6_put 30 = .ok (.ifCond .le 10, 3) := by decide +kernel
theorem dX6_put_33 : decode cX6_put 33 = .ok (.aload_n 0, 1) := by decide +kernel
theorem dX6_put_34 : decode cX6_put 34 = .ok (.iload 5, 2) := by decide +kernel
theorem dX6_put_36 : decode cX6_put 36 = .ok (.invokevirtual 163, 3) := by decide +kernel
theorem dX6_put_39 : decode cX6_put 39 = .ok (.ireturn, 1) := by decide +kernel
theorem dX6_put_40 : decode cX6_put 40 = .ok (.aload_n 0, 1) := by decide +kernel
theorem dX6_put_41 : decode cX6_put 41 = .ok (.iload_n 1, 1) := by decide +kernel
theorem dX6_put_42 : decode cX6_put 42 = .ok (.iload_n 3, 1) := by decide +kernel
theorem dX6_put_43 : decode cX6_put 43 = .ok (.iload 4, 2) := by decide +kernel
theorem dX6_put_45 : decode cX6_put 45 = .ok (.invokevirtual 294, 3) := by decide +kernel
theorem dX6_put_48 : decode cX6_put 48 = .ok (.iconst 1, 1) := by decide +kernel
theorem dX6_put_49 : decode cX6_put 49 = .ok (.ireturn, 1) := by decide +kernel
theorem dX6_get_0 : decode cX6_get 0 = .ok (.iload_n 1, 1) := by decide +kernel
theorem dX6_get_1 : decode cX6_get 1 = .ok (.invokestatic 160, 3) := by decide +kernel
theorem dX6_get_4 : decode cX6_get 4 = .ok (.ifCond .eq 12, 3) := by decide +kernel
theorem dX6_get_7 : decode cX6_get 7 = .ok (.iload_n 2, 1) := by decide +kernel
theorem dX6_get_8 : decode cX6_get 8 = .ok (.iconst 0, 1) := by decide +kernel
theorem dX6_get_9 : decode cX6_get 9 = .ok (.iconst 2, 1) := by decide +kernel
theorem dX6_get_10 : decode cX6_get 10 = .ok (.invokestatic 103, 3) := by decide +kernel
theorem dX6_get_13 : decode cX6_get 13 = .ok (.ifCond .ne 7, 3) := by decide +kernel
theorem dX6_get_16 : decode cX6_get 16 = .ok (.ldc_w 298, 3) := by decide +kernel
theorem dX6_get_19 : decode cX6_get 19 = .ok (.ireturn, 1) := by decide +kernel
theorem dX6_get_20 : decode cX6_get 20 = .ok (.aload_n 0, 1) := by decide +kernel
theorem dX6_get_21 : decode cX6_get 21 = .ok (.iload_n 1, 1) := by decide +kernel
theorem dX6_get_22 : decode cX6_get 22 = .ok (.iload_n 2, 1) := by decide +kernel
theorem dX6_get_23 : decode cX6_get 23 = .ok (.iload_n 3, 1) := by decide +kernel
theorem dX6_get_24 : decode cX6_get 24 = .ok (.invokevirtual 291, 3) := by decide +kernel
theorem dX6_get_27 : decode cX6_get 27 = .ok (.istore 4, 2) := by decide +kernel
theorem dX6_get_29 : decode cX6_get 29 = .ok (.iload 4, 2) := by decide +kernel
theorem dX6_get_31 : decode cX6_get 31 = .ok (.ifCond .le 13, 3) := by decide +kernel
theorem dX6_get_34 : decode cX6_get 34 = .ok (.aload_n 0, 1) := by decide +kernel
theorem dX6_get_35 : decode cX6_get 35 = .ok (.iload 4, 2) := by decide +kernel
theorem dX6_get_37 : decode cX6_get 37 = .ok (.putfield 288, 3) := by decide +kernel
theorem dX6_get_40 : decode cX6_get 40 = .ok (.ldc_w 298, 3) := by decide +kernel
theorem dX6_get_43 : decode cX6_get 43 = .ok (.ireturn, 1) := by decide +kernel
theorem dX6_get_44 : decode cX6_get 44 = .ok (.aload_n 0, 1) := by decide +kernel
theorem dX6_get_45 : decode cX6_get 45 = .ok (.getfield 95, 3) := by decide +kernel
theorem dX6_get_48 : decode cX6_get 48 = .ok (.bipush 60, 2) := by decide +kernel
theorem dX6_get_50 : decode cX6_get 50 = .ok (.iload_n 1, 1) := by decide +kernel
theorem dX6_get_51 : decode cX6_get 51 = .ok (.imul, 1) := by decide +kernel
theorem dX6_get_52 : decode cX6_get 52 = .ok (.iload_n 3, 1) := by decide +kernel
theorem dX6_get_53 : decode cX6_get 53 = .ok (.iadd, 1) := by decide +kernel
theorem dX6_get_54 : decode cX6_get 54 = .ok (.iaload, 1) := by decide +kernel
theorem dX6_get_55 : decode cX6_get 55 = .ok (.ireturn, 1) := by decide +kernel
theorem dX6_copy_0 : decode cX6_copy 0 = .ok (.iload_n 1, 1) := by decide +kernel
theorem dX6_copy_1 : decode cX6_copy 1 = .ok (.invokestatic 160, 3) := by decide +kernel
theorem dX6_copy_4 : decode cX6_copy 4 = .ok (.ifCond .eq 10, 3) := by decide +kernel
theorem dX6_copy_7 : decode cX6_copy 7 = .ok (.iload_n 3, 1) := by decide +kernel
theorem dX6_copy_8 : decode cX6_copy 8 = .ok (.invokestatic 160, 3) := by decide +kernel
theorem dX6_copy_11 : decode cX6_copy 11 = .ok (.ifCond .ne 6, 3) := by decide +kernel
theorem dX6_copy_14 : decode cX6_copy 14 = .ok (.bipush (-2), 2) := by decide +kernel
theorem dX6_copy_16 : decode cX6_copy 16 = .ok (.ireturn, 1) := by decide +kernel
theorem dX6_copy_17 : decode cX6_copy 17 = .ok (.aload_n 0, 1) := by decide +kernel
theorem dX6_copy_18 : decode cX6_copy 18 = .ok (.getfield 85, 3) := by decide +kernel
theorem dX6_copy_21 : decode cX6_copy 21 = .ok (.iload_n 1, 1) := by decide +kernel
theorem dX6_copy_22 : decode cX6_copy 22 = .ok (.baload, 1) := by decide +kernel
theorem dX6_copy_23 : decode cX6_copy 23 = .ok (.ifCond .eq 12, 3) := by decide +kernel
theorem dX6_copy_26 : decode cX6_copy 26 = .ok (.aload_n 0, 1) := by decide +kernel
theorem dX6_copy_27 : decode cX6_copy 27 = .ok (.getfield 85, 3) := by decide +kernel
theorem dX6_copy_30 : decode cX6_copy 30 = .ok (.iload_n 3, 1) := by decide +kernel
theorem dX6_copy_31 : decode cX6_copy 31 = .ok (.baload, 1) := by decide +kernel
theorem dX6_copy_32 : decode cX6_copy 32 = .ok (.ifCond .ne 9, 3) := by decide +kernel
theorem dX6_copy_35 : decode cX6_copy 35 = .ok (.aload_n 0, 1) := by decide +kernel
theorem dX6_copy_36 : decode cX6_copy 36 = .ok (.iconst 1, 1) := by decide +kernel
theorem dX6_copy_37 : decode cX6_copy 37 = .ok (.invokevirtual 163, 3) := by decide +kernel
theorem dX6_copy_40 : decode cX6_copy 40 = .ok (.ireturn, 1) := by decide +kernel
theorem dX6_copy_41 : decode cX6_copy 41 = .ok (.aload_n 0, 1) := by decide +kernel
theorem dX6_copy_42 : decode cX6_copy 42 = .ok (.getfield 89, 3) := by decide +kernel
theorem dX6_copy_45 : decode cX6_copy 45 = .ok (.iload_n 1, 1) := by decide +kernel
theorem dX6_copy_46 : decode cX6_copy 46 = .ok (.iaload, 1) := by decide +kernel
theorem dX6_copy_47 : decode cX6_copy 47 = .ok (.aload_n 0, 1) := by decide +kernel
theorem dX6_copy_48 : decode cX6_copy 48 = .ok (.getfield 89, 3) := by decide +kernel
theorem dX6_copy_51 : decode cX6_copy 51 = .ok (.iload_n 3, 1) := by decide +kernel
theorem dX6_copy_52 : decode cX6_copy 52 = .ok (.iaload, 1) := by decide +kernel
theorem dX6_copy_53 : decode cX6_copy 53 = .ok (.if_icmp .eq 9, 3) := by decide +kernel
theorem dX6_copy_56 : decode cX6_copy 56 = .ok (.aload_n 0, 1) := by decide +kernel
theorem dX6_copy_57 : decode cX6_copy 57 = .ok (.iconst 4, 1) := by decide +kernel
theorem dX6_copy_58 : decode cX6_copy 58 = .ok (.invokevirtual 163, 3) := by decide +kernel
theorem dX6_copy_61 : decode cX6_copy 61 = .ok (.ireturn, 1) := by decide +kernel
theorem dX6_copy_62 : decode cX6_copy 62 = .ok (.iload_n 2, 1) := by decide +kernel
theorem dX6_copy_63 : decode cX6_copy 63 = .ok (.ifCond .lt 48, 3) := by decide +kernel
theorem dX6_copy_66 : decode cX6_copy 66 = .ok (.iload 4, 2) := by decide +kernel
theorem dX6_copy_68 : decode cX6_copy 68 = .ok (.ifCond .lt 43, 3) := by decide +kernel
theorem dX6_copy_71 : decode cX6_copy 71 = .ok (.iload 5, 2) := by decide +kernel
theorem dX6_copy_73 : decode cX6_copy 73 = .ok (.ifCond .lt 38, 3) := by decide +kernel
theorem dX6_copy_76 : decode cX6_copy 76 = .ok (.iload_n 2, 1) := by decide +kernel
theorem dX6_copy_77 : decode cX6_copy 77 = .ok (.i2l, 1) := by decide +kernel
theorem dX6_copy_78 : decode cX6_copy 78 = .ok (.iload 5, 2) := by decide +kernel
theorem dX6_copy_80 : decode cX6_copy 80 = .ok (.i2l, 1) := by decide +kernel
theorem dX6_copy_81 : decode cX6_copy 81 = .ok (.ladd, 1) := by decide +kernel
theorem dX6_copy_82 : decode cX6_copy 82 = .ok (.aload_n 0, 1) := by decide +kernel
theorem dX6_copy_83 : decode cX6_copy 83 = .ok (.getfield 92, 3) := by decide +kernel
theorem dX6_copy_86 : decode cX6_copy 86 = .ok (.iload_n 1, 1) := by decide +kernel
theorem dX6_copy_87 : decode cX6_copy 87 = .ok (.iaload, 1) := by decide +kernel
theorem dX6_copy_88 : decode cX6_copy 88 = .ok (.i2l, 1) := by decide +kernel
theorem dX6_copy_89 : decode cX6_copy 89 = .ok (.lcmp, 1) := by decide +kernel
theorem dX6_copy_90 : decode cX6_copy 90 = .ok (.ifCond .gt 21, 3) := by decide +kernel
theorem dX6_copy_93 : decode cX6_copy 93 = .ok (.iload 4, 2) := by decide +kernel
theorem dX6_copy_95 : decode cX6_copy 95 = .ok (.i2l, 1) := by decide +kernel
theorem dX6_copy_96 : decode cX6_copy 96 = .ok (.iload 5, 2) := by decide +kernel
theorem dX6_copy_98 : decode cX6_copy 98 = .ok (.i2l, 1) := by decide +kernel
theorem dX6_copy_99 : decode cX6_copy 99 = .ok (.ladd, 1) := by decide +kernel
theorem dX6_copy_100 : decode cX6_copy 100 = .ok (.aload_n 0, 1) := by decide +kernel
theorem dX6_copy_101 : decode cX6_copy 101 = .ok (.getfield 92, 3) := by decide +kernel
theorem dX6_copy_104 : decode cX6_copy 104 = .ok (.iload_n 3, 1) := by decide +kernel
theorem dX6_copy_105 : decode cX6_copy 105 = .ok (.iaload, 1) := by decide +kernel
theorem dX6_copy_106 : decode cX6_copy 106 = .ok (.i2l, 1) := by decide +kernel
theorem dX6_copy_107 : decode cX6_copy 107 = .ok (.lcmp, 1) := by decide +kernel
theorem dX6_copy_108 : decode cX6_copy 108 = .ok (.ifCond .le 9, 3) := by decide +kernel
theorem dX6_copy_111 : decode cX6_copy 111 = .ok (.aload_n 0, 1) := by decide +kernel
theorem dX6_copy_112 : decode cX6_copy 112 = .ok (.iconst 2, 1) := by decide +kernel
theorem dX6_copy_113 : decode cX6_copy 113 = .ok (.invokevirtual 163, 3) := by decide +kernel
theorem dX6_copy_116 : decode cX6_copy 116 = .ok (.ireturn, 1) := by decide +kernel
theorem dX6_copy_117 : decode cX6_copy 117 = .ok (.iconst 0, 1) := by decide +kernel
theorem dX6_copy_118 : decode cX6_copy 118 = .ok (.istore 6, 2) := by decide +kernel
theorem dX6_copy_120 : decode cX6_copy 120 = .ok (.iload 6, 2) := by decide +kernel
theorem dX6_copy_122 : decode cX6_copy 122 = .ok (.iload 5, 2) := by decide +kernel
theorem dX6_copy_124 : decode cX6_copy 124 = .ok (.if_icmp .ge 30, 3) := by decide +kernel
theorem dX6_copy_127 : decode cX6_copy 127 = .ok (.aload_n 0, 1) := by decide +kernel
theorem dX6_copy_128 : decode cX6_copy 128 = .ok (.getfield 98, 3) := by decide +kernel
theorem dX6_copy_131 : decode cX6_copy 131 = .ok (.iload 6, 2) := by decide +kernel
theorem dX6_copy_133 : decode cX6_copy 133 = .ok (.aload_n 0, 1) := by decide +kernel
theorem dX6_copy_134 : decode cX6_copy 134 = .ok (.getfield 95, 3) := by decide +kernel
theorem dX6_copy_137 : decode cX6_copy 137 = .ok (.bipush 60, 2) := by decide +kernel
theorem dX6_copy_139 : decode cX6_copy 139 = .ok (.iload_n 1, 1) := by decide +kernel
theorem dX6_copy_140 : decode cX6_copy 140 = .ok (.imul, 1) := by decide +kernel
theorem dX6_copy_141 : decode cX6_copy 141 = .ok (.iload_n 2, 1) := by decide +kernel
theorem dX6_copy_142 : decode cX6_copy 142 = .ok (.iadd, 1) := by decide +kernel
theorem dX6_copy_143 : decode cX6_copy 143 = .ok (.iload 6, 2) := by decide +kernel
theorem dX6_copy_145 : decode cX6_copy 145 = .ok (.iadd, 1) := by decide +kernel
theorem dX6_copy_146 : decode cX6_copy 146 = .ok (.iaload, 1) := by decide +kernel
theorem dX6_copy_147 : decode cX6_copy 147 = .ok (.iastore, 1) := by decide +kernel
theorem dX6_copy_148 : decode cX6_copy 148 = .ok (.iinc 6 1, 3) := by decide +kernel
theorem dX6_copy_151 : decode cX6_copy 151 = .ok (.goto (-31), 3) := by decide +kernel
theorem dX6_copy_154 : decode cX6_copy 154 = .ok (.iconst 0, 1) := by decide +kernel
theorem dX6_copy_155 : decode cX6_copy 155 = .ok (.istore 6, 2) := by decide +kernel
theorem dX6_copy_157 : decode cX6_copy 157 = .ok (.iload 6, 2) := by decide +kernel
theorem dX6_copy_159 : decode cX6_copy 159 = .ok (.iload 5, 2) := by decide +kernel
theorem dX6_copy_161 : decode cX6_copy 161 = .ok (.if_icmp .ge 31, 3) := by decide +kernel
theorem dX6_copy_164 : decode cX6_copy 164 = .ok (.aload_n 0, 1) := by decide +kernel
theorem dX6_copy_165 : decode cX6_copy 165 = .ok (.getfield 95, 3) := by decide +kernel
theorem dX6_copy_168 : decode cX6_copy 168 = .ok (.bipush 60, 2) := by decide +kernel
theorem dX6_copy_170 : decode cX6_copy 170 = .ok (.iload_n 3, 1) := by decide +kernel
theorem dX6_copy_171 : decode cX6_copy 171 = .ok (.imul, 1) := by decide +kernel
theorem dX6_copy_172 : decode cX6_copy 172 = .ok (.iload 4, 2) := by decide +kernel
theorem dX6_copy_174 : decode cX6_copy 174 = .ok (.iadd, 1) := by decide +kernel
theorem dX6_copy_175 : decode cX6_copy 175 = .ok (.iload 6, 2) := by decide +kernel
theorem dX6_copy_177 : decode cX6_copy 177 = .ok (.iadd, 1) := by decide +kernel
theorem dX6_copy_178 : decode cX6_copy 178 = .ok (.aload_n 0, 1) := by decide +kernel
theorem dX6_copy_179 : decode cX6_copy 179 = .ok (.getfield 98, 3) := by decide +kernel
theorem dX6_copy_182 : decode cX6_copy 182 = .ok (.iload 6, 2) := by decide +kernel
theorem dX6_copy_184 : decode cX6_copy 184 = .ok (.iaload, 1) := by decide +kernel
theorem dX6_copy_185 : decode cX6_copy 185 = .ok (.iastore, 1) := by decide +kernel
theorem dX6_copy_186 : decode cX6_copy 186 = .ok (.iinc 6 1, 3) := by decide +kernel
theorem dX6_copy_189 : decode cX6_copy 189 = .ok (.goto (-32), 3) := by decide +kernel
theorem dX6_copy_192 : decode cX6_copy 192 = .ok (.iconst 1, 1) := by decide +kernel
theorem dX6_copy_193 : decode cX6_copy 193 = .ok (.ireturn, 1) := by decide +kernel
theorem dX6_write_0 : decode cX6_write 0 = .ok (.aload_n 0, 1) := by decide +kernel
theorem dX6_write_1 : decode cX6_write 1 = .ok (.iload_n 1, 1) := by decide +kernel
theorem dX6_write_2 : decode cX6_write 2 = .ok (.invokevirtual 142, 3) := by decide +kernel
theorem dX6_write_5 : decode cX6_write 5 = .ok (.ifCond .eq 10, 3) := by decide +kernel
theorem dX6_write_8 : decode cX6_write 8 = .ok (.iload_n 2, 1) := by decide +kernel
theorem dX6_write_9 : decode cX6_write 9 = .ok (.invokestatic 160, 3) := by decide +kernel
theorem dX6_write_12 : decode cX6_write 12 = .ok (.ifCond .ne 6, 3) := by decide +kernel
theorem dX6_write_15 : decode cX6_write 15 = .ok (.bipush (-2), 2) := by decide +kernel
theorem dX6_write_17 : decode cX6_write 17 = .ok (.ireturn, 1) := by decide +kernel
theorem dX6_write_18 : decode cX6_write 18 = .ok (.aload_n 0, 1) := by decide +kernel
theorem dX6_write_19 : decode cX6_write 19 = .ok (.getfield 85, 3) := by decide +kernel
theorem dX6_write_22 : decode cX6_write 22 = .ok (.iload_n 2, 1) := by decide +kernel
theorem dX6_write_23 : decode cX6_write 23 = .ok (.baload, 1) := by decide +kernel
theorem dX6_write_24 : decode cX6_write 24 = .ok (.ifCond .ne 9, 3) := by decide +kernel
theorem dX6_write_27 : decode cX6_write 27 = .ok (.aload_n 0, 1) := by decide +kernel
theorem dX6_write_28 : decode cX6_write 28 = .ok (.iconst 1, 1) := by decide +kernel
theorem dX6_write_29 : decode cX6_write 29 = .ok (.invokevirtual 163, 3) := by decide +kernel
theorem dX6_write_32 : decode cX6_write 32 = .ok (.ireturn, 1) := by decide +kernel
theorem dX6_write_33 : decode cX6_write 33 = .ok (.aload_n 0, 1) := by decide +kernel
theorem dX6_write_34 : decode cX6_write 34 = .ok (.invokevirtual 213, 3) := by decide +kernel
theorem dX6_write_37 : decode cX6_write 37 = .ok (.iconst 0, 1) := by decide +kernel
theorem dX6_write_38 : decode cX6_write 38 = .ok (.istore_n 3, 1) := by decide +kernel
theorem dX6_write_39 : decode cX6_write 39 = .ok (.iload_n 3, 1) := by decide +kernel
theorem dX6_write_40 : decode cX6_write 40 = .ok (.aload_n 0, 1) := by decide +kernel
theorem dX6_write_41 : decode cX6_write 41 = .ok (.getfield 92, 3) := by decide +kernel
theorem dX6_write_44 : decode cX6_write 44 = .ok (.iload_n 2, 1) := by decide +kernel
theorem dX6_write_45 : decode cX6_write 45 = .ok (.iaload, 1) := by decide +kernel
theorem dX6_write_46 : decode cX6_write 46 = .ok (.if_icmp .ge 32, 3) := by decide +kernel
theorem dX6_write_49 : decode cX6_write 49 = .ok (.iload_n 3, 1) := by decide +kernel
theorem dX6_write_50 : decode cX6_write 50 = .ok (.bipush 40, 2) := by decide +kernel
theorem dX6_write_52 : decode cX6_write 52 = .ok (.if_icmp .ge 26, 3) := by decide +kernel
theorem dX6_write_55 : decode cX6_write 55 = .ok (.aload_n 0, 1) := by decide +kernel
theorem dX6_write_56 : decode cX6_write 56 = .ok (.iload_n 2, 1) := by decide +kernel
theorem dX6_write_57 : decode cX6_write 57 = .ok (.iload_n 3, 1) := by decide +kernel
theorem dX6_write_58 : decode cX6_write 58 = .ok (.aload_n 0, 1) := by decide +kernel
theorem dX6_write_59 : decode cX6_write 59 = .ok (.getfield 70, 3) := by decide +kernel
theorem dX6_write_62 : decode cX6_write 62 = .ok (.bipush 8, 2) := by decide +kernel
theorem dX6_write_64 : decode cX6_write 64 = .ok (.iload_n 3, 1) := by decide +kernel
theorem dX6_write_65 : decode cX6_write 65 = .ok (.imul, 1) := by decide +kernel
theorem dX6_write_66 : decode cX6_write 66 = .ok (.iload_n 1, 1) := by decide +kernel
theorem dX6_write_67 : decode cX6_write 67 = .ok (.iadd, 1) := by decide +kernel
theorem dX6_write_68 : decode cX6_write 68 = .ok (.iaload, 1) := by decide +kernel
theorem dX6_write_69 : decode cX6_write 69 = .ok (.invokevirtual 294, 3) := by decide +kernel
theorem dX6_write_72 : decode cX6_write 72 = .ok (.iinc 3 1, 3) := by decide +kernel
theorem dX6_write_75 : decode cX6_write 75 = .ok (.goto (-36), 3) := by decide +kernel
theorem dX6_write_78 : decode cX6_write 78 = .ok (.iload_n 3, 1) := by decide +kernel
theorem dX6_write_79 : decode cX6_write 79 = .ok (.ireturn, 1) := by decide +kernel
theorem dX6_sumOf_0 : decode cX6_sumOf 0 = .ok (.aload_n 0, 1) := by decide +kernel
theorem dX6_sumOf_1 : decode cX6_sumOf 1 = .ok (.invokevirtual 213, 3) := by decide +kernel
theorem dX6_sumOf_4 : decode cX6_sumOf 4 = .ok (.iload_n 1, 1) := by decide +kernel
theorem dX6_sumOf_5 : decode cX6_sumOf 5 = .ok (.ifCond .ne 10, 3) := by decide +kernel
theorem dX6_sumOf_8 : decode cX6_sumOf 8 = .ok (.aload_n 0, 1) := by decide +kernel
theorem dX6_sumOf_9 : decode cX6_sumOf 9 = .ok (.getfield 118, 3) := by decide +kernel
theorem dX6_sumOf_12 : decode cX6_sumOf 12 = .ok (.goto 19, 3) := by decide +kernel
theorem dX6_sumOf_15 : decode cX6_sumOf 15 = .ok (.iload_n 1, 1) := by decide +kernel
theorem dX6_sumOf_16 : decode cX6_sumOf 16 = .ok (.iconst 1, 1) := by decide +kernel
theorem dX6_sumOf_17 : decode cX6_sumOf 17 = .ok (.if_icmp .ne 10, 3) := by decide +kernel
theorem dX6_sumOf_20 : decode cX6_sumOf 20 = .ok (.aload_n 0, 1) := by decide +kernel
theorem dX6_sumOf_21 : decode cX6_sumOf 21 = .ok (.getfield 126, 3) := by decide +kernel
theorem dX6_sumOf_24 : decode cX6_sumOf 24 = .ok (.goto 7, 3) := by decide +kernel
theorem dX6_sumOf_27 : decode cX6_sumOf 27 = .ok (.aload_n 0, 1) := by decide +kernel
theorem dX6_sumOf_28 : decode cX6_sumOf 28 = .ok (.invokevirtual 238, 3) := by decide +kernel
theorem dX6_sumOf_31 : decode cX6_sumOf 31 = .ok (.ireturn, 1) := by decide +kernel
theorem dX6_count_0 : decode cX6_count 0 = .ok (.iload_n 1, 1) := by decide +kernel
theorem dX6_count_1 : decode cX6_count 1 = .ok (.tableswitch 86 0 8 #[51, 51, 57, 57, 66, 71, 51, 76, 81], 51) := by decide +kernel
theorem dX6_count_52 : decode cX6_count 52 = .ok (.aload_n 0, 1) := by decide +kernel
theorem dX6_count_53 : decode cX6_count 53 = .ok (.iload_n 1, 1) := by decide +kernel
theorem dX6_count_54 : decode cX6_count 54 = .ok (.invokevirtual 299, 3) := by decide +kernel
theorem dX6_count_57 : decode cX6_count 57 = .ok (.ireturn, 1) := by decide +kernel
theorem dX6_count_58 : decode cX6_count 58 = .ok (.aload_n 0, 1) := by decide +kernel
theorem dX6_count_59 : decode cX6_count 59 = .ok (.getfield 7, 3) := by decide +kernel
theorem dX6_count_62 : decode cX6_count 62 = .ok (.iload_n 1, 1) := by decide +kernel
theorem dX6_count_63 : decode cX6_count 63 = .ok (.iconst 2, 1) := by decide +kernel
theorem dX6_count_64 : decode cX6_count 64 = .ok (.isub, 1) := by decide +kernel
theorem dX6_count_65 : decode cX6_count 65 = .ok (.iaload, 1) := by decide +kernel
theorem dX6_count_66 : decode cX6_count 66 = .ok (.ireturn, 1) := by decide +kernel
theorem dX6_count_67 : decode cX6_count 67 = .ok (.aload_n 0, 1) := by decide +kernel
theorem dX6_count_68 : decode cX6_count 68 = .ok (.getfield 154, 3) := by decide +kernel
theorem dX6_count_71 : decode cX6_count 71 = .ok (.ireturn, 1) := by decide +kernel
theorem dX6_count_72 : decode cX6_count 72 = .ok (.aload_n 0, 1) := by decide +kernel
theorem dX6_count_73 : decode cX6_count 73 = .ok (.getfield 157, 3) := by decide +kernel
theorem dX6_count_76 : decode cX6_count 76 = .ok (.ireturn, 1) := by decide +kernel
theorem dX6_count_77 : decode cX6_count 77 = .ok (.aload_n 0, 1) := by decide +kernel
theorem dX6_count_78 : decode cX6_count 78 = .ok (.getfield 253, 3) := by decide +kernel
theorem dX6_count_81 : decode cX6_count 81 = .ok (.ireturn, 1) := by decide +kernel
theorem dX6_count_82 : decode cX6_count 82 = .ok (.aload_n 0, 1) := by decide +kernel
theorem dX6_count_83 : decode cX6_count 83 = .ok (.getfield 288, 3) := by decide +kernel
theorem dX6_count_86 : decode cX6_count 86 = .ok (.ireturn, 1) := by decide +kernel
theorem dX6_count_87 : decode cX6_count 87 = .ok (.bipush (-2), 2) := by decide +kernel
theorem dX6_count_89 : decode cX6_count 89 = .ok (.ireturn, 1) := by decide +kernel
theorem dX6_hourDigest_0 : decode cX6_hourDigest 0 = .ok (.lload_n 1, 1) := by decide +kernel
theorem dX6_hourDigest_1 : decode cX6_hourDigest 1 = .ok (.lstore 5, 2) := by decide +kernel
theorem dX6_hourDigest_3 : decode cX6_hourDigest 3 = .ok (.iconst 0, 1) := by decide +kernel
theorem dX6_hourDigest_4 : decode cX6_hourDigest 4 = .ok (.istore 7, 2) := by decide +kernel
theorem dX6_hourDigest_6 : decode cX6_hourDigest 6 = .ok (.iload 7, 2) := by decide +kernel
theorem dX6_hourDigest_8 : decode cX6_hourDigest 8 = .ok (.iconst 3, 1) := by decide +kernel
theorem dX6_hourDigest_9 : decode cX6_hourDigest 9 = .ok (.if_icmp .ge 28, 3) := by decide +kernel
theorem dX6_hourDigest_12 : decode cX6_hourDigest 12 = .ok (.ldc2_w 302, 3) := by decide +kernel
theorem dX6_hourDigest_15 : decode cX6_hourDigest 15 = .ok (.lload 5, 2) := by decide +kernel
theorem dX6_hourDigest_17 : decode cX6_hourDigest 17 = .ok (.lmul, 1) := by decide +kernel
theorem dX6_hourDigest_18 : decode cX6_hourDigest 18 = .ok (.aload_n 0, 1) := by decide +kernel
theorem dX6_hourDigest_19 : decode cX6_hourDigest 19 = .ok (.iload_n 3, 1) := by decide +kernel
theorem dX6_hourDigest_20 : decode cX6_hourDigest 20 = .ok (.iload 4, 2) := by decide +kernel
theorem dX6_hourDigest_22 : decode cX6_hourDigest 22 = .ok (.iload 7, 2) := by decide +kernel
theorem dX6_hourDigest_24 : decode cX6_hourDigest 24 = .ok (.invokevirtual 219, 3) := by decide +kernel
theorem dX6_hourDigest_27 : decode cX6_hourDigest 27 = .ok (.i2l, 1) := by decide +kernel
theorem dX6_hourDigest_28 : decode cX6_hourDigest 28 = .ok (.ladd, 1) := by decide +kernel
theorem dX6_hourDigest_29 : decode cX6_hourDigest 29 = .ok (.lstore 5, 2) := by decide +kernel
theorem dX6_hourDigest_31 : decode cX6_hourDigest 31 = .ok (.iinc 7 1, 3) := by decide +kernel
theorem dX6_hourDigest_34 : decode cX6_hourDigest 34 = .ok (.goto (-28), 3) := by decide +kernel
theorem dX6_hourDigest_37 : decode cX6_hourDigest 37 = .ok (.lload 5, 2) := by decide +kernel
theorem dX6_hourDigest_39 : decode cX6_hourDigest 39 = .ok (.lreturn, 1) := by decide +kernel
theorem dX6_houseDigest_0 : decode cX6_houseDigest 0 = .ok (.lload_n 1, 1) := by decide +kernel
theorem dX6_houseDigest_1 : decode cX6_houseDigest 1 = .ok (.lstore 4, 2) := by decide +kernel
theorem dX6_houseDigest_3 : decode cX6_houseDigest 3 = .ok (.iconst 0, 1) := by decide +kernel
theorem dX6_houseDigest_4 : decode cX6_houseDigest 4 = .ok (.istore 6, 2) := by decide +kernel
theorem dX6_houseDigest_6 : decode cX6_houseDigest 6 = .ok (.iload 6, 2) := by decide +kernel
theorem dX6_houseDigest_8 : decode cX6_houseDigest 8 = .ok (.bipush 7, 2) := by decide +kernel
theorem dX6_houseDigest_10 : decode cX6_houseDigest 10 = .ok (.if_icmp .ge 26, 3) := by decide +kernel
theorem dX6_houseDigest_13 : decode cX6_houseDigest 13 = .ok (.ldc2_w 302, 3) := by decide +kernel
theorem dX6_houseDigest_16 : decode cX6_houseDigest 16 = .ok (.lload 4, 2) := by decide +kernel
theorem dX6_houseDigest_18 : decode cX6_houseDigest 18 = .ok (.lmul, 1) := by decide +kernel
theorem dX6_houseDigest_19 : decode cX6_houseDigest 19 = .ok (.aload_n 0, 1) := by decide +kernel
theorem dX6_houseDigest_20 : decode cX6_houseDigest 20 = .ok (.iload_n 3, 1) := by decide +kernel
theorem dX6_houseDigest_21 : decode cX6_houseDigest 21 = .ok (.iload 6, 2) := by decide +kernel
theorem dX6_houseDigest_23 : decode cX6_houseDigest 23 = .ok (.invokevirtual 145, 3) := by decide +kernel
theorem dX6_houseDigest_26 : decode cX6_houseDigest 26 = .ok (.i2l, 1) := by decide +kernel
theorem dX6_houseDigest_27 : decode cX6_houseDigest 27 = .ok (.ladd, 1) := by decide +kernel
theorem dX6_houseDigest_28 : decode cX6_houseDigest 28 = .ok (.lstore 4, 2) := by decide +kernel
theorem dX6_houseDigest_30 : decode cX6_houseDigest 30 = .ok (.iinc 6 1, 3) := by decide +kernel
theorem dX6_houseDigest_33 : decode cX6_houseDigest 33 = .ok (.goto (-27), 3) := by decide +kernel
theorem dX6_houseDigest_36 : decode cX6_houseDigest 36 = .ok (.aload_n 0, 1) := by decide +kernel
theorem dX6_houseDigest_37 : decode cX6_houseDigest 37 = .ok (.lload 4, 2) := by decide +kernel
theorem dX6_houseDigest_39 : decode cX6_houseDigest 39 = .ok (.iconst 0, 1) := by decide +kernel
theorem dX6_houseDigest_40 : decode cX6_houseDigest 40 = .ok (.iload_n 3, 1) := by decide +kernel
theorem dX6_houseDigest_41 : decode cX6_houseDigest 41 = .ok (.invokevirtual 304, 3) := by decide +kernel
theorem dX6_houseDigest_44 : decode cX6_houseDigest 44 = .ok (.lstore 4, 2) := by decide +kernel
theorem dX6_houseDigest_46 : decode cX6_houseDigest 46 = .ok (.aload_n 0, 1) := by decide +kernel
theorem dX6_houseDigest_47 : decode cX6_houseDigest 47 = .ok (.lload 4, 2) := by decide +kernel
theorem dX6_houseDigest_49 : decode cX6_houseDigest 49 = .ok (.bipush 7, 2) := by decide +kernel
theorem dX6_houseDigest_51 : decode cX6_houseDigest 51 = .ok (.iload_n 3, 1) := by decide +kernel
theorem dX6_houseDigest_52 : decode cX6_houseDigest 52 = .ok (.invokevirtual 304, 3) := by decide +kernel
theorem dX6_houseDigest_55 : decode cX6_houseDigest 55 = .ok (.lstore 4, 2) := by decide +kernel
theorem dX6_houseDigest_57 : decode cX6_houseDigest 57 = .ok (.aload_n 0, 1) := by decide +kernel
theorem dX6_houseDigest_58 : decode cX6_houseDigest 58 = .ok (.lload 4, 2) := by decide +kernel
theorem dX6_houseDigest_60 : decode cX6_houseDigest 60 = .ok (.bipush 20, 2) := by decide +kernel
theorem dX6_houseDigest_62 : decode cX6_houseDigest 62 = .ok (.iload_n 3, 1) := by decide +kernel
theorem dX6_houseDigest_63 : decode cX6_houseDigest 63 = .ok (.invokevirtual 304, 3) := by decide +kernel
theorem dX6_houseDigest_66 : decode cX6_houseDigest 66 = .ok (.lstore 4, 2) := by decide +kernel
theorem dX6_houseDigest_68 : decode cX6_houseDigest 68 = .ok (.aload_n 0, 1) := by decide +kernel
theorem dX6_houseDigest_69 : decode cX6_houseDigest 69 = .ok (.lload 4, 2) := by decide +kernel
theorem dX6_houseDigest_71 : decode cX6_houseDigest 71 = .ok (.bipush 39, 2) := by decide +kernel
theorem dX6_houseDigest_73 : decode cX6_houseDigest 73 = .ok (.iload_n 3, 1) := by decide +kernel
theorem dX6_houseDigest_74 : decode cX6_houseDigest 74 = .ok (.invokevirtual 304, 3) := by decide +kernel
theorem dX6_houseDigest_77 : decode cX6_houseDigest 77 = .ok (.lstore 4, 2) := by decide +kernel
theorem dX6_houseDigest_79 : decode cX6_houseDigest 79 = .ok (.ldc2_w 302, 3) := by decide +kernel
theorem dX6_houseDigest_82 : decode cX6_houseDigest 82 = .ok (.lload 4, 2) := by decide +kernel
theorem dX6_houseDigest_84 : decode cX6_houseDigest 84 = .ok (.lmul, 1) := by decide +kernel
theorem dX6_houseDigest_85 : decode cX6_houseDigest 85 = .ok (.aload_n 0, 1) := by decide +kernel
theorem dX6_houseDigest_86 : decode cX6_houseDigest 86 = .ok (.iload_n 3, 1) := by decide +kernel
theorem dX6_houseDigest_87 : decode cX6_houseDigest 87 = .ok (.iconst 0, 1) := by decide +kernel
theorem dX6_houseDigest_88 : decode cX6_houseDigest 88 = .ok (.invokevirtual 226, 3) := by decide +kernel
theorem dX6_houseDigest_91 : decode cX6_houseDigest 91 = .ok (.i2l, 1) := by decide +kernel
theorem dX6_houseDigest_92 : decode cX6_houseDigest 92 = .ok (.ladd, 1) := by decide +kernel
theorem dX6_houseDigest_93 : decode cX6_houseDigest 93 = .ok (.lstore 4, 2) := by decide +kernel
theorem dX6_houseDigest_95 : decode cX6_houseDigest 95 = .ok (.ldc2_w 302, 3) := by decide +kernel
theorem dX6_houseDigest_98 : decode cX6_houseDigest 98 = .ok (.lload 4, 2) := by decide +kernel
theorem dX6_houseDigest_100 : decode cX6_houseDigest 100 = .ok (.lmul, 1) := by decide +kernel
theorem dX6_houseDigest_101 : decode cX6_houseDigest 101 = .ok (.aload_n 0, 1) := by decide +kernel
theorem dX6_houseDigest_102 : decode cX6_houseDigest 102 = .ok (.iload_n 3, 1) := by decide +kernel
theorem dX6_houseDigest_103 : decode cX6_houseDigest 103 = .ok (.iconst 1, 1) := by decide +kernel
theorem dX6_houseDigest_104 : decode cX6_houseDigest 104 = .ok (.invokevirtual 226, 3) := by decide +kernel
theorem dX6_houseDigest_107 : decode cX6_houseDigest 107 = .ok (.i2l, 1) := by decide +kernel
theorem dX6_houseDigest_108 : decode cX6_houseDigest 108 = .ok (.ladd, 1) := by decide +kernel
theorem dX6_houseDigest_109 : decode cX6_houseDigest 109 = .ok (.lstore 4, 2) := by decide +kernel
theorem dX6_houseDigest_111 : decode cX6_houseDigest 111 = .ok (.ldc2_w 302, 3) := by decide +kernel
theorem dX6_houseDigest_114 : decode cX6_houseDigest 114 = .ok (.lload 4, 2) := by decide +kernel
theorem dX6_houseDigest_116 : decode cX6_houseDigest 116 = .ok (.lmul, 1) := by decide +kernel
theorem dX6_houseDigest_117 : decode cX6_houseDigest 117 = .ok (.aload_n 0, 1) := by decide +kernel
theorem dX6_houseDigest_118 : decode cX6_houseDigest 118 = .ok (.iload_n 3, 1) := by decide +kernel
theorem dX6_houseDigest_119 : decode cX6_houseDigest 119 = .ok (.iconst 0, 1) := by decide +kernel
theorem dX6_houseDigest_120 : decode cX6_houseDigest 120 = .ok (.invokevirtual 244, 3) := by decide +kernel
theorem dX6_houseDigest_123 : decode cX6_houseDigest 123 = .ok (.i2l, 1) := by decide +kernel
theorem dX6_houseDigest_124 : decode cX6_houseDigest 124 = .ok (.ladd, 1) := by decide +kernel
theorem dX6_houseDigest_125 : decode cX6_houseDigest 125 = .ok (.lstore 4, 2) := by decide +kernel
theorem dX6_houseDigest_127 : decode cX6_houseDigest 127 = .ok (.ldc2_w 302, 3) := by decide +kernel
theorem dX6_houseDigest_130 : decode cX6_houseDigest 130 = .ok (.lload 4, 2) := by decide +kernel
theorem dX6_houseDigest_132 : decode cX6_houseDigest 132 = .ok (.lmul, 1) := by decide +kernel
theorem dX6_houseDigest_133 : decode cX6_houseDigest 133 = .ok (.aload_n 0, 1) := by decide +kernel
theorem dX6_houseDigest_134 : decode cX6_houseDigest 134 = .ok (.iload_n 3, 1) := by decide +kernel
theorem dX6_houseDigest_135 : decode cX6_houseDigest 135 = .ok (.iconst 1, 1) := by decide +kernel
theorem dX6_houseDigest_136 : decode cX6_houseDigest 136 = .ok (.invokevirtual 244, 3) := by decide +kernel
theorem dX6_houseDigest_139 : decode cX6_houseDigest 139 = .ok (.i2l, 1) := by decide +kernel
theorem dX6_houseDigest_140 : decode cX6_houseDigest 140 = .ok (.ladd, 1) := by decide +kernel
theorem dX6_houseDigest_141 : decode cX6_houseDigest 141 = .ok (.lstore 4, 2) := by decide +kernel
theorem dX6_houseDigest_143 : decode cX6_houseDigest 143 = .ok (.ldc2_w 302, 3) := by decide +kernel
theorem dX6_houseDigest_146 : decode cX6_houseDigest 146 = .ok (.lload 4, 2) := by decide +kernel
theorem dX6_houseDigest_148 : decode cX6_houseDigest 148 = .ok (.lmul, 1) := by decide +kernel
theorem dX6_houseDigest_149 : decode cX6_houseDigest 149 = .ok (.aload_n 0, 1) := by decide +kernel
theorem dX6_houseDigest_150 : decode cX6_houseDigest 150 = .ok (.iload_n 3, 1) := by decide +kernel
theorem dX6_houseDigest_151 : decode cX6_houseDigest 151 = .ok (.invokevirtual 263, 3) := by decide +kernel
theorem dX6_houseDigest_154 : decode cX6_houseDigest 154 = .ok (.i2l, 1) := by decide +kernel
theorem dX6_houseDigest_155 : decode cX6_houseDigest 155 = .ok (.ladd, 1) := by decide +kernel
theorem dX6_houseDigest_156 : decode cX6_houseDigest 156 = .ok (.lstore 4, 2) := by decide +kernel
theorem dX6_houseDigest_158 : decode cX6_houseDigest 158 = .ok (.ldc2_w 302, 3) := by decide +kernel
theorem dX6_houseDigest_161 : decode cX6_houseDigest 161 = .ok (.lload 4, 2) := by decide +kernel
theorem dX6_houseDigest_163 : decode cX6_houseDigest 163 = .ok (.lmul, 1) := by decide +kernel
theorem dX6_houseDigest_164 : decode cX6_houseDigest 164 = .ok (.aload_n 0, 1) := by decide +kernel
theorem dX6_houseDigest_165 : decode cX6_houseDigest 165 = .ok (.iload_n 3, 1) := by decide +kernel
theorem dX6_houseDigest_166 : decode cX6_houseDigest 166 = .ok (.invokevirtual 269, 3) := by decide +kernel
theorem dX6_houseDigest_169 : decode cX6_houseDigest 169 = .ok (.i2l, 1) := by decide +kernel
theorem dX6_houseDigest_170 : decode cX6_houseDigest 170 = .ok (.ladd, 1) := by decide +kernel
theorem dX6_houseDigest_171 : decode cX6_houseDigest 171 = .ok (.lstore 4, 2) := by decide +kernel
theorem dX6_houseDigest_173 : decode cX6_houseDigest 173 = .ok (.ldc2_w 302, 3) := by decide +kernel
theorem dX6_houseDigest_176 : decode cX6_houseDigest 176 = .ok (.lload 4, 2) := by decide +kernel
theorem dX6_houseDigest_178 : decode cX6_houseDigest 178 = .ok (.lmul, 1) := by decide +kernel
theorem dX6_houseDigest_179 : decode cX6_houseDigest 179 = .ok (.aload_n 0, 1) := by decide +kernel
theorem dX6_houseDigest_180 : decode cX6_houseDigest 180 = .ok (.iconst 5, 1) := by decide +kernel
theorem dX6_houseDigest_181 : decode cX6_houseDigest 181 = .ok (.iload_n 3, 1) := by decide +kernel
theorem dX6_houseDigest_182 : decode cX6_houseDigest 182 = .ok (.iconst 0, 1) := by decide +kernel
theorem dX6_houseDigest_183 : decode cX6_houseDigest 183 = .ok (.invokevirtual 276, 3) := by decide +kernel
theorem dX6_houseDigest_186 : decode cX6_houseDigest 186 = .ok (.ladd, 1) := by decide +kernel
theorem dX6_houseDigest_187 : decode cX6_houseDigest 187 = .ok (.lstore 4, 2) := by decide +kernel
theorem dX6_houseDigest_189 : decode cX6_houseDigest 189 = .ok (.ldc2_w 302, 3) := by decide +kernel
theorem dX6_houseDigest_192 : decode cX6_houseDigest 192 = .ok (.lload 4, 2) := by decide +kernel
theorem dX6_houseDigest_194 : decode cX6_houseDigest 194 = .ok (.lmul, 1) := by decide +kernel
theorem dX6_houseDigest_195 : decode cX6_houseDigest 195 = .ok (.aload_n 0, 1) := by decide +kernel
theorem dX6_houseDigest_196 : decode cX6_houseDigest 196 = .ok (.iconst 5, 1) := by decide +kernel
theorem dX6_houseDigest_197 : decode cX6_houseDigest 197 = .ok (.iload_n 3, 1) := by decide +kernel
theorem dX6_houseDigest_198 : decode cX6_houseDigest 198 = .ok (.iconst 1, 1) := by decide +kernel
theorem dX6_houseDigest_199 : decode cX6_houseDigest 199 = .ok (.invokevirtual 276, 3) := by decide +kernel
theorem dX6_houseDigest_202 : decode cX6_houseDigest 202 = .ok (.ladd, 1) := by decide +kernel
theorem dX6_houseDigest_203 : decode cX6_houseDigest 203 = .ok (.lreturn, 1) := by decide +kernel
theorem dX6_digest_0 : decode cX6_digest 0 = .ok (.ldc2_w 308, 3) := by decide +kernel
theorem dX6_digest_3 : decode cX6_digest 3 = .ok (.lstore_n 1, 1) := by decide +kernel
theorem dX6_digest_4 : decode cX6_digest 4 = .ok (.iconst 0, 1) := by decide +kernel
theorem dX6_digest_5 : decode cX6_digest 5 = .ok (.istore_n 3, 1) := by decide +kernel
theorem dX6_digest_6 : decode cX6_digest 6 = .ok (.iload_n 3, 1) := by decide +kernel
theorem dX6_digest_7 : decode cX6_digest 7 = .ok (.bipush 8, 2) := by decide +kernel
theorem dX6_digest_9 : decode cX6_digest 9 = .ok (.if_icmp .ge 22, 3) := by decide +kernel
theorem dX6_digest_12 : decode cX6_digest 12 = .ok (.ldc2_w 302, 3) := by decide +kernel
theorem dX6_digest_15 : decode cX6_digest 15 = .ok (.lload_n 1, 1) := by decide +kernel
theorem dX6_digest_16 : decode cX6_digest 16 = .ok (.lmul, 1) := by decide +kernel
theorem dX6_digest_17 : decode cX6_digest 17 = .ok (.aload_n 0, 1) := by decide +kernel
theorem dX6_digest_18 : decode cX6_digest 18 = .ok (.iload_n 3, 1) := by decide +kernel
theorem dX6_digest_19 : decode cX6_digest 19 = .ok (.invokevirtual 310, 3) := by decide +kernel
theorem dX6_digest_22 : decode cX6_digest 22 = .ok (.i2l, 1) := by decide +kernel
theorem dX6_digest_23 : decode cX6_digest 23 = .ok (.ladd, 1) := by decide +kernel
theorem dX6_digest_24 : decode cX6_digest 24 = .ok (.lstore_n 1, 1) := by decide +kernel
theorem dX6_digest_25 : decode cX6_digest 25 = .ok (.iinc 3 1, 3) := by decide +kernel
theorem dX6_digest_28 : decode cX6_digest 28 = .ok (.goto (-22), 3) := by decide +kernel
theorem dX6_digest_31 : decode cX6_digest 31 = .ok (.ldc2_w 302, 3) := by decide +kernel
theorem dX6_digest_34 : decode cX6_digest 34 = .ok (.lload_n 1, 1) := by decide +kernel
theorem dX6_digest_35 : decode cX6_digest 35 = .ok (.lmul, 1) := by decide +kernel
theorem dX6_digest_36 : decode cX6_digest 36 = .ok (.aload_n 0, 1) := by decide +kernel
theorem dX6_digest_37 : decode cX6_digest 37 = .ok (.iconst 0, 1) := by decide +kernel
theorem dX6_digest_38 : decode cX6_digest 38 = .ok (.invokevirtual 136, 3) := by decide +kernel
theorem dX6_digest_41 : decode cX6_digest 41 = .ok (.i2l, 1) := by decide +kernel
theorem dX6_digest_42 : decode cX6_digest 42 = .ok (.ladd, 1) := by decide +kernel
theorem dX6_digest_43 : decode cX6_digest 43 = .ok (.lstore_n 1, 1) := by decide +kernel
theorem dX6_digest_44 : decode cX6_digest 44 = .ok (.ldc2_w 302, 3) := by decide +kernel
theorem dX6_digest_47 : decode cX6_digest 47 = .ok (.lload_n 1, 1) := by decide +kernel
theorem dX6_digest_48 : decode cX6_digest 48 = .ok (.lmul, 1) := by decide +kernel
theorem dX6_digest_49 : decode cX6_digest 49 = .ok (.aload_n 0, 1) := by decide +kernel
theorem dX6_digest_50 : decode cX6_digest 50 = .ok (.iconst 1, 1) := by decide +kernel
theorem dX6_digest_51 : decode cX6_digest 51 = .ok (.invokevirtual 136, 3) := by decide +kernel
theorem dX6_digest_54 : decode cX6_digest 54 = .ok (.i2l, 1) := by decide +kernel
theorem dX6_digest_55 : decode cX6_digest 55 = .ok (.ladd, 1) := by decide +kernel
theorem dX6_digest_56 : decode cX6_digest 56 = .ok (.lstore_n 1, 1) := by decide +kernel
theorem dX6_digest_57 : decode cX6_digest 57 = .ok (.iconst 0, 1) := by decide +kernel
theorem dX6_digest_58 : decode cX6_digest 58 = .ok (.istore_n 3, 1) := by decide +kernel
theorem dX6_digest_59 : decode cX6_digest 59 = .ok (.iload_n 3, 1) := by decide +kernel
theorem dX6_digest_60 : decode cX6_digest 60 = .ok (.bipush 40, 2) := by decide +kernel
theorem dX6_digest_62 : decode cX6_digest 62 = .ok (.if_icmp .ge 52, 3) := by decide +kernel
theorem dX6_digest_65 : decode cX6_digest 65 = .ok (.ldc2_w 302, 3) := by decide +kernel
theorem dX6_digest_68 : decode cX6_digest 68 = .ok (.lload_n 1, 1) := by decide +kernel
theorem dX6_digest_69 : decode cX6_digest 69 = .ok (.lmul, 1) := by decide +kernel
theorem dX6_digest_70 : decode cX6_digest 70 = .ok (.aload_n 0, 1) := by decide +kernel
theorem dX6_digest_71 : decode cX6_digest 71 = .ok (.iload_n 3, 1) := by decide +kernel
theorem dX6_digest_72 : decode cX6_digest 72 = .ok (.invokevirtual 151, 3) := by decide +kernel
theorem dX6_digest_75 : decode cX6_digest 75 = .ok (.i2l, 1) := by decide +kernel
theorem dX6_digest_76 : decode cX6_digest 76 = .ok (.ladd, 1) := by decide +kernel
theorem dX6_digest_77 : decode cX6_digest 77 = .ok (.lstore_n 1, 1) := by decide +kernel
theorem dX6_digest_78 : decode cX6_digest 78 = .ok (.iconst 0, 1) := by decide +kernel
theorem dX6_digest_79 : decode cX6_digest 79 = .ok (.istore 4, 2) := by decide +kernel
theorem dX6_digest_81 : decode cX6_digest 81 = .ok (.iload 4, 2) := by decide +kernel
theorem dX6_digest_83 : decode cX6_digest 83 = .ok (.iconst 4, 1) := by decide +kernel
theorem dX6_digest_84 : decode cX6_digest 84 = .ok (.if_icmp .ge 24, 3) := by decide +kernel
theorem dX6_digest_87 : decode cX6_digest 87 = .ok (.ldc2_w 302, 3) := by decide +kernel
theorem dX6_digest_90 : decode cX6_digest 90 = .ok (.lload_n 1, 1) := by decide +kernel
theorem dX6_digest_91 : decode cX6_digest 91 = .ok (.lmul, 1) := by decide +kernel
theorem dX6_digest_92 : decode cX6_digest 92 = .ok (.aload_n 0, 1) := by decide +kernel
theorem dX6_digest_93 : decode cX6_digest 93 = .ok (.iload_n 3, 1) := by decide +kernel
theorem dX6_digest_94 : decode cX6_digest 94 = .ok (.iload 4, 2) := by decide +kernel
theorem dX6_digest_96 : decode cX6_digest 96 = .ok (.invokevirtual 216, 3) := by decide +kernel
theorem dX6_digest_99 : decode cX6_digest 99 = .ok (.i2l, 1) := by decide +kernel
theorem dX6_digest_100 : decode cX6_digest 100 = .ok (.ladd, 1) := by decide +kernel
theorem dX6_digest_101 : decode cX6_digest 101 = .ok (.lstore_n 1, 1) := by decide +kernel
theorem dX6_digest_102 : decode cX6_digest 102 = .ok (.iinc 4 1, 3) := by decide +kernel
theorem dX6_digest_105 : decode cX6_digest 105 = .ok (.goto (-24), 3) := by decide +kernel
theorem dX6_digest_108 : decode cX6_digest 108 = .ok (.iinc 3 1, 3) := by decide +kernel
theorem dX6_digest_111 : decode cX6_digest 111 = .ok (.goto (-52), 3) := by decide +kernel
theorem dX6_digest_114 : decode cX6_digest 114 = .ok (.iconst 0, 1) := by decide +kernel
theorem dX6_digest_115 : decode cX6_digest 115 = .ok (.istore_n 3, 1) := by decide +kernel
theorem dX6_digest_116 : decode cX6_digest 116 = .ok (.iload_n 3, 1) := by decide +kernel
theorem dX6_digest_117 : decode cX6_digest 117 = .ok (.aload_n 0, 1) := by decide +kernel
theorem dX6_digest_118 : decode cX6_digest 118 = .ok (.getfield 118, 3) := by decide +kernel
theorem dX6_digest_121 : decode cX6_digest 121 = .ok (.if_icmp .ge 16, 3) := by decide +kernel
theorem dX6_digest_124 : decode cX6_digest 124 = .ok (.aload_n 0, 1) := by decide +kernel
theorem dX6_digest_125 : decode cX6_digest 125 = .ok (.lload_n 1, 1) := by decide +kernel
theorem dX6_digest_126 : decode cX6_digest 126 = .ok (.iload_n 3, 1) := by decide +kernel
theorem dX6_digest_127 : decode cX6_digest 127 = .ok (.invokevirtual 313, 3) := by decide +kernel
theorem dX6_digest_130 : decode cX6_digest 130 = .ok (.lstore_n 1, 1) := by decide +kernel
theorem dX6_digest_131 : decode cX6_digest 131 = .ok (.iinc 3 1, 3) := by decide +kernel
theorem dX6_digest_134 : decode cX6_digest 134 = .ok (.goto (-18), 3) := by decide +kernel
theorem dX6_digest_137 : decode cX6_digest 137 = .ok (.ldc2_w 302, 3) := by decide +kernel
theorem dX6_digest_140 : decode cX6_digest 140 = .ok (.lload_n 1, 1) := by decide +kernel
theorem dX6_digest_141 : decode cX6_digest 141 = .ok (.lmul, 1) := by decide +kernel
theorem dX6_digest_142 : decode cX6_digest 142 = .ok (.aload_n 0, 1) := by decide +kernel
theorem dX6_digest_143 : decode cX6_digest 143 = .ok (.invokevirtual 229, 3) := by decide +kernel
theorem dX6_digest_146 : decode cX6_digest 146 = .ok (.i2l, 1) := by decide +kernel
theorem dX6_digest_147 : decode cX6_digest 147 = .ok (.ladd, 1) := by decide +kernel
theorem dX6_digest_148 : decode cX6_digest 148 = .ok (.lstore_n 1, 1) := by decide +kernel
theorem dX6_digest_149 : decode cX6_digest 149 = .ok (.ldc2_w 302, 3) := by decide +kernel
theorem dX6_digest_152 : decode cX6_digest 152 = .ok (.lload_n 1, 1) := by decide +kernel
theorem dX6_digest_153 : decode cX6_digest 153 = .ok (.lmul, 1) := by decide +kernel
theorem dX6_digest_154 : decode cX6_digest 154 = .ok (.aload_n 0, 1) := by decide +kernel
theorem dX6_digest_155 : decode cX6_digest 155 = .ok (.invokevirtual 232, 3) := by decide +kernel
theorem dX6_digest_158 : decode cX6_digest 158 = .ok (.i2l, 1) := by decide +kernel
theorem dX6_digest_159 : decode cX6_digest 159 = .ok (.ladd, 1) := by decide +kernel
theorem dX6_digest_160 : decode cX6_digest 160 = .ok (.lstore_n 1, 1) := by decide +kernel
theorem dX6_digest_161 : decode cX6_digest 161 = .ok (.ldc2_w 302, 3) := by decide +kernel
theorem dX6_digest_164 : decode cX6_digest 164 = .ok (.lload_n 1, 1) := by decide +kernel
theorem dX6_digest_165 : decode cX6_digest 165 = .ok (.lmul, 1) := by decide +kernel
theorem dX6_digest_166 : decode cX6_digest 166 = .ok (.aload_n 0, 1) := by decide +kernel
theorem dX6_digest_167 : decode cX6_digest 167 = .ok (.invokevirtual 235, 3) := by decide +kernel
theorem dX6_digest_170 : decode cX6_digest 170 = .ok (.i2l, 1) := by decide +kernel
theorem dX6_digest_171 : decode cX6_digest 171 = .ok (.ladd, 1) := by decide +kernel
theorem dX6_digest_172 : decode cX6_digest 172 = .ok (.lstore_n 1, 1) := by decide +kernel
theorem dX6_digest_173 : decode cX6_digest 173 = .ok (.ldc2_w 302, 3) := by decide +kernel
theorem dX6_digest_176 : decode cX6_digest 176 = .ok (.lload_n 1, 1) := by decide +kernel
theorem dX6_digest_177 : decode cX6_digest 177 = .ok (.lmul, 1) := by decide +kernel
theorem dX6_digest_178 : decode cX6_digest 178 = .ok (.aload_n 0, 1) := by decide +kernel
theorem dX6_digest_179 : decode cX6_digest 179 = .ok (.iconst 0, 1) := by decide +kernel
theorem dX6_digest_180 : decode cX6_digest 180 = .ok (.invokevirtual 241, 3) := by decide +kernel
theorem dX6_digest_183 : decode cX6_digest 183 = .ok (.i2l, 1) := by decide +kernel
theorem dX6_digest_184 : decode cX6_digest 184 = .ok (.ladd, 1) := by decide +kernel
theorem dX6_digest_185 : decode cX6_digest 185 = .ok (.lstore_n 1, 1) := by decide +kernel
theorem dX6_digest_186 : decode cX6_digest 186 = .ok (.ldc2_w 302, 3) := by decide +kernel
theorem dX6_digest_189 : decode cX6_digest 189 = .ok (.lload_n 1, 1) := by decide +kernel
theorem dX6_digest_190 : decode cX6_digest 190 = .ok (.lmul, 1) := by decide +kernel
theorem dX6_digest_191 : decode cX6_digest 191 = .ok (.aload_n 0, 1) := by decide +kernel
theorem dX6_digest_192 : decode cX6_digest 192 = .ok (.iconst 1, 1) := by decide +kernel
theorem dX6_digest_193 : decode cX6_digest 193 = .ok (.invokevirtual 241, 3) := by decide +kernel
theorem dX6_digest_196 : decode cX6_digest 196 = .ok (.i2l, 1) := by decide +kernel
theorem dX6_digest_197 : decode cX6_digest 197 = .ok (.ladd, 1) := by decide +kernel
theorem dX6_digest_198 : decode cX6_digest 198 = .ok (.lstore_n 1, 1) := by decide +kernel
theorem dX6_digest_199 : decode cX6_digest 199 = .ok (.ldc2_w 302, 3) := by decide +kernel
theorem dX6_digest_202 : decode cX6_digest 202 = .ok (.lload_n 1, 1) := by decide +kernel
theorem dX6_digest_203 : decode cX6_digest 203 = .ok (.lmul, 1) := by decide +kernel
theorem dX6_digest_204 : decode cX6_digest 204 = .ok (.aload_n 0, 1) := by decide +kernel
theorem dX6_digest_205 : decode cX6_digest 205 = .ok (.invokevirtual 247, 3) := by decide +kernel
theorem dX6_digest_208 : decode cX6_digest 208 = .ok (.i2l, 1) := by decide +kernel
theorem dX6_digest_209 : decode cX6_digest 209 = .ok (.ladd, 1) := by decide +kernel
theorem dX6_digest_210 : decode cX6_digest 210 = .ok (.lstore_n 1, 1) := by decide +kernel
theorem dX6_digest_211 : decode cX6_digest 211 = .ok (.ldc2_w 302, 3) := by decide +kernel
theorem dX6_digest_214 : decode cX6_digest 214 = .ok (.lload_n 1, 1) := by decide +kernel
theorem dX6_digest_215 : decode cX6_digest 215 = .ok (.lmul, 1) := by decide +kernel
theorem dX6_digest_216 : decode cX6_digest 216 = .ok (.aload_n 0, 1) := by decide +kernel
theorem dX6_digest_217 : decode cX6_digest 217 = .ok (.iconst 0, 1) := by decide +kernel
theorem dX6_digest_218 : decode cX6_digest 218 = .ok (.invokevirtual 250, 3) := by decide +kernel
theorem dX6_digest_221 : decode cX6_digest 221 = .ok (.i2l, 1) := by decide +kernel
theorem dX6_digest_222 : decode cX6_digest 222 = .ok (.ladd, 1) := by decide +kernel
theorem dX6_digest_223 : decode cX6_digest 223 = .ok (.lstore_n 1, 1) := by decide +kernel
theorem dX6_digest_224 : decode cX6_digest 224 = .ok (.ldc2_w 302, 3) := by decide +kernel
theorem dX6_digest_227 : decode cX6_digest 227 = .ok (.lload_n 1, 1) := by decide +kernel
theorem dX6_digest_228 : decode cX6_digest 228 = .ok (.lmul, 1) := by decide +kernel
theorem dX6_digest_229 : decode cX6_digest 229 = .ok (.aload_n 0, 1) := by decide +kernel
theorem dX6_digest_230 : decode cX6_digest 230 = .ok (.iconst 1, 1) := by decide +kernel
theorem dX6_digest_231 : decode cX6_digest 231 = .ok (.invokevirtual 250, 3) := by decide +kernel
theorem dX6_digest_234 : decode cX6_digest 234 = .ok (.i2l, 1) := by decide +kernel
theorem dX6_digest_235 : decode cX6_digest 235 = .ok (.ladd, 1) := by decide +kernel
theorem dX6_digest_236 : decode cX6_digest 236 = .ok (.lstore_n 1, 1) := by decide +kernel
theorem dX6_digest_237 : decode cX6_digest 237 = .ok (.ldc2_w 302, 3) := by decide +kernel
theorem dX6_digest_240 : decode cX6_digest 240 = .ok (.lload_n 1, 1) := by decide +kernel
theorem dX6_digest_241 : decode cX6_digest 241 = .ok (.lmul, 1) := by decide +kernel
theorem dX6_digest_242 : decode cX6_digest 242 = .ok (.aload_n 0, 1) := by decide +kernel
theorem dX6_digest_243 : decode cX6_digest 243 = .ok (.invokevirtual 260, 3) := by decide +kernel
theorem dX6_digest_246 : decode cX6_digest 246 = .ok (.i2l, 1) := by decide +kernel
theorem dX6_digest_247 : decode cX6_digest 247 = .ok (.ladd, 1) := by decide +kernel
theorem dX6_digest_248 : decode cX6_digest 248 = .ok (.lstore_n 1, 1) := by decide +kernel
theorem dX6_digest_249 : decode cX6_digest 249 = .ok (.iconst 0, 1) := by decide +kernel
theorem dX6_digest_250 : decode cX6_digest 250 = .ok (.istore_n 3, 1) := by decide +kernel
theorem dX6_digest_251 : decode cX6_digest 251 = .ok (.iload_n 3, 1) := by decide +kernel
theorem dX6_digest_252 : decode cX6_digest 252 = .ok (.iconst 3, 1) := by decide +kernel
theorem dX6_digest_253 : decode cX6_digest 253 = .ok (.if_icmp .ge 22, 3) := by decide +kernel
theorem dX6_digest_256 : decode cX6_digest 256 = .ok (.ldc2_w 302, 3) := by decide +kernel
theorem dX6_digest_259 : decode cX6_digest 259 = .ok (.lload_n 1, 1) := by decide +kernel
theorem dX6_digest_260 : decode cX6_digest 260 = .ok (.lmul, 1) := by decide +kernel
theorem dX6_digest_261 : decode cX6_digest 261 = .ok (.aload_n 0, 1) := by decide +kernel
theorem dX6_digest_262 : decode cX6_digest 262 = .ok (.iload_n 3, 1) := by decide +kernel
theorem dX6_digest_263 : decode cX6_digest 263 = .ok (.invokevirtual 266, 3) := by decide +kernel
theorem dX6_digest_266 : decode cX6_digest 266 = .ok (.i2l, 1) := by decide +kernel
theorem dX6_digest_267 : decode cX6_digest 267 = .ok (.ladd, 1) := by decide +kernel
theorem dX6_digest_268 : decode cX6_digest 268 = .ok (.lstore_n 1, 1) := by decide +kernel
theorem dX6_digest_269 : decode cX6_digest 269 = .ok (.iinc 3 1, 3) := by decide +kernel
theorem dX6_digest_272 : decode cX6_digest 272 = .ok (.goto (-21), 3) := by decide +kernel
theorem dX6_digest_275 : decode cX6_digest 275 = .ok (.ldc2_w 302, 3) := by decide +kernel
theorem dX6_digest_278 : decode cX6_digest 278 = .ok (.lload_n 1, 1) := by decide +kernel
theorem dX6_digest_279 : decode cX6_digest 279 = .ok (.lmul, 1) := by decide +kernel
theorem dX6_digest_280 : decode cX6_digest 280 = .ok (.aload_n 0, 1) := by decide +kernel
theorem dX6_digest_281 : decode cX6_digest 281 = .ok (.bipush 7, 2) := by decide +kernel
theorem dX6_digest_283 : decode cX6_digest 283 = .ok (.bipush 25, 2) := by decide +kernel
theorem dX6_digest_285 : decode cX6_digest 285 = .ok (.iconst 0, 1) := by decide +kernel
theorem dX6_digest_286 : decode cX6_digest 286 = .ok (.invokevirtual 285, 3) := by decide +kernel
theorem dX6_digest_289 : decode cX6_digest 289 = .ok (.i2l, 1) := by decide +kernel
theorem dX6_digest_290 : decode cX6_digest 290 = .ok (.ladd, 1) := by decide +kernel
theorem dX6_digest_291 : decode cX6_digest 291 = .ok (.lstore_n 1, 1) := by decide +kernel
theorem dX6_digest_292 : decode cX6_digest 292 = .ok (.ldc2_w 302, 3) := by decide +kernel
theorem dX6_digest_295 : decode cX6_digest 295 = .ok (.lload_n 1, 1) := by decide +kernel
theorem dX6_digest_296 : decode cX6_digest 296 = .ok (.lmul, 1) := by decide +kernel
theorem dX6_digest_297 : decode cX6_digest 297 = .ok (.aload_n 0, 1) := by decide +kernel
theorem dX6_digest_298 : decode cX6_digest 298 = .ok (.bipush 7, 2) := by decide +kernel
theorem dX6_digest_300 : decode cX6_digest 300 = .ok (.bipush 25, 2) := by decide +kernel
theorem dX6_digest_302 : decode cX6_digest 302 = .ok (.iconst 1, 1) := by decide +kernel
theorem dX6_digest_303 : decode cX6_digest 303 = .ok (.invokevirtual 285, 3) := by decide +kernel
theorem dX6_digest_306 : decode cX6_digest 306 = .ok (.i2l, 1) := by decide +kernel
theorem dX6_digest_307 : decode cX6_digest 307 = .ok (.ladd, 1) := by decide +kernel
theorem dX6_digest_308 : decode cX6_digest 308 = .ok (.lreturn, 1) := by decide +kernel
