theorem dX0_init_0 : decode cX0_init 0 = .ok (.aload_n 0, 1) := by decide +kernel
theorem dX0_init_1 : decode cX0_init 1 = .ok (.invokespecial 3, 3) := by decide +kernel
theorem dX0_init_4 : decode cX0_init 4 = .ok (.aload_n 0, 1) := by decide +kernel
theorem dX0_init_5 : decode cX0_init 5 = .ok (.bipush 40, 2) := by decide +kernel
theorem dX0_init_7 : decode cX0_init 7 = .ok (.newarray .int, 2) := by decide +kernel
theorem dX0_init_9 : decode cX0_init 9 = .ok (.putfield 9, 3) := by decide +kernel
theorem dX0_init_12 : decode cX0_init 12 = .ok (.aload_n 0, 1) := by decide +kernel
theorem dX0_init_13 : decode cX0_init 13 = .ok (.bipush 40, 2) := by decide +kernel
theorem dX0_init_15 : decode cX0_init 15 = .ok (.newarray .int, 2) := by decide +kernel
theorem dX0_init_17 : decode cX0_init 17 = .ok (.putfield 15, 3) := by decide +kernel
theorem dX0_init_20 : decode cX0_init 20 = .ok (.aload_n 0, 1) := by decide +kernel
theorem dX0_init_21 : decode cX0_init 21 = .ok (.bipush 40, 2) := by decide +kernel
theorem dX0_init_23 : decode cX0_init 23 = .ok (.newarray .int, 2) := by decide +kernel
theorem dX0_init_25 : decode cX0_init 25 = .ok (.putfield 18, 3) := by decide +kernel
theorem dX0_init_28 : decode cX0_init 28 = .ok (.aload_n 0, 1) := by decide +kernel
theorem dX0_init_29 : decode cX0_init 29 = .ok (.bipush 40, 2) := by decide +kernel
theorem dX0_init_31 : decode cX0_init 31 = .ok (.newarray .int, 2) := by decide +kernel
theorem dX0_init_33 : decode cX0_init 33 = .ok (.putfield 21, 3) := by decide +kernel
theorem dX0_init_36 : decode cX0_init 36 = .ok (.aload_n 0, 1) := by decide +kernel
theorem dX0_init_37 : decode cX0_init 37 = .ok (.sipush 320, 3) := by decide +kernel
theorem dX0_init_40 : decode cX0_init 40 = .ok (.newarray .int, 2) := by decide +kernel
theorem dX0_init_42 : decode cX0_init 42 = .ok (.putfield 24, 3) := by decide +kernel
theorem dX0_init_45 : decode cX0_init 45 = .ok (.aload_n 0, 1) := by decide +kernel
theorem dX0_init_46 : decode cX0_init 46 = .ok (.bipush 8, 2) := by decide +kernel
theorem dX0_init_48 : decode cX0_init 48 = .ok (.newarray .int, 2) := by decide +kernel
theorem dX0_init_50 : decode cX0_init 50 = .ok (.putfield 27, 3) := by decide +kernel
theorem dX0_init_53 : decode cX0_init 53 = .ok (.return_, 1) := by decide +kernel
theorem dX0_follow_0 : decode cX0_follow 0 = .ok (.aload_n 1, 1) := by decide +kernel
theorem dX0_follow_1 : decode cX0_follow 1 = .ok (.getfield 30, 3) := by decide +kernel
theorem dX0_follow_4 : decode cX0_follow 4 = .ok (.astore_n 2, 1) := by decide +kernel
theorem dX0_follow_5 : decode cX0_follow 5 = .ok (.aload_n 1, 1) := by decide +kernel
theorem dX0_follow_6 : decode cX0_follow 6 = .ok (.getfield 36, 3) := by decide +kernel
theorem dX0_follow_9 : decode cX0_follow 9 = .ok (.istore_n 3, 1) := by decide +kernel
theorem dX0_follow_10 : decode cX0_follow 10 = .ok (.iconst 0, 1) := by decide +kernel
theorem dX0_follow_11 : decode cX0_follow 11 = .ok (.istore 4, 2) := by decide +kernel
theorem dX0_follow_13 : decode cX0_follow 13 = .ok (.iload 4, 2) := by decide +kernel
theorem dX0_follow_15 : decode cX0_follow 15 = .ok (.bipush 40, 2) := by decide +kernel
theorem dX0_follow_17 : decode cX0_follow 17 = .ok (.if_icmp .ge 220, 3) := by decide +kernel
theorem dX0_follow_20 : decode cX0_follow 20 = .ok (.aload_n 1, 1) := by decide +kernel
theorem dX0_follow_21 : decode cX0_follow 21 = .ok (.getfield 40, 3) := by decide +kernel
theorem dX0_follow_24 : decode cX0_follow 24 = .ok (.iload_n 3, 1) := by decide +kernel
theorem dX0_follow_25 : decode cX0_follow 25 = .ok (.aload_n 1, 1) := by decide +kernel
theorem dX0_follow_26 : decode cX0_follow 26 = .ok (.getfield 43, 3) := by decide +kernel
theorem dX0_follow_29 : decode cX0_follow 29 = .ok (.aload_n 1, 1) := by decide +kernel
theorem dX0_follow_30 : decode cX0_follow 30 = .ok (.getfield 46, 3) := by decide +kernel
theorem dX0_follow_33 : decode cX0_follow 33 = .ok (.iload 4, 2) := by decide +kernel
theorem dX0_follow_35 : decode cX0_follow 35 = .ok (.iaload, 1) := by decide +kernel
theorem dX0_follow_36 : decode cX0_follow 36 = .ok (.imul, 1) := by decide +kernel
theorem dX0_follow_37 : decode cX0_follow 37 = .ok (.iadd, 1) := by decide +kernel
theorem dX0_follow_38 : decode cX0_follow 38 = .ok (.invokestatic 49, 3) := by decide +kernel
theorem dX0_follow_41 : decode cX0_follow 41 = .ok (.istore 5, 2) := by decide +kernel
theorem dX0_follow_43 : decode cX0_follow 43 = .ok (.aload_n 0, 1) := by decide +kernel
theorem dX0_follow_44 : decode cX0_follow 44 = .ok (.getfield 15, 3) := by decide +kernel
theorem dX0_follow_47 : decode cX0_follow 47 = .ok (.iload 4, 2) := by decide +kernel
theorem dX0_follow_49 : decode cX0_follow 49 = .ok (.iload 5, 2) := by decide +kernel
theorem dX0_follow_51 : decode cX0_follow 51 = .ok (.aload_n 1, 1) := by decide +kernel
theorem dX0_follow_52 : decode cX0_follow 52 = .ok (.iload 4, 2) := by decide +kernel
theorem dX0_follow_54 : decode cX0_follow 54 = .ok (.invokevirtual 55, 3) := by decide +kernel
theorem dX0_follow_57 : decode cX0_follow 57 = .ok (.invokestatic 49, 3) := by decide +kernel
theorem dX0_follow_60 : decode cX0_follow 60 = .ok (.iastore, 1) := by decide +kernel
theorem dX0_follow_61 : decode cX0_follow 61 = .ok (.iload 5, 2) := by decide +kernel
theorem dX0_follow_63 : decode cX0_follow 63 = .ok (.aload_n 0, 1) := by decide +kernel
theorem dX0_follow_64 : decode cX0_follow 64 = .ok (.getfield 15, 3) := by decide +kernel
theorem dX0_follow_67 : decode cX0_follow 67 = .ok (.iload 4, 2) := by decide +kernel
theorem dX0_follow_69 : decode cX0_follow 69 = .ok (.iaload, 1) := by decide +kernel
theorem dX0_follow_70 : decode cX0_follow 70 = .ok (.isub, 1) := by decide +kernel
theorem dX0_follow_71 : decode cX0_follow 71 = .ok (.istore_n 3, 1) := by decide +kernel
theorem dX0_follow_72 : decode cX0_follow 72 = .ok (.aload_n 0, 1) := by decide +kernel
theorem dX0_follow_73 : decode cX0_follow 73 = .ok (.getfield 18, 3) := by decide +kernel
theorem dX0_follow_76 : decode cX0_follow 76 = .ok (.iload 4, 2) := by decide +kernel
theorem dX0_follow_78 : decode cX0_follow 78 = .ok (.iconst 0, 1) := by decide +kernel
theorem dX0_follow_79 : decode cX0_follow 79 = .ok (.iastore, 1) := by decide +kernel
theorem dX0_follow_80 : decode cX0_follow 80 = .ok (.aload_n 0, 1) := by decide +kernel
theorem dX0_follow_81 : decode cX0_follow 81 = .ok (.getfield 21, 3) := by decide +kernel
theorem dX0_follow_84 : decode cX0_follow 84 = .ok (.iload 4, 2) := by decide +kernel
theorem dX0_follow_86 : decode cX0_follow 86 = .ok (.iconst 0, 1) := by decide +kernel
theorem dX0_follow_87 : decode cX0_follow 87 = .ok (.iastore, 1) := by decide +kernel
theorem dX0_follow_88 : decode cX0_follow 88 = .ok (.aload_n 1, 1) := by decide +kernel
theorem dX0_follow_89 : decode cX0_follow 89 = .ok (.iload 4, 2) := by decide +kernel
theorem dX0_follow_91 : decode cX0_follow 91 = .ok (.aload_n 0, 1) := by decide +kernel
theorem dX0_follow_92 : decode cX0_follow 92 = .ok (.getfield 27, 3) := by decide +kernel
theorem dX0_follow_95 : decode cX0_follow 95 = .ok (.invokevirtual 59, 3) := by decide +kernel
theorem dX0_follow_98 : decode cX0_follow 98 = .ok (.iconst 0, 1) := by decide +kernel
theorem dX0_follow_99 : decode cX0_follow 99 = .ok (.istore 6, 2) := by decide +kernel
theorem dX0_follow_101 : decode cX0_follow 101 = .ok (.iload 6, 2) := by decide +kernel
theorem dX0_follow_103 : decode cX0_follow 103 = .ok (.aload_n 2, 1) := by decide +kernel
theorem dX0_follow_104 : decode cX0_follow 104 = .ok (.getfield 63, 3) := by decide +kernel
theorem dX0_follow_107 : decode cX0_follow 107 = .ok (.if_icmp .ge 116, 3) := by decide +kernel
theorem dX0_follow_110 : decode cX0_follow 110 = .ok (.iload 4, 2) := by decide +kernel
theorem dX0_follow_112 : decode cX0_follow 112 = .ok (.bipush 8, 2) := by decide +kernel
theorem dX0_follow_114 : decode cX0_follow 114 = .ok (.imul, 1) := by decide +kernel
theorem dX0_follow_115 : decode cX0_follow 115 = .ok (.iload 6, 2) := by decide +kernel
theorem dX0_follow_117 : decode cX0_follow 117 = .ok (.iadd, 1) := by decide +kernel
theorem dX0_follow_118 : decode cX0_follow 118 = .ok (.istore 7, 2) := by decide +kernel
theorem dX0_follow_120 : decode cX0_follow 120 = .ok (.aload_n 2, 1) := by decide +kernel
theorem dX0_follow_121 : decode cX0_follow 121 = .ok (.getfield 68, 3) := by decide +kernel
theorem dX0_follow_124 : decode cX0_follow 124 = .ok (.iload 7, 2) := by decide +kernel
theorem dX0_follow_126 : decode cX0_follow 126 = .ok (.iaload, 1) := by decide +kernel
theorem dX0_follow_127 : decode cX0_follow 127 = .ok (.invokestatic 71, 3) := by decide +kernel
theorem dX0_follow_130 : decode cX0_follow 130 = .ok (.istore 8, 2) := by decide +kernel
theorem dX0_follow_132 : decode cX0_follow 132 = .ok (.aload_n 0, 1) := by decide +kernel
theorem dX0_follow_133 : decode cX0_follow 133 = .ok (.aload_n 2, 1) := by decide +kernel
theorem dX0_follow_134 : decode cX0_follow 134 = .ok (.getfield 74, 3) := by decide +kernel
theorem dX0_follow_137 : decode cX0_follow 137 = .ok (.iload 6, 2) := by decide +kernel
theorem dX0_follow_139 : decode cX0_follow 139 = .ok (.iload 8, 2) := by decide +kernel
theorem dX0_follow_141 : decode cX0_follow 141 = .ok (.iload_n 3, 1) := by decide +kernel
theorem dX0_follow_142 : decode cX0_follow 142 = .ok (.invokestatic 49, 3) := by decide +kernel
theorem dX0_follow_145 : decode cX0_follow 145 = .ok (.invokevirtual 77, 3) := by decide +kernel
theorem dX0_follow_148 : decode cX0_follow 148 = .ok (.istore 9, 2) := by decide +kernel
theorem dX0_follow_150 : decode cX0_follow 150 = .ok (.aload_n 0, 1) := by decide +kernel
theorem dX0_follow_151 : decode cX0_follow 151 = .ok (.getfield 24, 3) := by decide +kernel
theorem dX0_follow_154 : decode cX0_follow 154 = .ok (.iload 7, 2) := by decide +kernel
theorem dX0_follow_156 : decode cX0_follow 156 = .ok (.iload 9, 2) := by decide +kernel
theorem dX0_follow_158 : decode cX0_follow 158 = .ok (.iastore, 1) := by decide +kernel
theorem dX0_follow_159 : decode cX0_follow 159 = .ok (.iload_n 3, 1) := by decide +kernel
theorem dX0_follow_160 : decode cX0_follow 160 = .ok (.iload 9, 2) := by decide +kernel
theorem dX0_follow_162 : decode cX0_follow 162 = .ok (.isub, 1) := by decide +kernel
theorem dX0_follow_163 : decode cX0_follow 163 = .ok (.istore_n 3, 1) := by decide +kernel
theorem dX0_follow_164 : decode cX0_follow 164 = .ok (.aload_n 0, 1) := by decide +kernel
theorem dX0_follow_165 : decode cX0_follow 165 = .ok (.getfield 18, 3) := by decide +kernel
theorem dX0_follow_168 : decode cX0_follow 168 = .ok (.iload 4, 2) := by decide +kernel
theorem dX0_follow_170 : decode cX0_follow 170 = .ok (.dup2, 1) := by decide +kernel
theorem dX0_follow_171 : decode cX0_follow 171 = .ok (.iaload, 1) := by decide +kernel
theorem dX0_follow_172 : decode cX0_follow 172 = .ok (.iload 9, 2) := by decide +kernel
theorem dX0_follow_174 : decode cX0_follow 174 = .ok (.ifCond .le 15, 3) := by decide +kernel
theorem dX0_follow_177 : decode cX0_follow 177 = .ok (.iconst 1, 1) := by decide +kernel
theorem dX0_follow_178 : decode cX0_follow 178 = .ok (.aload_n 2, 1) := by decide +kernel
theorem dX0_follow_179 : decode cX0_follow 179 = .ok (.getfield 81, 3) := by decide +kernel
theorem dX0_follow_182 : decode cX0_follow 182 = .ok (.iload 6, 2) := by decide +kernel
theorem dX0_follow_184 : decode cX0_follow 184 = .ok (.iaload, 1) := by decide +kernel
theorem dX0_follow_185 : decode cX0_follow 185 = .ok (.ishl, 1) := by decide +kernel
theorem dX0_follow_186 : decode cX0_follow 186 = .ok (.goto 4, 3) := by decide +kernel
theorem dX0_follow_189 : decode cX0_follow 189 = .ok (.iconst 0, 1) := by decide +kernel
theorem dX0_follow_190 : decode cX0_follow 190 = .ok (.ior, 1) := by decide +kernel
theorem dX0_follow_191 : decode cX0_follow 191 = .ok (.iastore, 1) := by decide +kernel
theorem dX0_follow_192 : decode cX0_follow 192 = .ok (.aload_n 0, 1) := by decide +kernel
theorem dX0_follow_193 : decode cX0_follow 193 = .ok (.getfield 21, 3) := by decide +kernel
theorem dX0_follow_196 : decode cX0_follow 196 = .ok (.iload 4, 2) := by decide +kernel
theorem dX0_follow_198 : decode cX0_follow 198 = .ok (.dup2, 1) := by decide +kernel
theorem dX0_follow_199 : decode cX0_follow 199 = .ok (.iaload, 1) := by decide +kernel
theorem dX0_follow_200 : decode cX0_follow 200 = .ok (.iload 9, 2) := by decide +kernel
theorem dX0_follow_202 : decode cX0_follow 202 = .ok (.iload 8, 2) := by decide +kernel
theorem dX0_follow_204 : decode cX0_follow 204 = .ok (.if_icmp .ge 10, 3) := by decide +kernel
theorem dX0_follow_207 : decode cX0_follow 207 = .ok (.iconst 1, 1) := by decide +kernel
theorem dX0_follow_208 : decode cX0_follow 208 = .ok (.iload 6, 2) := by decide +kernel
theorem dX0_follow_210 : decode cX0_follow 210 = .ok (.ishl, 1) := by decide +kernel
theorem dX0_follow_211 : decode cX0_follow 211 = .ok (.goto 4, 3) := by decide +kernel
theorem dX0_follow_214 : decode cX0_follow 214 = .ok (.iconst 0, 1) := by decide +kernel
theorem dX0_follow_215 : decode cX0_follow 215 = .ok (.ior, 1) := by decide +kernel
theorem dX0_follow_216 : decode cX0_follow 216 = .ok (.iastore, 1) := by decide +kernel
theorem dX0_follow_217 : decode cX0_follow 217 = .ok (.iinc 6 1, 3) := by decide +kernel
theorem dX0_follow_220 : decode cX0_follow 220 = .ok (.goto (-119), 3) := by decide +kernel
theorem dX0_follow_223 : decode cX0_follow 223 = .ok (.aload_n 0, 1) := by decide +kernel
theorem dX0_follow_224 : decode cX0_follow 224 = .ok (.getfield 9, 3) := by decide +kernel
theorem dX0_follow_227 : decode cX0_follow 227 = .ok (.iload 4, 2) := by decide +kernel
theorem dX0_follow_229 : decode cX0_follow 229 = .ok (.iload_n 3, 1) := by decide +kernel
theorem dX0_follow_230 : decode cX0_follow 230 = .ok (.iastore, 1) := by decide +kernel
theorem dX0_follow_231 : decode cX0_follow 231 = .ok (.iinc 4 1, 3) := by decide +kernel
theorem dX0_follow_234 : decode cX0_follow 234 = .ok (.goto (-221), 3) := by decide +kernel
theorem dX0_follow_237 : decode cX0_follow 237 = .ok (.return_, 1) := by decide +kernel
theorem dX0_draw_0 : decode cX0_draw 0 = .ok (.iload_n 3, 1) := by decide +kernel
theorem dX0_draw_1 : decode cX0_draw 1 = .ok (.istore 4, 2) := by decide +kernel
theorem dX0_draw_3 : decode cX0_draw 3 = .ok (.iload_n 2, 1) := by decide +kernel
theorem dX0_draw_4 : decode cX0_draw 4 = .ok (.istore 5, 2) := by decide +kernel
theorem dX0_draw_6 : decode cX0_draw 6 = .ok (.iconst 0, 1) := by decide +kernel
theorem dX0_draw_7 : decode cX0_draw 7 = .ok (.istore 6, 2) := by decide +kernel
theorem dX0_draw_9 : decode cX0_draw 9 = .ok (.iload 6, 2) := by decide +kernel
theorem dX0_draw_11 : decode cX0_draw 11 = .ok (.bipush 8, 2) := by decide +kernel
theorem dX0_draw_13 : decode cX0_draw 13 = .ok (.if_icmp .ge 53, 3) := by decide +kernel
theorem dX0_draw_16 : decode cX0_draw 16 = .ok (.iload 5, 2) := by decide +kernel
theorem dX0_draw_18 : decode cX0_draw 18 = .ok (.ifCond .lt 48, 3) := by decide +kernel
theorem dX0_draw_21 : decode cX0_draw 21 = .ok (.iload 5, 2) := by decide +kernel
theorem dX0_draw_23 : decode cX0_draw 23 = .ok (.bipush 8, 2) := by decide +kernel
theorem dX0_draw_25 : decode cX0_draw 25 = .ok (.if_icmp .ge 41, 3) := by decide +kernel
theorem dX0_draw_28 : decode cX0_draw 28 = .ok (.aload_n 0, 1) := by decide +kernel
theorem dX0_draw_29 : decode cX0_draw 29 = .ok (.getfield 27, 3) := by decide +kernel
theorem dX0_draw_32 : decode cX0_draw 32 = .ok (.iload 5, 2) := by decide +kernel
theorem dX0_draw_34 : decode cX0_draw 34 = .ok (.iaload, 1) := by decide +kernel
theorem dX0_draw_35 : decode cX0_draw 35 = .ok (.iload 4, 2) := by decide +kernel
theorem dX0_draw_37 : decode cX0_draw 37 = .ok (.if_icmp .ge 13, 3) := by decide +kernel
theorem dX0_draw_40 : decode cX0_draw 40 = .ok (.aload_n 0, 1) := by decide +kernel
theorem dX0_draw_41 : decode cX0_draw 41 = .ok (.getfield 27, 3) := by decide +kernel
theorem dX0_draw_44 : decode cX0_draw 44 = .ok (.iload 5, 2) := by decide +kernel
theorem dX0_draw_46 : decode cX0_draw 46 = .ok (.iaload, 1) := by decide +kernel
theorem dX0_draw_47 : decode cX0_draw 47 = .ok (.goto 5, 3) := by decide +kernel
theorem dX0_draw_50 : decode cX0_draw 50 = .ok (.iload 4, 2) := by decide +kernel
theorem dX0_draw_52 : decode cX0_draw 52 = .ok (.istore 4, 2) := by decide +kernel
theorem dX0_draw_54 : decode cX0_draw 54 = .ok (.aload_n 1, 1) := by decide +kernel
theorem dX0_draw_55 : decode cX0_draw 55 = .ok (.iload 5, 2) := by decide +kernel
theorem dX0_draw_57 : decode cX0_draw 57 = .ok (.iaload, 1) := by decide +kernel
theorem dX0_draw_58 : decode cX0_draw 58 = .ok (.istore 5, 2) := by decide +kernel
theorem dX0_draw_60 : decode cX0_draw 60 = .ok (.iinc 6 1, 3) := by decide +kernel
theorem dX0_draw_63 : decode cX0_draw 63 = .ok (.goto (-54), 3) := by decide +kernel
theorem dX0_draw_66 : decode cX0_draw 66 = .ok (.iload_n 2, 1) := by decide +kernel
theorem dX0_draw_67 : decode cX0_draw 67 = .ok (.istore 5, 2) := by decide +kernel
theorem dX0_draw_69 : decode cX0_draw 69 = .ok (.iconst 0, 1) := by decide +kernel
theorem dX0_draw_70 : decode cX0_draw 70 = .ok (.istore 6, 2) := by decide +kernel
theorem dX0_draw_72 : decode cX0_draw 72 = .ok (.iload 6, 2) := by decide +kernel
theorem dX0_draw_74 : decode cX0_draw 74 = .ok (.bipush 8, 2) := by decide +kernel
theorem dX0_draw_76 : decode cX0_draw 76 = .ok (.if_icmp .ge 39, 3) := by decide +kernel
theorem dX0_draw_79 : decode cX0_draw 79 = .ok (.iload 5, 2) := by decide +kernel
theorem dX0_draw_81 : decode cX0_draw 81 = .ok (.ifCond .lt 34, 3) := by decide +kernel
theorem dX0_draw_84 : decode cX0_draw 84 = .ok (.iload 5, 2) := by decide +kernel
theorem dX0_draw_86 : decode cX0_draw 86 = .ok (.bipush 8, 2) := by decide +kernel
theorem dX0_draw_88 : decode cX0_draw 88 = .ok (.if_icmp .ge 27, 3) := by decide +kernel
theorem dX0_draw_91 : decode cX0_draw 91 = .ok (.aload_n 0, 1) := by decide +kernel
theorem dX0_draw_92 : decode cX0_draw 92 = .ok (.getfield 27, 3) := by decide +kernel
theorem dX0_draw_95 : decode cX0_draw 95 = .ok (.iload 5, 2) := by decide +kernel
theorem dX0_draw_97 : decode cX0_draw 97 = .ok (.dup2, 1) := by decide +kernel
theorem dX0_draw_98 : decode cX0_draw 98 = .ok (.iaload, 1) := by decide +kernel
theorem dX0_draw_99 : decode cX0_draw 99 = .ok (.iload 4, 2) := by decide +kernel
theorem dX0_draw_101 : decode cX0_draw 101 = .ok (.isub, 1) := by decide +kernel
theorem dX0_draw_102 : decode cX0_draw 102 = .ok (.iastore, 1) := by decide +kernel
theorem dX0_draw_103 : decode cX0_draw 103 = .ok (.aload_n 1, 1) := by decide +kernel
theorem dX0_draw_104 : decode cX0_draw 104 = .ok (.iload 5, 2) := by decide +kernel
theorem dX0_draw_106 : decode cX0_draw 106 = .ok (.iaload, 1) := by decide +kernel
theorem dX0_draw_107 : decode cX0_draw 107 = .ok (.istore 5, 2) := by decide +kernel
theorem dX0_draw_109 : decode cX0_draw 109 = .ok (.iinc 6 1, 3) := by decide +kernel
theorem dX0_draw_112 : decode cX0_draw 112 = .ok (.goto (-40), 3) := by decide +kernel
theorem dX0_draw_115 : decode cX0_draw 115 = .ok (.iload 4, 2) := by decide +kernel
theorem dX0_draw_117 : decode cX0_draw 117 = .ok (.ireturn, 1) := by decide +kernel
theorem dX0_gotBy_0 : decode cX0_gotBy 0 = .ok (.iload_n 1, 1) := by decide +kernel
theorem dX0_gotBy_1 : decode cX0_gotBy 1 = .ok (.iconst 0, 1) := by decide +kernel
theorem dX0_gotBy_2 : decode cX0_gotBy 2 = .ok (.bipush 39, 2) := by decide +kernel
theorem dX0_gotBy_4 : decode cX0_gotBy 4 = .ok (.invokestatic 84, 3) := by decide +kernel
theorem dX0_gotBy_7 : decode cX0_gotBy 7 = .ok (.ifCond .eq 27, 3) := by decide +kernel
theorem dX0_gotBy_10 : decode cX0_gotBy 10 = .ok (.iload_n 2, 1) := by decide +kernel
theorem dX0_gotBy_11 : decode cX0_gotBy 11 = .ok (.iconst 0, 1) := by decide +kernel
theorem dX0_gotBy_12 : decode cX0_gotBy 12 = .ok (.bipush 7, 2) := by decide +kernel
theorem dX0_gotBy_14 : decode cX0_gotBy 14 = .ok (.invokestatic 84, 3) := by decide +kernel
theorem dX0_gotBy_17 : decode cX0_gotBy 17 = .ok (.ifCond .eq 17, 3) := by decide +kernel
theorem dX0_gotBy_20 : decode cX0_gotBy 20 = .ok (.aload_n 0, 1) := by decide +kernel
theorem dX0_gotBy_21 : decode cX0_gotBy 21 = .ok (.getfield 24, 3) := by decide +kernel
theorem dX0_gotBy_24 : decode cX0_gotBy 24 = .ok (.iload_n 1, 1) := by decide +kernel
theorem dX0_gotBy_25 : decode cX0_gotBy 25 = .ok (.bipush 8, 2) := by decide +kernel
theorem dX0_gotBy_27 : decode cX0_gotBy 27 = .ok (.imul, 1) := by decide +kernel
theorem dX0_gotBy_28 : decode cX0_gotBy 28 = .ok (.iload_n 2, 1) := by decide +kernel
theorem dX0_gotBy_29 : decode cX0_gotBy 29 = .ok (.iadd, 1) := by decide +kernel
theorem dX0_gotBy_30 : decode cX0_gotBy 30 = .ok (.iaload, 1) := by decide +kernel
theorem dX0_gotBy_31 : decode cX0_gotBy 31 = .ok (.goto 4, 3) := by decide +kernel
theorem dX0_gotBy_34 : decode cX0_gotBy 34 = .ok (.iconst (-1), 1) := by decide +kernel
theorem dX0_gotBy_35 : decode cX0_gotBy 35 = .ok (.ireturn, 1) := by decide +kernel
theorem dX0_firstShort_0 : decode cX0_firstShort 0 = .ok (.iconst 0, 1) := by decide +kernel
theorem dX0_firstShort_1 : decode cX0_firstShort 1 = .ok (.istore_n 2, 1) := by decide +kernel
theorem dX0_firstShort_2 : decode cX0_firstShort 2 = .ok (.iload_n 2, 1) := by decide +kernel
theorem dX0_firstShort_3 : decode cX0_firstShort 3 = .ok (.bipush 40, 2) := by decide +kernel
theorem dX0_firstShort_5 : decode cX0_firstShort 5 = .ok (.if_icmp .ge 22, 3) := by decide +kernel
theorem dX0_firstShort_8 : decode cX0_firstShort 8 = .ok (.aload_n 0, 1) := by decide +kernel
theorem dX0_firstShort_9 : decode cX0_firstShort 9 = .ok (.getfield 21, 3) := by decide +kernel
theorem dX0_firstShort_12 : decode cX0_firstShort 12 = .ok (.iload_n 2, 1) := by decide +kernel
theorem dX0_firstShort_13 : decode cX0_firstShort 13 = .ok (.iaload, 1) := by decide +kernel
theorem dX0_firstShort_14 : decode cX0_firstShort 14 = .ok (.iload_n 1, 1) := by decide +kernel
theorem dX0_firstShort_15 : decode cX0_firstShort 15 = .ok (.iand, 1) := by decide +kernel
theorem dX0_firstShort_16 : decode cX0_firstShort 16 = .ok (.ifCond .eq 5, 3) := by decide +kernel
theorem dX0_firstShort_19 : decode cX0_firstShort 19 = .ok (.iload_n 2, 1) := by decide +kernel
theorem dX0_firstShort_20 : decode cX0_firstShort 20 = .ok (.ireturn, 1) := by decide +kernel
theorem dX0_firstShort_21 : decode cX0_firstShort 21 = .ok (.iinc 2 1, 3) := by decide +kernel
theorem dX0_firstShort_24 : decode cX0_firstShort 24 = .ok (.goto (-22), 3) := by decide +kernel
theorem dX0_firstShort_27 : decode cX0_firstShort 27 = .ok (.iconst (-1), 1) := by decide +kernel
theorem dX0_firstShort_28 : decode cX0_firstShort 28 = .ok (.ireturn, 1) := by decide +kernel
theorem dX0_shortHours_0 : decode cX0_shortHours 0 = .ok (.iconst 0, 1) := by decide +kernel
theorem dX0_shortHours_1 : decode cX0_shortHours 1 = .ok (.istore_n 2, 1) := by decide +kernel
theorem dX0_shortHours_2 : decode cX0_shortHours 2 = .ok (.iconst 0, 1) := by decide +kernel
theorem dX0_shortHours_3 : decode cX0_shortHours 3 = .ok (.istore_n 3, 1) := by decide +kernel
theorem dX0_shortHours_4 : decode cX0_shortHours 4 = .ok (.iload_n 3, 1) := by decide +kernel
theorem dX0_shortHours_5 : decode cX0_shortHours 5 = .ok (.bipush 40, 2) := by decide +kernel
theorem dX0_shortHours_7 : decode cX0_shortHours 7 = .ok (.if_icmp .ge 22, 3) := by decide +kernel
theorem dX0_shortHours_10 : decode cX0_shortHours 10 = .ok (.iload_n 2, 1) := by decide +kernel
theorem dX0_shortHours_11 : decode cX0_shortHours 11 = .ok (.aload_n 0, 1) := by decide +kernel
theorem dX0_shortHours_12 : decode cX0_shortHours 12 = .ok (.getfield 21, 3) := by decide +kernel
theorem dX0_shortHours_15 : decode cX0_shortHours 15 = .ok (.iload_n 3, 1) := by decide +kernel
theorem dX0_shortHours_16 : decode cX0_shortHours 16 = .ok (.iaload, 1) := by decide +kernel
theorem dX0_shortHours_17 : decode cX0_shortHours 17 = .ok (.iload_n 1, 1) := by decide +kernel
theorem dX0_shortHours_18 : decode cX0_shortHours 18 = .ok (.ishr, 1) := by decide +kernel
theorem dX0_shortHours_19 : decode cX0_shortHours 19 = .ok (.iconst 1, 1) := by decide +kernel
theorem dX0_shortHours_20 : decode cX0_shortHours 20 = .ok (.iand, 1) := by decide +kernel
theorem dX0_shortHours_21 : decode cX0_shortHours 21 = .ok (.iadd, 1) := by decide +kernel
theorem dX0_shortHours_22 : decode cX0_shortHours 22 = .ok (.istore_n 2, 1) := by decide +kernel
theorem dX0_shortHours_23 : decode cX0_shortHours 23 = .ok (.iinc 3 1, 3) := by decide +kernel
theorem dX0_shortHours_26 : decode cX0_shortHours 26 = .ok (.goto (-22), 3) := by decide +kernel
theorem dX0_shortHours_29 : decode cX0_shortHours 29 = .ok (.iload_n 2, 1) := by decide +kernel
theorem dX0_shortHours_30 : decode cX0_shortHours 30 = .ok (.ireturn, 1) := by decide +kernel
theorem dX0_shortsInAll_0 : decode cX0_shortsInAll 0 = .ok (.iconst 0, 1) := by decide +kernel
theorem dX0_shortsInAll_1 : decode cX0_shortsInAll 1 = .ok (.istore_n 1, 1) := by decide +kernel
theorem dX0_shortsInAll_2 : decode cX0_shortsInAll 2 = .ok (.iconst 0, 1) := by decide +kernel
theorem dX0_shortsInAll_3 : decode cX0_shortsInAll 3 = .ok (.istore_n 2, 1) := by decide +kernel
theorem dX0_shortsInAll_4 : decode cX0_shortsInAll 4 = .ok (.iload_n 2, 1) := by decide +kernel
theorem dX0_shortsInAll_5 : decode cX0_shortsInAll 5 = .ok (.bipush 40, 2) := by decide +kernel
theorem dX0_shortsInAll_7 : decode cX0_shortsInAll 7 = .ok (.if_icmp .ge 21, 3) := by decide +kernel
theorem dX0_shortsInAll_10 : decode cX0_shortsInAll 10 = .ok (.iload_n 1, 1) := by decide +kernel
theorem dX0_shortsInAll_11 : decode cX0_shortsInAll 11 = .ok (.aload_n 0, 1) := by decide +kernel
theorem dX0_shortsInAll_12 : decode cX0_shortsInAll 12 = .ok (.getfield 21, 3) := by decide +kernel
theorem dX0_shortsInAll_15 : decode cX0_shortsInAll 15 = .ok (.iload_n 2, 1) := by decide +kernel
theorem dX0_shortsInAll_16 : decode cX0_shortsInAll 16 = .ok (.iaload, 1) := by decide +kernel
theorem dX0_shortsInAll_17 : decode cX0_shortsInAll 17 = .ok (.invokestatic 88, 3) := by decide +kernel
theorem dX0_shortsInAll_20 : decode cX0_shortsInAll 20 = .ok (.iadd, 1) := by decide +kernel
theorem dX0_shortsInAll_21 : decode cX0_shortsInAll 21 = .ok (.istore_n 1, 1) := by decide +kernel
theorem dX0_shortsInAll_22 : decode cX0_shortsInAll 22 = .ok (.iinc 2 1, 3) := by decide +kernel
theorem dX0_shortsInAll_25 : decode cX0_shortsInAll 25 = .ok (.goto (-21), 3) := by decide +kernel
theorem dX0_shortsInAll_28 : decode cX0_shortsInAll 28 = .ok (.iload_n 1, 1) := by decide +kernel
theorem dX0_shortsInAll_29 : decode cX0_shortsInAll 29 = .ok (.ireturn, 1) := by decide +kernel
theorem dX0_everShort_0 : decode cX0_everShort 0 = .ok (.iconst 0, 1) := by decide +kernel
theorem dX0_everShort_1 : decode cX0_everShort 1 = .ok (.istore_n 1, 1) := by decide +kernel
theorem dX0_everShort_2 : decode cX0_everShort 2 = .ok (.iconst 0, 1) := by decide +kernel
theorem dX0_everShort_3 : decode cX0_everShort 3 = .ok (.istore_n 2, 1) := by decide +kernel
theorem dX0_everShort_4 : decode cX0_everShort 4 = .ok (.iload_n 2, 1) := by decide +kernel
theorem dX0_everShort_5 : decode cX0_everShort 5 = .ok (.bipush 40, 2) := by decide +kernel
theorem dX0_everShort_7 : decode cX0_everShort 7 = .ok (.if_icmp .ge 18, 3) := by decide +kernel
theorem dX0_everShort_10 : decode cX0_everShort 10 = .ok (.iload_n 1, 1) := by decide +kernel
theorem dX0_everShort_11 : decode cX0_everShort 11 = .ok (.aload_n 0, 1) := by decide +kernel
theorem dX0_everShort_12 : decode cX0_everShort 12 = .ok (.getfield 21, 3) := by decide +kernel
theorem dX0_everShort_15 : decode cX0_everShort 15 = .ok (.iload_n 2, 1) := by decide +kernel
theorem dX0_everShort_16 : decode cX0_everShort 16 = .ok (.iaload, 1) := by decide +kernel
theorem dX0_everShort_17 : decode cX0_everShort 17 = .ok (.ior, 1) := by decide +kernel
theorem dX0_everShort_18 : decode cX0_everShort 18 = .ok (.istore_n 1, 1) := by decide +kernel
theorem dX0_everShort_19 : decode cX0_everShort 19 = .ok (.iinc 2 1, 3) := by decide +kernel
theorem dX0_everShort_22 : decode cX0_everShort 22 = .ok (.goto (-18), 3) := by decide +kernel
theorem dX0_everShort_25 : decode cX0_everShort 25 = .ok (.iload_n 1, 1) := by decide +kernel
theorem dX0_everShort_26 : decode cX0_everShort 26 = .ok (.ireturn, 1) := by decide +kernel
theorem dX1_init_0 : decode cX1_init 0 = .ok (.aload_n 0, 1) := by decide +kernel
theorem dX1_init_1 : decode cX1_init 1 = .ok (.invokespecial 3, 3) := by decide +kernel
theorem dX1_init_4 : decode cX1_init 4 = .ok (.aload_n 0, 1) := by decide +kernel
theorem dX1_init_5 : decode cX1_init 5 = .ok (.iconst 4, 1) := by decide +kernel
theorem dX1_init_6 : decode cX1_init 6 = .ok (.newarray .int, 2) := by decide +kernel
theorem dX1_init_8 : decode cX1_init 8 = .ok (.putfield 9, 3) := by decide +kernel
theorem dX1_init_11 : decode cX1_init 11 = .ok (.aload_n 0, 1) := by decide +kernel
theorem dX1_init_12 : decode cX1_init 12 = .ok (.iconst 4, 1) := by decide +kernel
theorem dX1_init_13 : decode cX1_init 13 = .ok (.newarray .int, 2) := by decide +kernel
theorem dX1_init_15 : decode cX1_init 15 = .ok (.putfield 15, 3) := by decide +kernel
theorem dX1_init_18 : decode cX1_init 18 = .ok (.aload_n 0, 1) := by decide +kernel
theorem dX1_init_19 : decode cX1_init 19 = .ok (.sipush 240, 3) := by decide +kernel
theorem dX1_init_22 : decode cX1_init 22 = .ok (.newarray .int, 2) := by decide +kernel
theorem dX1_init_24 : decode cX1_init 24 = .ok (.putfield 18, 3) := by decide +kernel
theorem dX1_init_27 : decode cX1_init 27 = .ok (.iconst 0, 1) := by decide +kernel
theorem dX1_init_28 : decode cX1_init 28 = .ok (.istore_n 1, 1) := by decide +kernel
theorem dX1_init_29 : decode cX1_init 29 = .ok (.iload_n 1, 1) := by decide +kernel
theorem dX1_init_30 : decode cX1_init 30 = .ok (.iconst 4, 1) := by decide +kernel
theorem dX1_init_31 : decode cX1_init 31 = .ok (.if_icmp .ge 16, 3) := by decide +kernel
theorem dX1_init_34 : decode cX1_init 34 = .ok (.aload_n 0, 1) := by decide +kernel
theorem dX1_init_35 : decode cX1_init 35 = .ok (.getfield 9, 3) := by decide +kernel
theorem dX1_init_38 : decode cX1_init 38 = .ok (.iload_n 1, 1) := by decide +kernel
theorem dX1_init_39 : decode cX1_init 39 = .ok (.iconst (-1), 1) := by decide +kernel
theorem dX1_init_40 : decode cX1_init 40 = .ok (.iastore, 1) := by decide +kernel
theorem dX1_init_41 : decode cX1_init 41 = .ok (.iinc 1 1, 3) := by decide +kernel
theorem dX1_init_44 : decode cX1_init 44 = .ok (.goto (-15), 3) := by decide +kernel
theorem dX1_init_47 : decode cX1_init 47 = .ok (.return_, 1) := by decide +kernel
theorem dX1_isLost_0 : decode cX1_isLost 0 = .ok (.aload_n 0, 1) := by decide +kernel
theorem dX1_isLost_1 : decode cX1_isLost 1 = .ok (.getfield 9, 3) := by decide +kernel
theorem dX1_isLost_4 : decode cX1_isLost 4 = .ok (.iload_n 1, 1) := by decide +kernel
theorem dX1_isLost_5 : decode cX1_isLost 5 = .ok (.iaload, 1) := by decide +kernel
theorem dX1_isLost_6 : decode cX1_isLost 6 = .ok (.iconst (-1), 1) := by decide +kernel
theorem dX1_isLost_7 : decode cX1_isLost 7 = .ok (.if_icmp .ne 7, 3) := by decide +kernel
theorem dX1_isLost_10 : decode cX1_isLost 10 = .ok (.iconst 1, 1) := by decide +kernel
theorem dX1_isLost_11 : decode cX1_isLost 11 = .ok (.goto 4, 3) := by decide +kernel
theorem dX1_isLost_14 : decode cX1_isLost 14 = .ok (.iconst 0, 1) := by decide +kernel
theorem dX1_isLost_15 : decode cX1_isLost 15 = .ok (.ireturn, 1) := by decide +kernel
theorem dX1_renew_0 : decode cX1_renew 0 = .ok (.aload_n 0, 1) := by decide +kernel
theorem dX1_renew_1 : decode cX1_renew 1 = .ok (.getfield 9, 3) := by decide +kernel
theorem dX1_renew_4 : decode cX1_renew 4 = .ok (.iload_n 1, 1) := by decide +kernel
theorem dX1_renew_5 : decode cX1_renew 5 = .ok (.iload_n 2, 1) := by decide +kernel
theorem dX1_renew_6 : decode cX1_renew 6 = .ok (.iastore, 1) := by decide +kernel
theorem dX1_renew_7 : decode cX1_renew 7 = .ok (.aload_n 0, 1) := by decide +kernel
theorem dX1_renew_8 : decode cX1_renew 8 = .ok (.getfield 15, 3) := by decide +kernel
theorem dX1_renew_11 : decode cX1_renew 11 = .ok (.iload_n 1, 1) := by decide +kernel
theorem dX1_renew_12 : decode cX1_renew 12 = .ok (.iload_n 3, 1) := by decide +kernel
theorem dX1_renew_13 : decode cX1_renew 13 = .ok (.iastore, 1) := by decide +kernel
theorem dX1_renew_14 : decode cX1_renew 14 = .ok (.iconst 0, 1) := by decide +kernel
theorem dX1_renew_15 : decode cX1_renew 15 = .ok (.istore 4, 2) := by decide +kernel
theorem dX1_renew_17 : decode cX1_renew 17 = .ok (.iload 4, 2) := by decide +kernel
theorem dX1_renew_19 : decode cX1_renew 19 = .ok (.bipush 60, 2) := by decide +kernel
theorem dX1_renew_21 : decode cX1_renew 21 = .ok (.if_icmp .ge 22, 3) := by decide +kernel
theorem dX1_renew_24 : decode cX1_renew 24 = .ok (.aload_n 0, 1) := by decide +kernel
theorem dX1_renew_25 : decode cX1_renew 25 = .ok (.getfield 18, 3) := by decide +kernel
theorem dX1_renew_28 : decode cX1_renew 28 = .ok (.iload_n 1, 1) := by decide +kernel
theorem dX1_renew_29 : decode cX1_renew 29 = .ok (.bipush 60, 2) := by decide +kernel
theorem dX1_renew_31 : decode cX1_renew 31 = .ok (.imul, 1) := by decide +kernel
theorem dX1_renew_32 : decode cX1_renew 32 = .ok (.iload 4, 2) := by decide +kernel
theorem dX1_renew_34 : decode cX1_renew 34 = .ok (.iadd, 1) := by decide +kernel
theorem dX1_renew_35 : decode cX1_renew 35 = .ok (.iconst 0, 1) := by decide +kernel
theorem dX1_renew_36 : decode cX1_renew 36 = .ok (.iastore, 1) := by decide +kernel
theorem dX1_renew_37 : decode cX1_renew 37 = .ok (.iinc 4 1, 3) := by decide +kernel
theorem dX1_renew_40 : decode cX1_renew 40 = .ok (.goto (-23), 3) := by decide +kernel
theorem dX1_renew_43 : decode cX1_renew 43 = .ok (.return_, 1) := by decide +kernel
theorem dX1_drop_0 : decode cX1_drop 0 = .ok (.aload_n 0, 1) := by decide +kernel
theorem dX1_drop_1 : decode cX1_drop 1 = .ok (.getfield 9, 3) := by decide +kernel
theorem dX1_drop_4 : decode cX1_drop 4 = .ok (.iload_n 1, 1) := by decide +kernel
theorem dX1_drop_5 : decode cX1_drop 5 = .ok (.iconst (-1), 1) := by decide +kernel
theorem dX1_drop_6 : decode cX1_drop 6 = .ok (.iastore, 1) := by decide +kernel
theorem dX1_drop_7 : decode cX1_drop 7 = .ok (.aload_n 0, 1) := by decide +kernel
theorem dX1_drop_8 : decode cX1_drop 8 = .ok (.getfield 15, 3) := by decide +kernel
theorem dX1_drop_11 : decode cX1_drop 11 = .ok (.iload_n 1, 1) := by decide +kernel
theorem dX1_drop_12 : decode cX1_drop 12 = .ok (.iconst 0, 1) := by decide +kernel
theorem dX1_drop_13 : decode cX1_drop 13 = .ok (.iastore, 1) := by decide +kernel
theorem dX1_drop_14 : decode cX1_drop 14 = .ok (.return_, 1) := by decide +kernel
theorem dX1_has_0 : decode cX1_has 0 = .ok (.iload_n 2, 1) := by decide +kernel
theorem dX1_has_1 : decode cX1_has 1 = .ok (.ifCond .lt 23, 3) := by decide +kernel
theorem dX1_has_4 : decode cX1_has 4 = .ok (.iload_n 3, 1) := by decide +kernel
theorem dX1_has_5 : decode cX1_has 5 = .ok (.ifCond .lt 19, 3) := by decide +kernel
theorem dX1_has_8 : decode cX1_has 8 = .ok (.iload_n 2, 1) := by decide +kernel
theorem dX1_has_9 : decode cX1_has 9 = .ok (.aload_n 0, 1) := by decide +kernel
theorem dX1_has_10 : decode cX1_has 10 = .ok (.getfield 15, 3) := by decide +kernel
theorem dX1_has_13 : decode cX1_has 13 = .ok (.iload_n 1, 1) := by decide +kernel
theorem dX1_has_14 : decode cX1_has 14 = .ok (.iaload, 1) := by decide +kernel
theorem dX1_has_15 : decode cX1_has 15 = .ok (.iload_n 3, 1) := by decide +kernel
theorem dX1_has_16 : decode cX1_has 16 = .ok (.isub, 1) := by decide +kernel
theorem dX1_has_17 : decode cX1_has 17 = .ok (.if_icmp .gt 7, 3) := by decide +kernel
theorem dX1_has_20 : decode cX1_has 20 = .ok (.iconst 1, 1) := by decide +kernel
theorem dX1_has_21 : decode cX1_has 21 = .ok (.goto 4, 3) := by decide +kernel
theorem dX1_has_24 : decode cX1_has 24 = .ok (.iconst 0, 1) := by decide +kernel
theorem dX1_has_25 : decode cX1_has 25 = .ok (.ireturn, 1) := by decide +kernel
theorem dX1_item_0 : decode cX1_item 0 = .ok (.aload_n 0, 1) := by decide +kernel
theorem dX1_item_1 : decode cX1_item 1 = .ok (.iload_n 1, 1) := by decide +kernel
theorem dX1_item_2 : decode cX1_item 2 = .ok (.iload_n 2, 1) := by decide +kernel
theorem dX1_item_3 : decode cX1_item 3 = .ok (.iconst 1, 1) := by decide +kernel
theorem dX1_item_4 : decode cX1_item 4 = .ok (.invokevirtual 21, 3) := by decide +kernel
theorem dX1_item_7 : decode cX1_item 7 = .ok (.ifCond .eq 17, 3) := by decide +kernel
theorem dX1_item_10 : decode cX1_item 10 = .ok (.aload_n 0, 1) := by decide +kernel
theorem dX1_item_11 : decode cX1_item 11 = .ok (.getfield 18, 3) := by decide +kernel
theorem dX1_item_14 : decode cX1_item 14 = .ok (.iload_n 1, 1) := by decide +kernel
theorem dX1_item_15 : decode cX1_item 15 = .ok (.bipush 60, 2) := by decide +kernel
theorem dX1_item_17 : decode cX1_item 17 = .ok (.imul, 1) := by decide +kernel
theorem dX1_item_18 : decode cX1_item 18 = .ok (.iload_n 2, 1) := by decide +kernel
theorem dX1_item_19 : decode cX1_item 19 = .ok (.iadd, 1) := by decide +kernel
theorem dX1_item_20 : decode cX1_item 20 = .ok (.iaload, 1) := by decide +kernel
theorem dX1_item_21 : decode cX1_item 21 = .ok (.goto 4, 3) := by decide +kernel
theorem dX1_item_24 : decode cX1_item 24 = .ok (.iconst (-1), 1) := by decide +kernel
theorem dX1_item_25 : decode cX1_item 25 = .ok (.ireturn, 1) := by decide +kernel
theorem dX1_store_0 : decode cX1_store 0 = .ok (.aload_n 0, 1) := by decide +kernel
theorem dX1_store_1 : decode cX1_store 1 = .ok (.iload_n 1, 1) := by decide +kernel
theorem dX1_store_2 : decode cX1_store 2 = .ok (.iload_n 2, 1) := by decide +kernel
theorem dX1_store_3 : decode cX1_store 3 = .ok (.iconst 1, 1) := by decide +kernel
theorem dX1_store_4 : decode cX1_store 4 = .ok (.invokevirtual 21, 3) := by decide +kernel
theorem dX1_store_7 : decode cX1_store 7 = .ok (.ifCond .eq 44, 3) := by decide +kernel
theorem dX1_store_10 : decode cX1_store 10 = .ok (.aload_n 0, 1) := by decide +kernel
theorem dX1_store_11 : decode cX1_store 11 = .ok (.getfield 18, 3) := by decide +kernel
theorem dX1_store_14 : decode cX1_store 14 = .ok (.iload_n 1, 1) := by decide +kernel
theorem dX1_store_15 : decode cX1_store 15 = .ok (.bipush 60, 2) := by decide +kernel
theorem dX1_store_17 : decode cX1_store 17 = .ok (.imul, 1) := by decide +kernel
theorem dX1_store_18 : decode cX1_store 18 = .ok (.iload_n 2, 1) := by decide +kernel
theorem dX1_store_19 : decode cX1_store 19 = .ok (.iadd, 1) := by decide +kernel
theorem dX1_store_20 : decode cX1_store 20 = .ok (.aload_n 0, 1) := by decide +kernel
theorem dX1_store_21 : decode cX1_store 21 = .ok (.getfield 9, 3) := by decide +kernel
theorem dX1_store_24 : decode cX1_store 24 = .ok (.iload_n 1, 1) := by decide +kernel
theorem dX1_store_25 : decode cX1_store 25 = .ok (.iaload, 1) := by decide +kernel
theorem dX1_store_26 : decode cX1_store 26 = .ok (.ifCond .ne 8, 3) := by decide +kernel
theorem dX1_store_29 : decode cX1_store 29 = .ok (.iload_n 3, 1) := by decide +kernel
theorem dX1_store_30 : decode cX1_store 30 = .ok (.i2b, 1) := by decide +kernel
theorem dX1_store_31 : decode cX1_store 31 = .ok (.goto 19, 3) := by decide +kernel
theorem dX1_store_34 : decode cX1_store 34 = .ok (.aload_n 0, 1) := by decide +kernel
theorem dX1_store_35 : decode cX1_store 35 = .ok (.getfield 9, 3) := by decide +kernel
theorem dX1_store_38 : decode cX1_store 38 = .ok (.iload_n 1, 1) := by decide +kernel
theorem dX1_store_39 : decode cX1_store 39 = .ok (.iaload, 1) := by decide +kernel
theorem dX1_store_40 : decode cX1_store 40 = .ok (.iconst 1, 1) := by decide +kernel
theorem dX1_store_41 : decode cX1_store 41 = .ok (.if_icmp .ne 8, 3) := by decide +kernel
theorem dX1_store_44 : decode cX1_store 44 = .ok (.iload_n 3, 1) := by decide +kernel
theorem dX1_store_45 : decode cX1_store 45 = .ok (.i2s, 1) := by decide +kernel
theorem dX1_store_46 : decode cX1_store 46 = .ok (.goto 4, 3) := by decide +kernel
theorem dX1_store_49 : decode cX1_store 49 = .ok (.iload_n 3, 1) := by decide +kernel
theorem dX1_store_50 : decode cX1_store 50 = .ok (.iastore, 1) := by decide +kernel
theorem dX1_store_51 : decode cX1_store 51 = .ok (.return_, 1) := by decide +kernel
theorem dX1_move_0 : decode cX1_move 0 = .ok (.aload_n 0, 1) := by decide +kernel
theorem dX1_move_1 : decode cX1_move 1 = .ok (.getfield 18, 3) := by decide +kernel
theorem dX1_move_4 : decode cX1_move 4 = .ok (.iload_n 1, 1) := by decide +kernel
theorem dX1_move_5 : decode cX1_move 5 = .ok (.bipush 60, 2) := by decide +kernel
theorem dX1_move_7 : decode cX1_move 7 = .ok (.imul, 1) := by decide +kernel
theorem dX1_move_8 : decode cX1_move 8 = .ok (.iload_n 2, 1) := by decide +kernel
theorem dX1_move_9 : decode cX1_move 9 = .ok (.iadd, 1) := by decide +kernel
theorem dX1_move_10 : decode cX1_move 10 = .ok (.aload_n 0, 1) := by decide +kernel
theorem dX1_move_11 : decode cX1_move 11 = .ok (.getfield 18, 3) := by decide +kernel
theorem dX1_move_14 : decode cX1_move 14 = .ok (.iload_n 3, 1) := by decide +kernel
theorem dX1_move_15 : decode cX1_move 15 = .ok (.bipush 60, 2) := by decide +kernel
theorem dX1_move_17 : decode cX1_move 17 = .ok (.imul, 1) := by decide +kernel
theorem dX1_move_18 : decode cX1_move 18 = .ok (.iload 4, 2) := by decide +kernel
theorem dX1_move_20 : decode cX1_move 20 = .ok (.iadd, 1) := by decide +kernel
theorem dX1_move_21 : decode cX1_move 21 = .ok (.iload 5, 2) := by decide +kernel
theorem dX1_move_23 : decode cX1_move 23 = .ok (.invokestatic 25, 3) := by decide +kernel
theorem dX1_move_26 : decode cX1_move 26 = .ok (.return_, 1) := by decide +kernel
theorem dX2_init_0 : decode cX2_init 0 = .ok (.aload_n 0, 1) := by decide +kernel
theorem dX2_init_1 : decode cX2_init 1 = .ok (.invokespecial 3, 3) := by decide +kernel
theorem dX2_init_4 : decode cX2_init 4 = .ok (.aload_n 0, 1) := by decide +kernel
theorem dX2_init_5 : decode cX2_init 5 = .ok (.bipush 8, 2) := by decide +kernel
theorem dX2_init_7 : decode cX2_init 7 = .ok (.newarray .int, 2) := by decide +kernel
theorem dX2_init_9 : decode cX2_init 9 = .ok (.putfield 9, 3) := by decide +kernel
theorem dX2_init_12 : decode cX2_init 12 = .ok (.aload_n 0, 1) := by decide +kernel
theorem dX2_init_13 : decode cX2_init 13 = .ok (.bipush 8, 2) := by decide +kernel
theorem dX2_init_15 : decode cX2_init 15 = .ok (.newarray .int, 2) := by decide +kernel
theorem dX2_init_17 : decode cX2_init 17 = .ok (.putfield 15, 3) := by decide +kernel
theorem dX2_init_20 : decode cX2_init 20 = .ok (.aload_n 0, 1) := by decide +kernel
theorem dX2_init_21 : decode cX2_init 21 = .ok (.bipush 8, 2) := by decide +kernel
theorem dX2_init_23 : decode cX2_init 23 = .ok (.newarray .int, 2) := by decide +kernel
theorem dX2_init_25 : decode cX2_init 25 = .ok (.putfield 18, 3) := by decide +kernel
theorem dX2_init_28 : decode cX2_init 28 = .ok (.aload_n 0, 1) := by decide +kernel
theorem dX2_init_29 : decode cX2_init 29 = .ok (.bipush 8, 2) := by decide +kernel
theorem dX2_init_31 : decode cX2_init 31 = .ok (.newarray .int, 2) := by decide +kernel
theorem dX2_init_33 : decode cX2_init 33 = .ok (.putfield 21, 3) := by decide +kernel
theorem dX2_init_36 : decode cX2_init 36 = .ok (.aload_n 0, 1) := by decide +kernel
theorem dX2_init_37 : decode cX2_init 37 = .ok (.bipush 24, 2) := by decide +kernel
theorem dX2_init_39 : decode cX2_init 39 = .ok (.newarray .int, 2) := by decide +kernel
theorem dX2_init_41 : decode cX2_init 41 = .ok (.putfield 24, 3) := by decide +kernel
theorem dX2_init_44 : decode cX2_init 44 = .ok (.aload_n 0, 1) := by decide +kernel
theorem dX2_init_45 : decode cX2_init 45 = .ok (.sipush 320, 3) := by decide +kernel
theorem dX2_init_48 : decode cX2_init 48 = .ok (.newarray .int, 2) := by decide +kernel
theorem dX2_init_50 : decode cX2_init 50 = .ok (.putfield 27, 3) := by decide +kernel
theorem dX2_init_53 : decode cX2_init 53 = .ok (.return_, 1) := by decide +kernel
theorem dX2_readFrom_0 : decode cX2_readFrom 0 = .ok (.aload_n 0, 1) := by decide +kernel
theorem dX2_readFrom_1 : decode cX2_readFrom 1 = .ok (.iconst 0, 1) := by decide +kernel
theorem dX2_readFrom_2 : decode cX2_readFrom 2 = .ok (.putfield 30, 3) := by decide +kernel
theorem dX2_readFrom_5 : decode cX2_readFrom 5 = .ok (.aload_n 1, 1) := by decide +kernel
theorem dX2_readFrom_6 : decode cX2_readFrom 6 = .ok (.getfield 34, 3) := by decide +kernel
theorem dX2_readFrom_9 : decode cX2_readFrom 9 = .ok (.ifCond .ne 5, 3) := by decide +kernel
theorem dX2_readFrom_12 : decode cX2_readFrom 12 = .ok (.iconst (-1), 1) := by decide +kernel
theorem dX2_readFrom_13 : decode cX2_readFrom 13 = .ok (.ireturn, 1) := by decide +kernel
theorem dX2_readFrom_14 : decode cX2_readFrom 14 = .ok (.iconst 0, 1) := by decide +kernel
theorem dX2_readFrom_15 : decode cX2_readFrom 15 = .ok (.istore_n 2, 1) := by decide +kernel
theorem dX2_readFrom_16 : decode cX2_readFrom 16 = .ok (.iconst 0, 1) := by decide +kernel
theorem dX2_readFrom_17 : decode cX2_readFrom 17 = .ok (.istore_n 3, 1) := by decide +kernel
theorem dX2_readFrom_18 : decode cX2_readFrom 18 = .ok (.iconst 0, 1) := by decide +kernel
theorem dX2_readFrom_19 : decode cX2_readFrom 19 = .ok (.istore 4, 2) := by decide +kernel
theorem dX2_readFrom_21 : decode cX2_readFrom 21 = .ok (.iload 4, 2) := by decide +kernel
theorem dX2_readFrom_23 : decode cX2_readFrom 23 = .ok (.aload_n 1, 1) := by decide +kernel
theorem dX2_readFrom_24 : decode cX2_readFrom 24 = .ok (.getfield 34, 3) := by decide +kernel
theorem dX2_readFrom_27 : decode cX2_readFrom 27 = .ok (.if_icmp .ge 58, 3) := by decide +kernel
theorem dX2_readFrom_30 : decode cX2_readFrom 30 = .ok (.aload_n 1, 1) := by decide +kernel
theorem dX2_readFrom_31 : decode cX2_readFrom 31 = .ok (.getfield 39, 3) := by decide +kernel
theorem dX2_readFrom_34 : decode cX2_readFrom 34 = .ok (.iload 4, 2) := by decide +kernel
theorem dX2_readFrom_36 : decode cX2_readFrom 36 = .ok (.iaload, 1) := by decide +kernel
theorem dX2_readFrom_37 : decode cX2_readFrom 37 = .ok (.istore 5, 2) := by decide +kernel
theorem dX2_readFrom_39 : decode cX2_readFrom 39 = .ok (.iload 5, 2) := by decide +kernel
theorem dX2_readFrom_41 : decode cX2_readFrom 41 = .ok (.bipush 59, 2) := by decide +kernel
theorem dX2_readFrom_43 : decode cX2_readFrom 43 = .ok (.if_icmp .ne 16, 3) := by decide +kernel
theorem dX2_readFrom_46 : decode cX2_readFrom 46 = .ok (.iload_n 3, 1) := by decide +kernel
theorem dX2_readFrom_47 : decode cX2_readFrom 47 = .ok (.iconst 3, 1) := by decide +kernel
theorem dX2_readFrom_48 : decode cX2_readFrom 48 = .ok (.if_icmp .le 11, 3) := by decide +kernel
theorem dX2_readFrom_51 : decode cX2_readFrom 51 = .ok (.iinc 2 1, 3) := by decide +kernel
theorem dX2_readFrom_54 : decode cX2_readFrom 54 = .ok (.iconst 0, 1) := by decide +kernel
theorem dX2_readFrom_55 : decode cX2_readFrom 55 = .ok (.istore_n 3, 1) := by decide +kernel
theorem dX2_readFrom_56 : decode cX2_readFrom 56 = .ok (.goto 23, 3) := by decide +kernel
theorem dX2_readFrom_59 : decode cX2_readFrom 59 = .ok (.aload_n 0, 1) := by decide +kernel
theorem dX2_readFrom_60 : decode cX2_readFrom 60 = .ok (.iload_n 2, 1) := by decide +kernel
theorem dX2_readFrom_61 : decode cX2_readFrom 61 = .ok (.iload_n 3, 1) := by decide +kernel
theorem dX2_readFrom_62 : decode cX2_readFrom 62 = .ok (.iload 5, 2) := by decide +kernel
theorem dX2_readFrom_64 : decode cX2_readFrom 64 = .ok (.invokevirtual 42, 3) := by decide +kernel
theorem dX2_readFrom_67 : decode cX2_readFrom 67 = .ok (.ifCond .eq 9, 3) := by decide +kernel
theorem dX2_readFrom_70 : decode cX2_readFrom 70 = .ok (.iinc 3 1, 3) := by decide +kernel
theorem dX2_readFrom_73 : decode cX2_readFrom 73 = .ok (.goto 6, 3) := by decide +kernel
theorem dX2_readFrom_76 : decode cX2_readFrom 76 = .ok (.iload 4, 2) := by decide +kernel
theorem dX2_readFrom_78 : decode cX2_readFrom 78 = .ok (.ireturn, 1) := by decide +kernel
theorem dX2_readFrom_79 : decode cX2_readFrom 79 = .ok (.iinc 4 1, 3) := by decide +kernel
theorem dX2_readFrom_82 : decode cX2_readFrom 82 = .ok (.goto (-61), 3) := by decide +kernel
theorem dX2_readFrom_85 : decode cX2_readFrom 85 = .ok (.iload_n 3, 1) := by decide +kernel
theorem dX2_readFrom_86 : decode cX2_readFrom 86 = .ok (.iconst 3, 1) := by decide +kernel
theorem dX2_readFrom_87 : decode cX2_readFrom 87 = .ok (.if_icmp .gt 8, 3) := by decide +kernel
theorem dX2_readFrom_90 : decode cX2_readFrom 90 = .ok (.aload_n 1, 1) := by decide +kernel
theorem dX2_readFrom_91 : decode cX2_readFrom 91 = .ok (.getfield 34, 3) := by decide +kernel
theorem dX2_readFrom_94 : decode cX2_readFrom 94 = .ok (.ireturn, 1) := by decide +kernel
theorem dX2_readFrom_95 : decode cX2_readFrom 95 = .ok (.aload_n 0, 1) := by decide +kernel
theorem dX2_readFrom_96 : decode cX2_readFrom 96 = .ok (.iload_n 2, 1) := by decide +kernel
theorem dX2_readFrom_97 : decode cX2_readFrom 97 = .ok (.iconst 1, 1) := by decide +kernel
theorem dX2_readFrom_98 : decode cX2_readFrom 98 = .ok (.iadd, 1) := by decide +kernel
theorem dX2_readFrom_99 : decode cX2_readFrom 99 = .ok (.bipush 8, 2) := by decide +kernel
theorem dX2_readFrom_101 : decode cX2_readFrom 101 = .ok (.invokestatic 46, 3) := by decide +kernel
theorem dX2_readFrom_104 : decode cX2_readFrom 104 = .ok (.putfield 30, 3) := by decide +kernel
theorem dX2_readFrom_107 : decode cX2_readFrom 107 = .ok (.aload_n 0, 1) := by decide +kernel
theorem dX2_readFrom_108 : decode cX2_readFrom 108 = .ok (.invokevirtual 52, 3) := by decide +kernel
theorem dX2_readFrom_111 : decode cX2_readFrom 111 = .ok (.iconst (-1), 1) := by decide +kernel
theorem dX2_readFrom_112 : decode cX2_readFrom 112 = .ok (.ireturn, 1) := by decide +kernel
theorem dX2_takes_0 : decode cX2_takes 0 = .ok (.iload_n 1, 1) := by decide +kernel
theorem dX2_takes_1 : decode cX2_takes 1 = .ok (.iconst 0, 1) := by decide +kernel
theorem dX2_takes_2 : decode cX2_takes 2 = .ok (.bipush 7, 2) := by decide +kernel
theorem dX2_takes_4 : decode cX2_takes 4 = .ok (.invokestatic 55, 3) := by decide +kernel
theorem dX2_takes_7 : decode cX2_takes 7 = .ok (.ifCond .ne 5, 3) := by decide +kernel
theorem dX2_takes_10 : decode cX2_takes 10 = .ok (.iconst 0, 1) := by decide +kernel
theorem dX2_takes_11 : decode cX2_takes 11 = .ok (.ireturn, 1) := by decide +kernel
theorem dX2_takes_12 : decode cX2_takes 12 = .ok (.iload_n 2, 1) := by decide +kernel
theorem dX2_takes_13 : decode cX2_takes 13 = .ok (.tableswitch 115 0 2 #[27, 73, 94], 27) := by decide +kernel
theorem dX2_takes_40 : decode cX2_takes 40 = .ok (.aload_n 0, 1) := by decide +kernel
theorem dX2_takes_41 : decode cX2_takes 41 = .ok (.getfield 9, 3) := by decide +kernel
theorem dX2_takes_44 : decode cX2_takes 44 = .ok (.iload_n 1, 1) := by decide +kernel
theorem dX2_takes_45 : decode cX2_takes 45 = .ok (.iload_n 3, 1) := by decide +kernel
theorem dX2_takes_46 : decode cX2_takes 46 = .ok (.bipush 46, 2) := by decide +kernel
theorem dX2_takes_48 : decode cX2_takes 48 = .ok (.if_icmp .ne 7, 3) := by decide +kernel
theorem dX2_takes_51 : decode cX2_takes 51 = .ok (.iconst (-1), 1) := by decide +kernel
theorem dX2_takes_52 : decode cX2_takes 52 = .ok (.goto 7, 3) := by decide +kernel
theorem dX2_takes_55 : decode cX2_takes 55 = .ok (.iload_n 3, 1) := by decide +kernel
theorem dX2_takes_56 : decode cX2_takes 56 = .ok (.bipush 97, 2) := by decide +kernel
theorem dX2_takes_58 : decode cX2_takes 58 = .ok (.isub, 1) := by decide +kernel
theorem dX2_takes_59 : decode cX2_takes 59 = .ok (.iastore, 1) := by decide +kernel
theorem dX2_takes_60 : decode cX2_takes 60 = .ok (.iload_n 3, 1) := by decide +kernel
theorem dX2_takes_61 : decode cX2_takes 61 = .ok (.bipush 46, 2) := by decide +kernel
theorem dX2_takes_63 : decode cX2_takes 63 = .ok (.if_icmp .eq 17, 3) := by decide +kernel
theorem dX2_takes_66 : decode cX2_takes 66 = .ok (.iload_n 3, 1) := by decide +kernel
theorem dX2_takes_67 : decode cX2_takes 67 = .ok (.bipush 97, 2) := by decide +kernel
theorem dX2_takes_69 : decode cX2_takes 69 = .ok (.isub, 1) := by decide +kernel
theorem dX2_takes_70 : decode cX2_takes 70 = .ok (.iconst 0, 1) := by decide +kernel
theorem dX2_takes_71 : decode cX2_takes 71 = .ok (.iload_n 1, 1) := by decide +kernel
theorem dX2_takes_72 : decode cX2_takes 72 = .ok (.iconst 1, 1) := by decide +kernel
theorem dX2_takes_73 : decode cX2_takes 73 = .ok (.isub, 1) := by decide +kernel
theorem dX2_takes_74 : decode cX2_takes 74 = .ok (.invokestatic 55, 3) := by decide +kernel
theorem dX2_takes_77 : decode cX2_takes 77 = .ok (.ifCond .eq 7, 3) := by decide +kernel
theorem dX2_takes_80 : decode cX2_takes 80 = .ok (.iconst 1, 1) := by decide +kernel
theorem dX2_takes_81 : decode cX2_takes 81 = .ok (.goto 4, 3) := by decide +kernel
theorem dX2_takes_84 : decode cX2_takes 84 = .ok (.iconst 0, 1) := by decide +kernel
theorem dX2_takes_85 : decode cX2_takes 85 = .ok (.ireturn, 1) := by decide +kernel
theorem dX2_takes_86 : decode cX2_takes 86 = .ok (.aload_n 0, 1) := by decide +kernel
theorem dX2_takes_87 : decode cX2_takes 87 = .ok (.getfield 15, 3) := by decide +kernel
theorem dX2_takes_90 : decode cX2_takes 90 = .ok (.iload_n 1, 1) := by decide +kernel
theorem dX2_takes_91 : decode cX2_takes 91 = .ok (.iload_n 3, 1) := by decide +kernel
theorem dX2_takes_92 : decode cX2_takes 92 = .ok (.bipush 97, 2) := by decide +kernel
theorem dX2_takes_94 : decode cX2_takes 94 = .ok (.isub, 1) := by decide +kernel
theorem dX2_takes_95 : decode cX2_takes 95 = .ok (.iastore, 1) := by decide +kernel
theorem dX2_takes_96 : decode cX2_takes 96 = .ok (.iload_n 3, 1) := by decide +kernel
theorem dX2_takes_97 : decode cX2_takes 97 = .ok (.bipush 97, 2) := by decide +kernel
theorem dX2_takes_99 : decode cX2_takes 99 = .ok (.isub, 1) := by decide +kernel
theorem dX2_takes_100 : decode cX2_takes 100 = .ok (.iconst 0, 1) := by decide +kernel
theorem dX2_takes_101 : decode cX2_takes 101 = .ok (.bipush 6, 2) := by decide +kernel
theorem dX2_takes_103 : decode cX2_takes 103 = .ok (.invokestatic 55, 3) := by decide +kernel
theorem dX2_takes_106 : decode cX2_takes 106 = .ok (.ireturn, 1) := by decide +kernel
theorem dX2_takes_107 : decode cX2_takes 107 = .ok (.aload_n 0, 1) := by decide +kernel
theorem dX2_takes_108 : decode cX2_takes 108 = .ok (.getfield 18, 3) := by decide +kernel
theorem dX2_takes_111 : decode cX2_takes 111 = .ok (.iload_n 1, 1) := by decide +kernel
theorem dX2_takes_112 : decode cX2_takes 112 = .ok (.iload_n 3, 1) := by decide +kernel
theorem dX2_takes_113 : decode cX2_takes 113 = .ok (.bipush 48, 2) := by decide +kernel
theorem dX2_takes_115 : decode cX2_takes 115 = .ok (.isub, 1) := by decide +kernel
theorem dX2_takes_116 : decode cX2_takes 116 = .ok (.iastore, 1) := by decide +kernel
theorem dX2_takes_117 : decode cX2_takes 117 = .ok (.iload_n 3, 1) := by decide +kernel
theorem dX2_takes_118 : decode cX2_takes 118 = .ok (.bipush 48, 2) := by decide +kernel
theorem dX2_takes_120 : decode cX2_takes 120 = .ok (.isub, 1) := by decide +kernel
theorem dX2_takes_121 : decode cX2_takes 121 = .ok (.iconst 1, 1) := by decide +kernel
theorem dX2_takes_122 : decode cX2_takes 122 = .ok (.bipush 9, 2) := by decide +kernel
theorem dX2_takes_124 : decode cX2_takes 124 = .ok (.invokestatic 55, 3) := by decide +kernel
theorem dX2_takes_127 : decode cX2_takes 127 = .ok (.ireturn, 1) := by decide +kernel
theorem dX2_takes_128 : decode cX2_takes 128 = .ok (.aload_n 0, 1) := by decide +kernel
theorem dX2_takes_129 : decode cX2_takes 129 = .ok (.iload_n 1, 1) := by decide +kernel
theorem dX2_takes_130 : decode cX2_takes 130 = .ok (.iload_n 2, 1) := by decide +kernel
theorem dX2_takes_131 : decode cX2_takes 131 = .ok (.iconst 3, 1) := by decide +kernel
theorem dX2_takes_132 : decode cX2_takes 132 = .ok (.isub, 1) := by decide +kernel
theorem dX2_takes_133 : decode cX2_takes 133 = .ok (.iload_n 3, 1) := by decide +kernel
theorem dX2_takes_134 : decode cX2_takes 134 = .ok (.invokevirtual 58, 3) := by decide +kernel
theorem dX2_takes_137 : decode cX2_takes 137 = .ok (.ireturn, 1) := by decide +kernel
theorem dX2_takesLetter_0 : decode cX2_takesLetter 0 = .ok (.iload_n 3, 1) := by decide +kernel
theorem dX2_takesLetter_1 : decode cX2_takesLetter 1 = .ok (.bipush 115, 2) := by decide +kernel
theorem dX2_takesLetter_3 : decode cX2_takesLetter 3 = .ok (.if_icmp .ne 7, 3) := by decide +kernel
theorem dX2_takesLetter_6 : decode cX2_takesLetter 6 = .ok (.iconst 0, 1) := by decide +kernel
theorem dX2_takesLetter_7 : decode cX2_takesLetter 7 = .ok (.goto 24, 3) := by decide +kernel
theorem dX2_takesLetter_10 : decode cX2_takesLetter 10 = .ok (.iload_n 3, 1) := by decide +kernel
theorem dX2_takesLetter_11 : decode cX2_takesLetter 11 = .ok (.bipush 119, 2) := by decide +kernel
theorem dX2_takesLetter_13 : decode cX2_takesLetter 13 = .ok (.if_icmp .ne 7, 3) := by decide +kernel
theorem dX2_takesLetter_16 : decode cX2_takesLetter 16 = .ok (.iconst 1, 1) := by decide +kernel
theorem dX2_takesLetter_17 : decode cX2_takesLetter 17 = .ok (.goto 14, 3) := by decide +kernel
theorem dX2_takesLetter_20 : decode cX2_takesLetter 20 = .ok (.iload_n 3, 1) := by decide +kernel
theorem dX2_takesLetter_21 : decode cX2_takesLetter 21 = .ok (.bipush 114, 2) := by decide +kernel
theorem dX2_takesLetter_23 : decode cX2_takesLetter 23 = .ok (.if_icmp .ne 7, 3) := by decide +kernel
theorem dX2_takesLetter_26 : decode cX2_takesLetter 26 = .ok (.iconst 2, 1) := by decide +kernel
theorem dX2_takesLetter_27 : decode cX2_takesLetter 27 = .ok (.goto 4, 3) := by decide +kernel
theorem dX2_takesLetter_30 : decode cX2_takesLetter 30 = .ok (.iconst (-1), 1) := by decide +kernel
theorem dX2_takesLetter_31 : decode cX2_takesLetter 31 = .ok (.istore 4, 2) := by decide +kernel
theorem dX2_takesLetter_33 : decode cX2_takesLetter 33 = .ok (.iload 4, 2) := by decide +kernel
theorem dX2_takesLetter_35 : decode cX2_takesLetter 35 = .ok (.iconst (-1), 1) := by decide +kernel
theorem dX2_takesLetter_36 : decode cX2_takesLetter 36 = .ok (.if_icmp .eq 12, 3) := by decide +kernel
theorem dX2_takesLetter_39 : decode cX2_takesLetter 39 = .ok (.iload_n 2, 1) := by decide +kernel
theorem dX2_takesLetter_40 : decode cX2_takesLetter 40 = .ok (.iconst 0, 1) := by decide +kernel
theorem dX2_takesLetter_41 : decode cX2_takesLetter 41 = .ok (.iconst 2, 1) := by decide +kernel
theorem dX2_takesLetter_42 : decode cX2_takesLetter 42 = .ok (.invokestatic 55, 3) := by decide +kernel
theorem dX2_takesLetter_45 : decode cX2_takesLetter 45 = .ok (.ifCond .ne 5, 3) := by decide +kernel
theorem dX2_takesLetter_48 : decode cX2_takesLetter 48 = .ok (.iconst 0, 1) := by decide +kernel
theorem dX2_takesLetter_49 : decode cX2_takesLetter 49 = .ok (.ireturn, 1) := by decide +kernel
theorem dX2_takesLetter_50 : decode cX2_takesLetter 50 = .ok (.aload_n 0, 1) := by decide +kernel
theorem dX2_takesLetter_51 : decode cX2_takesLetter 51 = .ok (.getfield 24, 3) := by decide +kernel
theorem dX2_takesLetter_54 : decode cX2_takesLetter 54 = .ok (.iload_n 1, 1) := by decide +kernel
theorem dX2_takesLetter_55 : decode cX2_takesLetter 55 = .ok (.iconst 3, 1) := by decide +kernel
theorem dX2_takesLetter_56 : decode cX2_takesLetter 56 = .ok (.imul, 1) := by decide +kernel
theorem dX2_takesLetter_57 : decode cX2_takesLetter 57 = .ok (.iload_n 2, 1) := by decide +kernel
theorem dX2_takesLetter_58 : decode cX2_takesLetter 58 = .ok (.iadd, 1) := by decide +kernel
theorem dX2_takesLetter_59 : decode cX2_takesLetter 59 = .ok (.iload 4, 2) := by decide +kernel
theorem dX2_takesLetter_61 : decode cX2_takesLetter 61 = .ok (.iastore, 1) := by decide +kernel
theorem dX2_takesLetter_62 : decode cX2_takesLetter 62 = .ok (.aload_n 0, 1) := by decide +kernel
theorem dX2_takesLetter_63 : decode cX2_takesLetter 63 = .ok (.getfield 21, 3) := by decide +kernel
theorem dX2_takesLetter_66 : decode cX2_takesLetter 66 = .ok (.iload_n 1, 1) := by decide +kernel
theorem dX2_takesLetter_67 : decode cX2_takesLetter 67 = .ok (.iload_n 2, 1) := by decide +kernel
theorem dX2_takesLetter_68 : decode cX2_takesLetter 68 = .ok (.iconst 1, 1) := by decide +kernel
theorem dX2_takesLetter_69 : decode cX2_takesLetter 69 = .ok (.iadd, 1) := by decide +kernel
theorem dX2_takesLetter_70 : decode cX2_takesLetter 70 = .ok (.iastore, 1) := by decide +kernel
theorem dX2_takesLetter_71 : decode cX2_takesLetter 71 = .ok (.iconst 1, 1) := by decide +kernel
theorem dX2_takesLetter_72 : decode cX2_takesLetter 72 = .ok (.ireturn, 1) := by decide +kernel
theorem dX2_goRound_0 : decode cX2_goRound 0 = .ok (.iconst 0, 1) := by decide +kernel
theorem dX2_goRound_1 : decode cX2_goRound 1 = .ok (.istore_n 1, 1) := by decide +kernel
theorem dX2_goRound_2 : decode cX2_goRound 2 = .ok (.iload_n 1, 1) := by decide +kernel
theorem dX2_goRound_3 : decode cX2_goRound 3 = .ok (.aload_n 0, 1) := by decide +kernel
theorem dX2_goRound_4 : decode cX2_goRound 4 = .ok (.getfield 30, 3) := by decide +kernel
theorem dX2_goRound_7 : decode cX2_goRound 7 = .ok (.if_icmp .ge 57, 3) := by decide +kernel
theorem dX2_goRound_10 : decode cX2_goRound 10 = .ok (.iconst 1, 1) := by decide +kernel
theorem dX2_goRound_11 : decode cX2_goRound 11 = .ok (.aload_n 0, 1) := by decide +kernel
theorem dX2_goRound_12 : decode cX2_goRound 12 = .ok (.getfield 21, 3) := by decide +kernel
theorem dX2_goRound_15 : decode cX2_goRound 15 = .ok (.iload_n 1, 1) := by decide +kernel
theorem dX2_goRound_16 : decode cX2_goRound 16 = .ok (.iaload, 1) := by decide +kernel
theorem dX2_goRound_17 : decode cX2_goRound 17 = .ok (.invokestatic 61, 3) := by decide +kernel
theorem dX2_goRound_20 : decode cX2_goRound 20 = .ok (.istore_n 2, 1) := by decide +kernel
theorem dX2_goRound_21 : decode cX2_goRound 21 = .ok (.iconst 0, 1) := by decide +kernel
theorem dX2_goRound_22 : decode cX2_goRound 22 = .ok (.istore_n 3, 1) := by decide +kernel
theorem dX2_goRound_23 : decode cX2_goRound 23 = .ok (.iload_n 3, 1) := by decide +kernel
theorem dX2_goRound_24 : decode cX2_goRound 24 = .ok (.bipush 40, 2) := by decide +kernel
theorem dX2_goRound_26 : decode cX2_goRound 26 = .ok (.if_icmp .ge 32, 3) := by decide +kernel
theorem dX2_goRound_29 : decode cX2_goRound 29 = .ok (.aload_n 0, 1) := by decide +kernel
theorem dX2_goRound_30 : decode cX2_goRound 30 = .ok (.getfield 27, 3) := by decide +kernel
theorem dX2_goRound_33 : decode cX2_goRound 33 = .ok (.iload_n 3, 1) := by decide +kernel
theorem dX2_goRound_34 : decode cX2_goRound 34 = .ok (.bipush 8, 2) := by decide +kernel
theorem dX2_goRound_36 : decode cX2_goRound 36 = .ok (.imul, 1) := by decide +kernel
theorem dX2_goRound_37 : decode cX2_goRound 37 = .ok (.iload_n 1, 1) := by decide +kernel
theorem dX2_goRound_38 : decode cX2_goRound 38 = .ok (.iadd, 1) := by decide +kernel
theorem dX2_goRound_39 : decode cX2_goRound 39 = .ok (.aload_n 0, 1) := by decide +kernel
theorem dX2_goRound_40 : decode cX2_goRound 40 = .ok (.getfield 24, 3) := by decide +kernel
theorem dX2_goRound_43 : decode cX2_goRound 43 = .ok (.iload_n 1, 1) := by decide +kernel
theorem dX2_goRound_44 : decode cX2_goRound 44 = .ok (.iconst 3, 1) := by decide +kernel
theorem dX2_goRound_45 : decode cX2_goRound 45 = .ok (.imul, 1) := by decide +kernel
theorem dX2_goRound_46 : decode cX2_goRound 46 = .ok (.iload_n 3, 1) := by decide +kernel
theorem dX2_goRound_47 : decode cX2_goRound 47 = .ok (.iload_n 2, 1) := by decide +kernel
theorem dX2_goRound_48 : decode cX2_goRound 48 = .ok (.irem, 1) := by decide +kernel
theorem dX2_goRound_49 : decode cX2_goRound 49 = .ok (.iadd, 1) := by decide +kernel
theorem dX2_goRound_50 : decode cX2_goRound 50 = .ok (.iaload, 1) := by decide +kernel
theorem dX2_goRound_51 : decode cX2_goRound 51 = .ok (.iastore, 1) := by decide +kernel
theorem dX2_goRound_52 : decode cX2_goRound 52 = .ok (.iinc 3 1, 3) := by decide +kernel
theorem dX2_goRound_55 : decode cX2_goRound 55 = .ok (.goto (-32), 3) := by decide +kernel
theorem dX2_goRound_58 : decode cX2_goRound 58 = .ok (.iinc 1 1, 3) := by decide +kernel
theorem dX2_goRound_61 : decode cX2_goRound 61 = .ok (.goto (-59), 3) := by decide +kernel
theorem dX2_goRound_64 : decode cX2_goRound 64 = .ok (.return_, 1) := by decide +kernel
theorem dX2_letter_0 : decode cX2_letter 0 = .ok (.iload_n 2, 1) := by decide +kernel
theorem dX2_letter_1 : decode cX2_letter 1 = .ok (.iconst 0, 1) := by decide +kernel
theorem dX2_letter_2 : decode cX2_letter 2 = .ok (.aload_n 0, 1) := by decide +kernel
theorem dX2_letter_3 : decode cX2_letter 3 = .ok (.getfield 21, 3) := by decide +kernel
theorem dX2_letter_6 : decode cX2_letter 6 = .ok (.iload_n 1, 1) := by decide +kernel
theorem dX2_letter_7 : decode cX2_letter 7 = .ok (.iaload, 1) := by decide +kernel
theorem dX2_letter_8 : decode cX2_letter 8 = .ok (.iconst 1, 1) := by decide +kernel
theorem dX2_letter_9 : decode cX2_letter 9 = .ok (.isub, 1) := by decide +kernel
theorem dX2_letter_10 : decode cX2_letter 10 = .ok (.invokestatic 55, 3) := by decide +kernel
theorem dX2_letter_13 : decode cX2_letter 13 = .ok (.ifCond .eq 16, 3) := by decide +kernel
theorem dX2_letter_16 : decode cX2_letter 16 = .ok (.aload_n 0, 1) := by decide +kernel
theorem dX2_letter_17 : decode cX2_letter 17 = .ok (.getfield 24, 3) := by decide +kernel
theorem dX2_letter_20 : decode cX2_letter 20 = .ok (.iload_n 1, 1) := by decide +kernel
theorem dX2_letter_21 : decode cX2_letter 21 = .ok (.iconst 3, 1) := by decide +kernel
theorem dX2_letter_22 : decode cX2_letter 22 = .ok (.imul, 1) := by decide +kernel
theorem dX2_letter_23 : decode cX2_letter 23 = .ok (.iload_n 2, 1) := by decide +kernel
theorem dX2_letter_24 : decode cX2_letter 24 = .ok (.iadd, 1) := by decide +kernel
theorem dX2_letter_25 : decode cX2_letter 25 = .ok (.iaload, 1) := by decide +kernel
theorem dX2_letter_26 : decode cX2_letter 26 = .ok (.goto 4, 3) := by decide +kernel
theorem dX2_letter_29 : decode cX2_letter 29 = .ok (.iconst (-1), 1) := by decide +kernel
theorem dX2_letter_30 : decode cX2_letter 30 = .ok (.ireturn, 1) := by decide +kernel
theorem dX3_init_0 : decode cX3_init 0 = .ok (.aload_n 0, 1) := by decide +kernel
theorem dX3_init_1 : decode cX3_init 1 = .ok (.invokespecial 3, 3) := by decide +kernel
theorem dX3_init_4 : decode cX3_init 4 = .ok (.aload_n 0, 1) := by decide +kernel
theorem dX3_init_5 : decode cX3_init 5 = .ok (.bipush 55, 2) := by decide +kernel
theorem dX3_init_7 : decode cX3_init 7 = .ok (.newarray .int, 2) := by decide +kernel
theorem dX3_init_9 : decode cX3_init 9 = .ok (.putfield 9, 3) := by decide +kernel
theorem dX3_init_12 : decode cX3_init 12 = .ok (.aload_n 0, 1) := by decide +kernel
theorem dX3_init_13 : decode cX3_init 13 = .ok (.iconst (-1), 1) := by decide +kernel
theorem dX3_init_14 : decode cX3_init 14 = .ok (.putfield 15, 3) := by decide +kernel
theorem dX3_init_17 : decode cX3_init 17 = .ok (.aload_n 0, 1) := by decide +kernel
theorem dX3_init_18 : decode cX3_init 18 = .ok (.iload_n 1, 1) := by decide +kernel
theorem dX3_init_19 : decode cX3_init 19 = .ok (.bipush 55, 2) := by decide +kernel
theorem dX3_init_21 : decode cX3_init 21 = .ok (.invokestatic 19, 3) := by decide +kernel
theorem dX3_init_24 : decode cX3_init 24 = .ok (.putfield 25, 3) := by decide +kernel
theorem dX3_init_27 : decode cX3_init 27 = .ok (.return_, 1) := by decide +kernel
theorem dX3_isFull_0 : decode cX3_isFull 0 = .ok (.aload_n 0, 1) := by decide +kernel
theorem dX3_isFull_1 : decode cX3_isFull 1 = .ok (.getfield 28, 3) := by decide +kernel
theorem dX3_isFull_4 : decode cX3_isFull 4 = .ok (.aload_n 0, 1) := by decide +kernel
theorem dX3_isFull_5 : decode cX3_isFull 5 = .ok (.getfield 25, 3) := by decide +kernel
theorem dX3_isFull_8 : decode cX3_isFull 8 = .ok (.if_icmp .lt 7, 3) := by decide +kernel
theorem dX3_isFull_11 : decode cX3_isFull 11 = .ok (.iconst 1, 1) := by decide +kernel
theorem dX3_isFull_12 : decode cX3_isFull 12 = .ok (.goto 4, 3) := by decide +kernel
theorem dX3_isFull_15 : decode cX3_isFull 15 = .ok (.iconst 0, 1) := by decide +kernel
theorem dX3_isFull_16 : decode cX3_isFull 16 = .ok (.ireturn, 1) := by decide +kernel
theorem dX3_add_0 : decode cX3_add 0 = .ok (.aload_n 0, 1) := by decide +kernel
theorem dX3_add_1 : decode cX3_add 1 = .ok (.invokevirtual 31, 3) := by decide +kernel
theorem dX3_add_4 : decode cX3_add 4 = .ok (.ifCond .ne 23, 3) := by decide +kernel
theorem dX3_add_7 : decode cX3_add 7 = .ok (.aload_n 0, 1) := by decide +kernel
theorem dX3_add_8 : decode cX3_add 8 = .ok (.getfield 9, 3) := by decide +kernel
theorem dX3_add_11 : decode cX3_add 11 = .ok (.aload_n 0, 1) := by decide +kernel
theorem dX3_add_12 : decode cX3_add 12 = .ok (.getfield 28, 3) := by decide +kernel
theorem dX3_add_15 : decode cX3_add 15 = .ok (.iload_n 1, 1) := by decide +kernel
theorem dX3_add_16 : decode cX3_add 16 = .ok (.iastore, 1) := by decide +kernel
theorem dX3_add_17 : decode cX3_add 17 = .ok (.aload_n 0, 1) := by decide +kernel
theorem dX3_add_18 : decode cX3_add 18 = .ok (.dup, 1) := by decide +kernel
theorem dX3_add_19 : decode cX3_add 19 = .ok (.getfield 28, 3) := by decide +kernel
theorem dX3_add_22 : decode cX3_add 22 = .ok (.iconst 1, 1) := by decide +kernel
theorem dX3_add_23 : decode cX3_add 23 = .ok (.iadd, 1) := by decide +kernel
theorem dX3_add_24 : decode cX3_add 24 = .ok (.putfield 28, 3) := by decide +kernel
theorem dX3_add_27 : decode cX3_add 27 = .ok (.return_, 1) := by decide +kernel
theorem dX4_init_0 : decode cX4_init 0 = .ok (.aload_n 0, 1) := by decide +kernel
theorem dX4_init_1 : decode cX4_init 1 = .ok (.invokespecial 3, 3) := by decide +kernel
theorem dX4_init_4 : decode cX4_init 4 = .ok (.aload_n 0, 1) := by decide +kernel
theorem dX4_init_5 : decode cX4_init 5 = .ok (.new 9, 3) := by decide +kernel
theorem dX4_init_8 : decode cX4_init 8 = .ok (.dup, 1) := by decide +kernel
theorem dX4_init_9 : decode cX4_init 9 = .ok (.invokespecial 11, 3) := by decide +kernel
theorem dX4_init_12 : decode cX4_init 12 = .ok (.putfield 12, 3) := by decide +kernel
theorem dX4_init_15 : decode cX4_init 15 = .ok (.aload_n 0, 1) := by decide +kernel
theorem dX4_init_16 : decode cX4_init 16 = .ok (.bipush 40, 2) := by decide +kernel
theorem dX4_init_18 : decode cX4_init 18 = .ok (.newarray .int, 2) := by decide +kernel
theorem dX4_init_20 : decode cX4_init 20 = .ok (.putfield 18, 3) := by decide +kernel
theorem dX4_init_23 : decode cX4_init 23 = .ok (.aload_n 0, 1) := by decide +kernel
theorem dX4_init_24 : decode cX4_init 24 = .ok (.bipush 30, 2) := by decide +kernel
theorem dX4_init_26 : decode cX4_init 26 = .ok (.putfield 22, 3) := by decide +kernel
theorem dX4_init_29 : decode cX4_init 29 = .ok (.aload_n 0, 1) := by decide +kernel
theorem dX4_init_30 : decode cX4_init 30 = .ok (.bipush 60, 2) := by decide +kernel
theorem dX4_init_32 : decode cX4_init 32 = .ok (.putfield 26, 3) := by decide +kernel
theorem dX4_init_35 : decode cX4_init 35 = .ok (.aload_n 0, 1) := by decide +kernel
theorem dX4_init_36 : decode cX4_init 36 = .ok (.iconst 4, 1) := by decide +kernel
theorem dX4_init_37 : decode cX4_init 37 = .ok (.putfield 29, 3) := by decide +kernel
theorem dX4_init_40 : decode cX4_init 40 = .ok (.aload_n 0, 1) := by decide +kernel
theorem dX4_init_41 : decode cX4_init 41 = .ok (.bipush 6, 2) := by decide +kernel
theorem dX4_init_43 : decode cX4_init 43 = .ok (.newarray .int, 2) := by decide +kernel
theorem dX4_init_45 : decode cX4_init 45 = .ok (.putfield 32, 3) := by decide +kernel
theorem dX4_init_48 : decode cX4_init 48 = .ok (.aload_n 0, 1) := by decide +kernel
theorem dX4_init_49 : decode cX4_init 49 = .ok (.bipush 6, 2) := by decide +kernel
theorem dX4_init_51 : decode cX4_init 51 = .ok (.newarray .int, 2) := by decide +kernel
theorem dX4_init_53 : decode cX4_init 53 = .ok (.putfield 35, 3) := by decide +kernel
theorem dX4_init_56 : decode cX4_init 56 = .ok (.aload_n 0, 1) := by decide +kernel
theorem dX4_init_57 : decode cX4_init 57 = .ok (.bipush 6, 2) := by decide +kernel
theorem dX4_init_59 : decode cX4_init 59 = .ok (.newarray .int, 2) := by decide +kernel
theorem dX4_init_61 : decode cX4_init 61 = .ok (.putfield 38, 3) := by decide +kernel
theorem dX4_init_64 : decode cX4_init 64 = .ok (.aload_n 0, 1) := by decide +kernel
theorem dX4_init_65 : decode cX4_init 65 = .ok (.iconst (-1), 1) := by decide +kernel
theorem dX4_init_66 : decode cX4_init 66 = .ok (.putfield 41, 3) := by decide +kernel
theorem dX4_init_69 : decode cX4_init 69 = .ok (.aload_n 0, 1) := by decide +kernel
theorem dX4_init_70 : decode cX4_init 70 = .ok (.bipush 6, 2) := by decide +kernel
theorem dX4_init_72 : decode cX4_init 72 = .ok (.newarray .int, 2) := by decide +kernel
theorem dX4_init_74 : decode cX4_init 74 = .ok (.putfield 44, 3) := by decide +kernel
theorem dX4_init_77 : decode cX4_init 77 = .ok (.aload_n 0, 1) := by decide +kernel
theorem dX4_init_78 : decode cX4_init 78 = .ok (.bipush 6, 2) := by decide +kernel
theorem dX4_init_80 : decode cX4_init 80 = .ok (.newarray .int, 2) := by decide +kernel
theorem dX4_init_82 : decode cX4_init 82 = .ok (.putfield 47, 3) := by decide +kernel
theorem dX4_init_85 : decode cX4_init 85 = .ok (.aload_n 0, 1) := by decide +kernel
theorem dX4_init_86 : decode cX4_init 86 = .ok (.iconst (-1), 1) := by decide +kernel
theorem dX4_init_87 : decode cX4_init 87 = .ok (.putfield 50, 3) := by decide +kernel
theorem dX4_init_90 : decode cX4_init 90 = .ok (.aload_n 0, 1) := by decide +kernel
theorem dX4_init_91 : decode cX4_init 91 = .ok (.iconst (-1), 1) := by decide +kernel
theorem dX4_init_92 : decode cX4_init 92 = .ok (.putfield 53, 3) := by decide +kernel
theorem dX4_init_95 : decode cX4_init 95 = .ok (.iconst 0, 1) := by decide +kernel
theorem dX4_init_96 : decode cX4_init 96 = .ok (.istore_n 1, 1) := by decide +kernel
theorem dX4_init_97 : decode cX4_init 97 = .ok (.iload_n 1, 1) := by decide +kernel
theorem dX4_init_98 : decode cX4_init 98 = .ok (.bipush 40, 2) := by decide +kernel
theorem dX4_init_100 : decode cX4_init 100 = .ok (.if_icmp .ge 16, 3) := by decide +kernel
theorem dX4_init_103 : decode cX4_init 103 = .ok (.aload_n 0, 1) := by decide +kernel
theorem dX4_init_104 : decode cX4_init 104 = .ok (.getfield 18, 3) := by decide +kernel
theorem dX4_init_107 : decode cX4_init 107 = .ok (.iload_n 1, 1) := by decide +kernel
theorem dX4_init_108 : decode cX4_init 108 = .ok (.iconst 3, 1) := by decide +kernel
theorem dX4_init_109 : decode cX4_init 109 = .ok (.iastore, 1) := by decide +kernel
theorem dX4_init_110 : decode cX4_init 110 = .ok (.iinc 1 1, 3) := by decide +kernel
theorem dX4_init_113 : decode cX4_init 113 = .ok (.goto (-16), 3) := by decide +kernel
theorem dX4_init_116 : decode cX4_init 116 = .ok (.return_, 1) := by decide +kernel
theorem dX4_readElbows_0 : decode cX4_readElbows 0 = .ok (.iconst (-1), 1) := by decide +kernel
theorem dX4_readElbows_1 : decode cX4_readElbows 1 = .ok (.istore_n 2, 1) := by decide +kernel
theorem dX4_readElbows_2 : decode cX4_readElbows 2 = .ok (.iconst 0, 1) := by decide +kernel
theorem dX4_readElbows_3 : decode cX4_readElbows 3 = .ok (.istore_n 3, 1) := by decide +kernel
theorem dX4_readElbows_4 : decode cX4_readElbows 4 = .ok (.iload_n 3, 1) := by decide +kernel
theorem dX4_readElbows_5 : decode cX4_readElbows 5 = .ok (.aload_n 1, 1) := by decide +kernel
theorem dX4_readElbows_6 : decode cX4_readElbows 6 = .ok (.getfield 56, 3) := by decide +kernel
theorem dX4_readElbows_9 : decode cX4_readElbows 9 = .ok (.if_icmp .ge 32, 3) := by decide +kernel
theorem dX4_readElbows_12 : decode cX4_readElbows 12 = .ok (.iload_n 2, 1) := by decide +kernel
theorem dX4_readElbows_13 : decode cX4_readElbows 13 = .ok (.iconst (-1), 1) := by decide +kernel
theorem dX4_readElbows_14 : decode cX4_readElbows 14 = .ok (.if_icmp .ne 27, 3) := by decide +kernel
theorem dX4_readElbows_17 : decode cX4_readElbows 17 = .ok (.aload_n 1, 1) := by decide +kernel
theorem dX4_readElbows_18 : decode cX4_readElbows 18 = .ok (.getfield 61, 3) := by decide +kernel
theorem dX4_readElbows_21 : decode cX4_readElbows 21 = .ok (.iload_n 3, 1) := by decide +kernel
theorem dX4_readElbows_22 : decode cX4_readElbows 22 = .ok (.iaload, 1) := by decide +kernel
theorem dX4_readElbows_23 : decode cX4_readElbows 23 = .ok (.bipush 48, 2) := by decide +kernel
theorem dX4_readElbows_25 : decode cX4_readElbows 25 = .ok (.bipush 57, 2) := by decide +kernel
theorem dX4_readElbows_27 : decode cX4_readElbows 27 = .ok (.invokestatic 64, 3) := by decide +kernel
theorem dX4_readElbows_30 : decode cX4_readElbows 30 = .ok (.ifCond .ne 5, 3) := by decide +kernel
theorem dX4_readElbows_33 : decode cX4_readElbows 33 = .ok (.iload_n 3, 1) := by decide +kernel
theorem dX4_readElbows_34 : decode cX4_readElbows 34 = .ok (.istore_n 2, 1) := by decide +kernel
theorem dX4_readElbows_35 : decode cX4_readElbows 35 = .ok (.iinc 3 1, 3) := by decide +kernel
theorem dX4_readElbows_38 : decode cX4_readElbows 38 = .ok (.goto (-34), 3) := by decide +kernel
theorem dX4_readElbows_41 : decode cX4_readElbows 41 = .ok (.aload_n 0, 1) := by decide +kernel
theorem dX4_readElbows_42 : decode cX4_readElbows 42 = .ok (.iload_n 2, 1) := by decide +kernel
theorem dX4_readElbows_43 : decode cX4_readElbows 43 = .ok (.iconst (-1), 1) := by decide +kernel
theorem dX4_readElbows_44 : decode cX4_readElbows 44 = .ok (.if_icmp .ne 15, 3) := by decide +kernel
theorem dX4_readElbows_47 : decode cX4_readElbows 47 = .ok (.aload_n 1, 1) := by decide +kernel
theorem dX4_readElbows_48 : decode cX4_readElbows 48 = .ok (.getfield 56, 3) := by decide +kernel
theorem dX4_readElbows_51 : decode cX4_readElbows 51 = .ok (.bipush 40, 2) := by decide +kernel
theorem dX4_readElbows_53 : decode cX4_readElbows 53 = .ok (.invokestatic 68, 3) := by decide +kernel
theorem dX4_readElbows_56 : decode cX4_readElbows 56 = .ok (.goto 4, 3) := by decide +kernel
theorem dX4_readElbows_59 : decode cX4_readElbows 59 = .ok (.iconst 0, 1) := by decide +kernel
theorem dX4_readElbows_60 : decode cX4_readElbows 60 = .ok (.putfield 74, 3) := by decide +kernel
theorem dX4_readElbows_63 : decode cX4_readElbows 63 = .ok (.iconst 0, 1) := by decide +kernel
theorem dX4_readElbows_64 : decode cX4_readElbows 64 = .ok (.istore_n 3, 1) := by decide +kernel
theorem dX4_readElbows_65 : decode cX4_readElbows 65 = .ok (.iload_n 3, 1) := by decide +kernel
theorem dX4_readElbows_66 : decode cX4_readElbows 66 = .ok (.bipush 40, 2) := by decide +kernel
theorem dX4_readElbows_68 : decode cX4_readElbows 68 = .ok (.if_icmp .ge 36, 3) := by decide +kernel
theorem dX4_readElbows_71 : decode cX4_readElbows 71 = .ok (.aload_n 0, 1) := by decide +kernel
theorem dX4_readElbows_72 : decode cX4_readElbows 72 = .ok (.getfield 18, 3) := by decide +kernel
theorem dX4_readElbows_75 : decode cX4_readElbows 75 = .ok (.iload_n 3, 1) := by decide +kernel
theorem dX4_readElbows_76 : decode cX4_readElbows 76 = .ok (.iload_n 3, 1) := by decide +kernel
theorem dX4_readElbows_77 : decode cX4_readElbows 77 = .ok (.aload_n 0, 1) := by decide +kernel
theorem dX4_readElbows_78 : decode cX4_readElbows 78 = .ok (.getfield 74, 3) := by decide +kernel
theorem dX4_readElbows_81 : decode cX4_readElbows 81 = .ok (.if_icmp .ge 15, 3) := by decide +kernel
theorem dX4_readElbows_84 : decode cX4_readElbows 84 = .ok (.aload_n 1, 1) := by decide +kernel
theorem dX4_readElbows_85 : decode cX4_readElbows 85 = .ok (.getfield 61, 3) := by decide +kernel
theorem dX4_readElbows_88 : decode cX4_readElbows 88 = .ok (.iload_n 3, 1) := by decide +kernel
theorem dX4_readElbows_89 : decode cX4_readElbows 89 = .ok (.iaload, 1) := by decide +kernel
theorem dX4_readElbows_90 : decode cX4_readElbows 90 = .ok (.bipush 48, 2) := by decide +kernel
theorem dX4_readElbows_92 : decode cX4_readElbows 92 = .ok (.isub, 1) := by decide +kernel
theorem dX4_readElbows_93 : decode cX4_readElbows 93 = .ok (.goto 4, 3) := by decide +kernel
theorem dX4_readElbows_96 : decode cX4_readElbows 96 = .ok (.iconst 3, 1) := by decide +kernel
theorem dX4_readElbows_97 : decode cX4_readElbows 97 = .ok (.iastore, 1) := by decide +kernel
theorem dX4_readElbows_98 : decode cX4_readElbows 98 = .ok (.iinc 3 1, 3) := by decide +kernel
theorem dX4_readElbows_101 : decode cX4_readElbows 101 = .ok (.goto (-36), 3) := by decide +kernel
theorem dX4_readElbows_104 : decode cX4_readElbows 104 = .ok (.iload_n 2, 1) := by decide +kernel
theorem dX4_readElbows_105 : decode cX4_readElbows 105 = .ok (.ireturn, 1) := by decide +kernel
theorem dX4_addLeak_0 : decode cX4_addLeak 0 = .ok (.aload_n 0, 1) := by decide +kernel
theorem dX4_addLeak_1 : decode cX4_addLeak 1 = .ok (.getfield 77, 3) := by decide +kernel
theorem dX4_addLeak_4 : decode cX4_addLeak 4 = .ok (.bipush 6, 2) := by decide +kernel
theorem dX4_addLeak_6 : decode cX4_addLeak 6 = .ok (.if_icmp .ge 43, 3) := by decide +kernel
theorem dX4_addLeak_9 : decode cX4_addLeak 9 = .ok (.aload_n 0, 1) := by decide +kernel
theorem dX4_addLeak_10 : decode cX4_addLeak 10 = .ok (.getfield 32, 3) := by decide +kernel
theorem dX4_addLeak_13 : decode cX4_addLeak 13 = .ok (.aload_n 0, 1) := by decide +kernel
theorem dX4_addLeak_14 : decode cX4_addLeak 14 = .ok (.getfield 77, 3) := by decide +kernel
theorem dX4_addLeak_17 : decode cX4_addLeak 17 = .ok (.iload_n 1, 1) := by decide +kernel
theorem dX4_addLeak_18 : decode cX4_addLeak 18 = .ok (.iastore, 1) := by decide +kernel
theorem dX4_addLeak_19 : decode cX4_addLeak 19 = .ok (.aload_n 0, 1) := by decide +kernel
theorem dX4_addLeak_20 : decode cX4_addLeak 20 = .ok (.getfield 35, 3) := by decide +kernel
theorem dX4_addLeak_23 : decode cX4_addLeak 23 = .ok (.aload_n 0, 1) := by decide +kernel
theorem dX4_addLeak_24 : decode cX4_addLeak 24 = .ok (.getfield 77, 3) := by decide +kernel
theorem dX4_addLeak_27 : decode cX4_addLeak 27 = .ok (.iload_n 2, 1) := by decide +kernel
theorem dX4_addLeak_28 : decode cX4_addLeak 28 = .ok (.iastore, 1) := by decide +kernel
theorem dX4_addLeak_29 : decode cX4_addLeak 29 = .ok (.aload_n 0, 1) := by decide +kernel
theorem dX4_addLeak_30 : decode cX4_addLeak 30 = .ok (.getfield 38, 3) := by decide +kernel
theorem dX4_addLeak_33 : decode cX4_addLeak 33 = .ok (.aload_n 0, 1) := by decide +kernel
theorem dX4_addLeak_34 : decode cX4_addLeak 34 = .ok (.getfield 77, 3) := by decide +kernel
theorem dX4_addLeak_37 : decode cX4_addLeak 37 = .ok (.iload_n 3, 1) := by decide +kernel
theorem dX4_addLeak_38 : decode cX4_addLeak 38 = .ok (.iastore, 1) := by decide +kernel
theorem dX4_addLeak_39 : decode cX4_addLeak 39 = .ok (.aload_n 0, 1) := by decide +kernel
theorem dX4_addLeak_40 : decode cX4_addLeak 40 = .ok (.dup, 1) := by decide +kernel
theorem dX4_addLeak_41 : decode cX4_addLeak 41 = .ok (.getfield 77, 3) := by decide +kernel
theorem dX4_addLeak_44 : decode cX4_addLeak 44 = .ok (.iconst 1, 1) := by decide +kernel
theorem dX4_addLeak_45 : decode cX4_addLeak 45 = .ok (.iadd, 1) := by decide +kernel
theorem dX4_addLeak_46 : decode cX4_addLeak 46 = .ok (.putfield 77, 3) := by decide +kernel
theorem dX4_addLeak_49 : decode cX4_addLeak 49 = .ok (.return_, 1) := by decide +kernel
theorem dX4_addPinch_0 : decode cX4_addPinch 0 = .ok (.aload_n 0, 1) := by decide +kernel
theorem dX4_addPinch_1 : decode cX4_addPinch 1 = .ok (.getfield 80, 3) := by decide +kernel
theorem dX4_addPinch_4 : decode cX4_addPinch 4 = .ok (.bipush 6, 2) := by decide +kernel
theorem dX4_addPinch_6 : decode cX4_addPinch 6 = .ok (.if_icmp .ge 33, 3) := by decide +kernel
theorem dX4_addPinch_9 : decode cX4_addPinch 9 = .ok (.aload_n 0, 1) := by decide +kernel
theorem dX4_addPinch_10 : decode cX4_addPinch 10 = .ok (.getfield 44, 3) := by decide +kernel
theorem dX4_addPinch_13 : decode cX4_addPinch 13 = .ok (.aload_n 0, 1) := by decide +kernel
theorem dX4_addPinch_14 : decode cX4_addPinch 14 = .ok (.getfield 80, 3) := by decide +kernel
theorem dX4_addPinch_17 : decode cX4_addPinch 17 = .ok (.iload_n 1, 1) := by decide +kernel
theorem dX4_addPinch_18 : decode cX4_addPinch 18 = .ok (.iastore, 1) := by decide +kernel
theorem dX4_addPinch_19 : decode cX4_addPinch 19 = .ok (.aload_n 0, 1) := by decide +kernel
theorem dX4_addPinch_20 : decode cX4_addPinch 20 = .ok (.getfield 47, 3) := by decide +kernel
theorem dX4_addPinch_23 : decode cX4_addPinch 23 = .ok (.aload_n 0, 1) := by decide +kernel
theorem dX4_addPinch_24 : decode cX4_addPinch 24 = .ok (.getfield 80, 3) := by decide +kernel
theorem dX4_addPinch_27 : decode cX4_addPinch 27 = .ok (.iload_n 2, 1) := by decide +kernel
theorem dX4_addPinch_28 : decode cX4_addPinch 28 = .ok (.iastore, 1) := by decide +kernel
theorem dX4_addPinch_29 : decode cX4_addPinch 29 = .ok (.aload_n 0, 1) := by decide +kernel
theorem dX4_addPinch_30 : decode cX4_addPinch 30 = .ok (.dup, 1) := by decide +kernel
theorem dX4_addPinch_31 : decode cX4_addPinch 31 = .ok (.getfield 80, 3) := by decide +kernel
theorem dX4_addPinch_34 : decode cX4_addPinch 34 = .ok (.iconst 1, 1) := by decide +kernel
theorem dX4_addPinch_35 : decode cX4_addPinch 35 = .ok (.iadd, 1) := by decide +kernel
theorem dX4_addPinch_36 : decode cX4_addPinch 36 = .ok (.putfield 80, 3) := by decide +kernel
theorem dX4_addPinch_39 : decode cX4_addPinch 39 = .ok (.return_, 1) := by decide +kernel
theorem dX4_leaking_0 : decode cX4_leaking 0 = .ok (.iconst 0, 1) := by decide +kernel
theorem dX4_leaking_1 : decode cX4_leaking 1 = .ok (.istore_n 2, 1) := by decide +kernel
theorem dX4_leaking_2 : decode cX4_leaking 2 = .ok (.iconst 0, 1) := by decide +kernel
theorem dX4_leaking_3 : decode cX4_leaking 3 = .ok (.istore_n 3, 1) := by decide +kernel
theorem dX4_leaking_4 : decode cX4_leaking 4 = .ok (.iload_n 3, 1) := by decide +kernel
theorem dX4_leaking_5 : decode cX4_leaking 5 = .ok (.aload_n 0, 1) := by decide +kernel
theorem dX4_leaking_6 : decode cX4_leaking 6 = .ok (.getfield 77, 3) := by decide +kernel
theorem dX4_leaking_9 : decode cX4_leaking 9 = .ok (.if_icmp .ge 77, 3) := by decide +kernel
theorem dX4_leaking_12 : decode cX4_leaking 12 = .ok (.iload_n 1, 1) := by decide +kernel
theorem dX4_leaking_13 : decode cX4_leaking 13 = .ok (.aload_n 0, 1) := by decide +kernel
theorem dX4_leaking_14 : decode cX4_leaking 14 = .ok (.getfield 32, 3) := by decide +kernel
theorem dX4_leaking_17 : decode cX4_leaking 17 = .ok (.iload_n 3, 1) := by decide +kernel
theorem dX4_leaking_18 : decode cX4_leaking 18 = .ok (.iaload, 1) := by decide +kernel
theorem dX4_leaking_19 : decode cX4_leaking 19 = .ok (.if_icmp .lt 32, 3) := by decide +kernel
theorem dX4_leaking_22 : decode cX4_leaking 22 = .ok (.aload_n 0, 1) := by decide +kernel
theorem dX4_leaking_23 : decode cX4_leaking 23 = .ok (.getfield 38, 3) := by decide +kernel
theorem dX4_leaking_26 : decode cX4_leaking 26 = .ok (.iload_n 3, 1) := by decide +kernel
theorem dX4_leaking_27 : decode cX4_leaking 27 = .ok (.iaload, 1) := by decide +kernel
theorem dX4_leaking_28 : decode cX4_leaking 28 = .ok (.aload_n 0, 1) := by decide +kernel
theorem dX4_leaking_29 : decode cX4_leaking 29 = .ok (.getfield 32, 3) := by decide +kernel
theorem dX4_leaking_32 : decode cX4_leaking 32 = .ok (.iload_n 3, 1) := by decide +kernel
theorem dX4_leaking_33 : decode cX4_leaking 33 = .ok (.iaload, 1) := by decide +kernel
theorem dX4_leaking_34 : decode cX4_leaking 34 = .ok (.if_icmp .le 13, 3) := by decide +kernel
theorem dX4_leaking_37 : decode cX4_leaking 37 = .ok (.iload_n 1, 1) := by decide +kernel
theorem dX4_leaking_38 : decode cX4_leaking 38 = .ok (.aload_n 0, 1) := by decide +kernel
theorem dX4_leaking_39 : decode cX4_leaking 39 = .ok (.getfield 38, 3) := by decide +kernel
theorem dX4_leaking_42 : decode cX4_leaking 42 = .ok (.iload_n 3, 1) := by decide +kernel
theorem dX4_leaking_43 : decode cX4_leaking 43 = .ok (.iaload, 1) := by decide +kernel
theorem dX4_leaking_44 : decode cX4_leaking 44 = .ok (.if_icmp .ge 7, 3) := by decide +kernel
theorem dX4_leaking_47 : decode cX4_leaking 47 = .ok (.iconst 1, 1) := by decide +kernel
theorem dX4_leaking_48 : decode cX4_leaking 48 = .ok (.goto 4, 3) := by decide +kernel
theorem dX4_leaking_51 : decode cX4_leaking 51 = .ok (.iconst 0, 1) := by decide +kernel
theorem dX4_leaking_52 : decode cX4_leaking 52 = .ok (.istore 4, 2) := by decide +kernel
theorem dX4_leaking_54 : decode cX4_leaking 54 = .ok (.iload 4, 2) := by decide +kernel
theorem dX4_leaking_56 : decode cX4_leaking 56 = .ok (.ifCond .eq 24, 3) := by decide +kernel
theorem dX4_leaking_59 : decode cX4_leaking 59 = .ok (.aload_n 0, 1) := by decide +kernel
theorem dX4_leaking_60 : decode cX4_leaking 60 = .ok (.getfield 41, 3) := by decide +kernel
theorem dX4_leaking_63 : decode cX4_leaking 63 = .ok (.iload_n 3, 1) := by decide +kernel
theorem dX4_leaking_64 : decode cX4_leaking 64 = .ok (.ishr, 1) := by decide +kernel
theorem dX4_leaking_65 : decode cX4_leaking 65 = .ok (.iconst 1, 1) := by decide +kernel
theorem dX4_leaking_66 : decode cX4_leaking 66 = .ok (.iand, 1) := by decide +kernel
theorem dX4_leaking_67 : decode cX4_leaking 67 = .ok (.iconst 1, 1) := by decide +kernel
theorem dX4_leaking_68 : decode cX4_leaking 68 = .ok (.if_icmp .ne 12, 3) := by decide +kernel
theorem dX4_leaking_71 : decode cX4_leaking 71 = .ok (.iload_n 2, 1) := by decide +kernel
theorem dX4_leaking_72 : decode cX4_leaking 72 = .ok (.aload_n 0, 1) := by decide +kernel
theorem dX4_leaking_73 : decode cX4_leaking 73 = .ok (.getfield 35, 3) := by decide +kernel
theorem dX4_leaking_76 : decode cX4_leaking 76 = .ok (.iload_n 3, 1) := by decide +kernel
theorem dX4_leaking_77 : decode cX4_leaking 77 = .ok (.iaload, 1) := by decide +kernel
theorem dX4_leaking_78 : decode cX4_leaking 78 = .ok (.iadd, 1) := by decide +kernel
theorem dX4_leaking_79 : decode cX4_leaking 79 = .ok (.istore_n 2, 1) := by decide +kernel
theorem dX4_leaking_80 : decode cX4_leaking 80 = .ok (.iinc 3 1, 3) := by decide +kernel
theorem dX4_leaking_83 : decode cX4_leaking 83 = .ok (.goto (-79), 3) := by decide +kernel
theorem dX4_leaking_86 : decode cX4_leaking 86 = .ok (.iload_n 2, 1) := by decide +kernel
theorem dX4_leaking_87 : decode cX4_leaking 87 = .ok (.ireturn, 1) := by decide +kernel
theorem dX4_openPipes_0 : decode cX4_openPipes 0 = .ok (.iconst 0, 1) := by decide +kernel
theorem dX4_openPipes_1 : decode cX4_openPipes 1 = .ok (.istore_n 3, 1) := by decide +kernel
theorem dX4_openPipes_2 : decode cX4_openPipes 2 = .ok (.iload_n 3, 1) := by decide +kernel
theorem dX4_openPipes_3 : decode cX4_openPipes 3 = .ok (.bipush 8, 2) := by decide +kernel
theorem dX4_openPipes_5 : decode cX4_openPipes 5 = .ok (.if_icmp .ge 39, 3) := by decide +kernel
theorem dX4_openPipes_8 : decode cX4_openPipes 8 = .ok (.iload_n 3, 1) := by decide +kernel
theorem dX4_openPipes_9 : decode cX4_openPipes 9 = .ok (.aload_n 2, 1) := by decide +kernel
theorem dX4_openPipes_10 : decode cX4_openPipes 10 = .ok (.arraylength, 1) := by decide +kernel
theorem dX4_openPipes_11 : decode cX4_openPipes 11 = .ok (.if_icmp .ge 33, 3) := by decide +kernel
theorem dX4_openPipes_14 : decode cX4_openPipes 14 = .ok (.aload_n 2, 1) := by decide +kernel
theorem dX4_openPipes_15 : decode cX4_openPipes 15 = .ok (.iload_n 3, 1) := by decide +kernel
theorem dX4_openPipes_16 : decode cX4_openPipes 16 = .ok (.iload_n 3, 1) := by decide +kernel
theorem dX4_openPipes_17 : decode cX4_openPipes 17 = .ok (.aload_n 0, 1) := by decide +kernel
theorem dX4_openPipes_18 : decode cX4_openPipes 18 = .ok (.getfield 53, 3) := by decide +kernel
theorem dX4_openPipes_21 : decode cX4_openPipes 21 = .ok (.if_icmp .ne 7, 3) := by decide +kernel
theorem dX4_openPipes_24 : decode cX4_openPipes 24 = .ok (.iconst 0, 1) := by decide +kernel
theorem dX4_openPipes_25 : decode cX4_openPipes 25 = .ok (.goto 12, 3) := by decide +kernel
theorem dX4_openPipes_28 : decode cX4_openPipes 28 = .ok (.aload_n 0, 1) := by decide +kernel
theorem dX4_openPipes_29 : decode cX4_openPipes 29 = .ok (.getfield 12, 3) := by decide +kernel
theorem dX4_openPipes_32 : decode cX4_openPipes 32 = .ok (.getfield 83, 3) := by decide +kernel
theorem dX4_openPipes_35 : decode cX4_openPipes 35 = .ok (.iload_n 3, 1) := by decide +kernel
theorem dX4_openPipes_36 : decode cX4_openPipes 36 = .ok (.iaload, 1) := by decide +kernel
theorem dX4_openPipes_37 : decode cX4_openPipes 37 = .ok (.iastore, 1) := by decide +kernel
theorem dX4_openPipes_38 : decode cX4_openPipes 38 = .ok (.iinc 3 1, 3) := by decide +kernel
theorem dX4_openPipes_41 : decode cX4_openPipes 41 = .ok (.goto (-39), 3) := by decide +kernel
theorem dX4_openPipes_44 : decode cX4_openPipes 44 = .ok (.iconst 0, 1) := by decide +kernel
theorem dX4_openPipes_45 : decode cX4_openPipes 45 = .ok (.istore_n 3, 1) := by decide +kernel
theorem dX4_openPipes_46 : decode cX4_openPipes 46 = .ok (.iload_n 3, 1) := by decide +kernel
theorem dX4_openPipes_47 : decode cX4_openPipes 47 = .ok (.aload_n 0, 1) := by decide +kernel
theorem dX4_openPipes_48 : decode cX4_openPipes 48 = .ok (.getfield 80, 3) := by decide +kernel
theorem dX4_openPipes_51 : decode cX4_openPipes 51 = .ok (.if_icmp .ge 68, 3) := by decide +kernel
theorem dX4_openPipes_54 : decode cX4_openPipes 54 = .ok (.aload_n 0, 1) := by decide +kernel
theorem dX4_openPipes_55 : decode cX4_openPipes 55 = .ok (.getfield 47, 3) := by decide +kernel
theorem dX4_openPipes_58 : decode cX4_openPipes 58 = .ok (.iload_n 3, 1) := by decide +kernel
theorem dX4_openPipes_59 : decode cX4_openPipes 59 = .ok (.iaload, 1) := by decide +kernel
theorem dX4_openPipes_60 : decode cX4_openPipes 60 = .ok (.istore 4, 2) := by decide +kernel
theorem dX4_openPipes_62 : decode cX4_openPipes 62 = .ok (.aload_n 0, 1) := by decide +kernel
theorem dX4_openPipes_63 : decode cX4_openPipes 63 = .ok (.getfield 44, 3) := by decide +kernel
theorem dX4_openPipes_66 : decode cX4_openPipes 66 = .ok (.iload_n 3, 1) := by decide +kernel
theorem dX4_openPipes_67 : decode cX4_openPipes 67 = .ok (.iaload, 1) := by decide +kernel
theorem dX4_openPipes_68 : decode cX4_openPipes 68 = .ok (.iload_n 1, 1) := by decide +kernel
theorem dX4_openPipes_69 : decode cX4_openPipes 69 = .ok (.if_icmp .ne 19, 3) := by decide +kernel
theorem dX4_openPipes_72 : decode cX4_openPipes 72 = .ok (.aload_n 0, 1) := by decide +kernel
theorem dX4_openPipes_73 : decode cX4_openPipes 73 = .ok (.getfield 50, 3) := by decide +kernel
theorem dX4_openPipes_76 : decode cX4_openPipes 76 = .ok (.iload_n 3, 1) := by decide +kernel
theorem dX4_openPipes_77 : decode cX4_openPipes 77 = .ok (.ishr, 1) := by decide +kernel
theorem dX4_openPipes_78 : decode cX4_openPipes 78 = .ok (.iconst 1, 1) := by decide +kernel
theorem dX4_openPipes_79 : decode cX4_openPipes 79 = .ok (.iand, 1) := by decide +kernel
theorem dX4_openPipes_80 : decode cX4_openPipes 80 = .ok (.iconst 1, 1) := by decide +kernel
theorem dX4_openPipes_81 : decode cX4_openPipes 81 = .ok (.if_icmp .ne 7, 3) := by decide +kernel
theorem dX4_openPipes_84 : decode cX4_openPipes 84 = .ok (.iconst 1, 1) := by decide +kernel
theorem dX4_openPipes_85 : decode cX4_openPipes 85 = .ok (.goto 4, 3) := by decide +kernel
theorem dX4_openPipes_88 : decode cX4_openPipes 88 = .ok (.iconst 0, 1) := by decide +kernel
theorem dX4_openPipes_89 : decode cX4_openPipes 89 = .ok (.istore 5, 2) := by decide +kernel
theorem dX4_openPipes_91 : decode cX4_openPipes 91 = .ok (.iload 5, 2) := by decide +kernel
theorem dX4_openPipes_93 : decode cX4_openPipes 93 = .ok (.ifCond .eq 20, 3) := by decide +kernel
theorem dX4_openPipes_96 : decode cX4_openPipes 96 = .ok (.iload 4, 2) := by decide +kernel
theorem dX4_openPipes_98 : decode cX4_openPipes 98 = .ok (.ifCond .lt 15, 3) := by decide +kernel
theorem dX4_openPipes_101 : decode cX4_openPipes 101 = .ok (.iload 4, 2) := by decide +kernel
theorem dX4_openPipes_103 : decode cX4_openPipes 103 = .ok (.aload_n 2, 1) := by decide +kernel
theorem dX4_openPipes_104 : decode cX4_openPipes 104 = .ok (.arraylength, 1) := by decide +kernel
theorem dX4_openPipes_105 : decode cX4_openPipes 105 = .ok (.if_icmp .ge 8, 3) := by decide +kernel
theorem dX4_openPipes_108 : decode cX4_openPipes 108 = .ok (.aload_n 2, 1) := by decide +kernel
theorem dX4_openPipes_109 : decode cX4_openPipes 109 = .ok (.iload 4, 2) := by decide +kernel
theorem dX4_openPipes_111 : decode cX4_openPipes 111 = .ok (.iconst 0, 1) := by decide +kernel
theorem dX4_openPipes_112 : decode cX4_openPipes 112 = .ok (.iastore, 1) := by decide +kernel
theorem dX4_openPipes_113 : decode cX4_openPipes 113 = .ok (.iinc 3 1, 3) := by decide +kernel
theorem dX4_openPipes_116 : decode cX4_openPipes 116 = .ok (.goto (-70), 3) := by decide +kernel
theorem dX4_openPipes_119 : decode cX4_openPipes 119 = .ok (.return_, 1) := by decide +kernel
theorem dJ6_numberOfLeadingZeros_0f7a4_0 : decode cJ6_numberOfLeadingZeros_0f7a4 0 = .ok (.iload_n 0, 1) := by decide +kernel
theorem dJ6_numberOfLeadingZeros_0f7a4_1 : decode cJ6_numberOfLeadingZeros_0f7a4 1 = .ok (.ifCond .gt 14, 3) := by decide +kernel
theorem dJ6_numberOfLeadingZeros_0f7a4_4 : decode cJ6_numberOfLeadingZeros_0f7a4 4 = .ok (.iload_n 0, 1) := by decide +kernel
theorem dJ6_numberOfLeadingZeros_0f7a4_5 : decode cJ6_numberOfLeadingZeros_0f7a4 5 = .ok (.ifCond .ne 8, 3) := by decide +kernel
theorem dJ6_numberOfLeadingZeros_0f7a4_8 : decode cJ6_numberOfLeadingZeros_0f7a4 8 = .ok (.bipush 32, 2) := by decide +kernel
theorem dJ6_numberOfLeadingZeros_0f7a4_10 : decode cJ6_numberOfLeadingZeros_0f7a4 10 = .ok (.goto 4, 3) := by decide +kernel
theorem dJ6_numberOfLeadingZeros_0f7a4_13 : decode cJ6_numberOfLeadingZeros_0f7a4 13 = .ok (.iconst 0, 1) := by decide +kernel
theorem dJ6_numberOfLeadingZeros_0f7a4_14 : decode cJ6_numberOfLeadingZeros_0f7a4 14 = .ok (.ireturn, 1) := by decide +kernel
theorem dJ6_numberOfLeadingZeros_0f7a4_15 : decode cJ6_numberOfLeadingZeros_0f7a4 15 = .ok (.bipush 31, 2) := by decide +kernel
theorem dJ6_numberOfLeadingZeros_0f7a4_17 : decode cJ6_numberOfLeadingZeros_0f7a4 17 = .ok (.istore_n 1, 1) := by decide +kernel
theorem dJ6_numberOfLeadingZeros_0f7a4_18 : decode cJ6_numberOfLeadingZeros_0f7a4 18 = .ok (.iload_n 0, 1) := by decide +kernel
theorem dJ6_numberOfLeadingZeros_0f7a4_19 : decode cJ6_numberOfLeadingZeros_0f7a4 19 = .ok (.ldc_w 264, 3) := by decide +kernel
theorem dJ6_numberOfLeadingZeros_0f7a4_22 : decode cJ6_numberOfLeadingZeros_0f7a4 22 = .ok (.if_icmp .lt 11, 3) := by decide +kernel
theorem dJ6_numberOfLeadingZeros_0f7a4_25 : decode cJ6_numberOfLeadingZeros_0f7a4 25 = .ok (.iinc 1 (-16), 3) := by decide +kernel
theorem dJ6_numberOfLeadingZeros_0f7a4_28 : decode cJ6_numberOfLeadingZeros_0f7a4 28 = .ok (.iload_n 0, 1) := by decide +kernel
theorem dJ6_numberOfLeadingZeros_0f7a4_29 : decode cJ6_numberOfLeadingZeros_0f7a4 29 = .ok (.bipush 16, 2) := by decide +kernel
theorem dJ6_numberOfLeadingZeros_0f7a4_31 : decode cJ6_numberOfLeadingZeros_0f7a4 31 = .ok (.iushr, 1) := by decide +kernel
theorem dJ6_numberOfLeadingZeros_0f7a4_32 : decode cJ6_numberOfLeadingZeros_0f7a4 32 = .ok (.istore_n 0, 1) := by decide +kernel
theorem dJ6_numberOfLeadingZeros_0f7a4_33 : decode cJ6_numberOfLeadingZeros_0f7a4 33 = .ok (.iload_n 0, 1) := by decide +kernel
theorem dJ6_numberOfLeadingZeros_0f7a4_34 : decode cJ6_numberOfLeadingZeros_0f7a4 34 = .ok (.sipush 256, 3) := by decide +kernel
theorem dJ6_numberOfLeadingZeros_0f7a4_37 : decode cJ6_numberOfLeadingZeros_0f7a4 37 = .ok (.if_icmp .lt 11, 3) := by decide +kernel
theorem dJ6_numberOfLeadingZeros_0f7a4_40 : decode cJ6_numberOfLeadingZeros_0f7a4 40 = .ok (.iinc 1 (-8), 3) := by decide +kernel
theorem dJ6_numberOfLeadingZeros_0f7a4_43 : decode cJ6_numberOfLeadingZeros_0f7a4 43 = .ok (.iload_n 0, 1) := by decide +kernel
theorem dJ6_numberOfLeadingZeros_0f7a4_44 : decode cJ6_numberOfLeadingZeros_0f7a4 44 = .ok (.bipush 8, 2) := by decide +kernel
theorem dJ6_numberOfLeadingZeros_0f7a4_46 : decode cJ6_numberOfLeadingZeros_0f7a4 46 = .ok (.iushr, 1) := by decide +kernel
theorem dJ6_numberOfLeadingZeros_0f7a4_47 : decode cJ6_numberOfLeadingZeros_0f7a4 47 = .ok (.istore_n 0, 1) := by decide +kernel
theorem dJ6_numberOfLeadingZeros_0f7a4_48 : decode cJ6_numberOfLeadingZeros_0f7a4 48 = .ok (.iload_n 0, 1) := by decide +kernel
theorem dJ6_numberOfLeadingZeros_0f7a4_49 : decode cJ6_numberOfLeadingZeros_0f7a4 49 = .ok (.bipush 16, 2) := by decide +kernel
theorem dJ6_numberOfLeadingZeros_0f7a4_51 : decode cJ6_numberOfLeadingZeros_0f7a4 51 = .ok (.if_icmp .lt 10, 3) := by decide +kernel
theorem dJ6_numberOfLeadingZeros_0f7a4_54 : decode cJ6_numberOfLeadingZeros_0f7a4 54 = .ok (.iinc 1 (-4), 3) := by decide +kernel
theorem dJ6_numberOfLeadingZeros_0f7a4_57 : decode cJ6_numberOfLeadingZeros_0f7a4 57 = .ok (.iload_n 0, 1) := by decide +kernel
theorem dJ6_numberOfLeadingZeros_0f7a4_58 : decode cJ6_numberOfLeadingZeros_0f7a4 58 = .ok (.iconst 4, 1) := by decide +kernel
theorem dJ6_numberOfLeadingZeros_0f7a4_59 : decode cJ6_numberOfLeadingZeros_0f7a4 59 = .ok (.iushr, 1) := by decide +kernel
theorem dJ6_numberOfLeadingZeros_0f7a4_60 : decode cJ6_numberOfLeadingZeros_0f7a4 60 = .ok (.istore_n 0, 1) := by decide +kernel
theorem dJ6_numberOfLeadingZeros_0f7a4_61 : decode cJ6_numberOfLeadingZeros_0f7a4 61 = .ok (.iload_n 0, 1) := by decide +kernel
theorem dJ6_numberOfLeadingZeros_0f7a4_62 : decode cJ6_numberOfLeadingZeros_0f7a4 62 = .ok (.iconst 4, 1) := by decide +kernel
theorem dJ6_numberOfLeadingZeros_0f7a4_63 : decode cJ6_numberOfLeadingZeros_0f7a4 63 = .ok (.if_icmp .lt 10, 3) := by decide +kernel
theorem dJ6_numberOfLeadingZeros_0f7a4_66 : decode cJ6_numberOfLeadingZeros_0f7a4 66 = .ok (.iinc 1 (-2), 3) := by decide +kernel
theorem dJ6_numberOfLeadingZeros_0f7a4_69 : decode cJ6_numberOfLeadingZeros_0f7a4 69 = .ok (.iload_n 0, 1) := by decide +kernel
theorem dJ6_numberOfLeadingZeros_0f7a4_70 : decode cJ6_numberOfLeadingZeros_0f7a4 70 = .ok (.iconst 2, 1) := by decide +kernel
theorem dJ6_numberOfLeadingZeros_0f7a4_71 : decode cJ6_numberOfLeadingZeros_0f7a4 71 = .ok (.iushr, 1) := by decide +kernel
theorem dJ6_numberOfLeadingZeros_0f7a4_72 : decode cJ6_numberOfLeadingZeros_0f7a4 72 = .ok (.istore_n 0, 1) := by decide +kernel
theorem dJ6_numberOfLeadingZeros_0f7a4_73 : decode cJ6_numberOfLeadingZeros_0f7a4 73 = .ok (.iload_n 1, 1) := by decide +kernel
theorem dJ6_numberOfLeadingZeros_0f7a4_74 : decode cJ6_numberOfLeadingZeros_0f7a4 74 = .ok (.iload_n 0, 1) := by decide +kernel
theorem dJ6_numberOfLeadingZeros_0f7a4_75 : decode cJ6_numberOfLeadingZeros_0f7a4 75 = .ok (.iconst 1, 1) := by decide +kernel
theorem dJ6_numberOfLeadingZeros_0f7a4_76 : decode cJ6_numberOfLeadingZeros_0f7a4 76 = .ok (.iushr, 1) := by decide +kernel
theorem dJ6_numberOfLeadingZeros_0f7a4_77 : decode cJ6_numberOfLeadingZeros_0f7a4 77 = .ok (.isub, 1) := by decide +kernel
theorem dJ6_numberOfLeadingZeros_0f7a4_78 : decode cJ6_numberOfLeadingZeros_0f7a4 78 = .ok (.ireturn, 1) := by decide +kernel
theorem dJ6_numberOfTrailingZeros_0f7a4_0 : decode cJ6_numberOfTrailingZeros_0f7a4 0 = .ok (.iload_n 0, 1) := by decide +kernel
theorem dJ6_numberOfTrailingZeros_0f7a4_1 : decode cJ6_numberOfTrailingZeros_0f7a4 1 = .ok (.iconst (-1), 1) := by decide +kernel
theorem dJ6_numberOfTrailingZeros_0f7a4_2 : decode cJ6_numberOfTrailingZeros_0f7a4 2 = .ok (.ixor, 1) := by decide +kernel
theorem dJ6_numberOfTrailingZeros_0f7a4_3 : decode cJ6_numberOfTrailingZeros_0f7a4 3 = .ok (.iload_n 0, 1) := by decide +kernel
theorem dJ6_numberOfTrailingZeros_0f7a4_4 : decode cJ6_numberOfTrailingZeros_0f7a4 4 = .ok (.iconst 1, 1) := by decide +kernel
theorem dJ6_numberOfTrailingZeros_0f7a4_5 : decode cJ6_numberOfTrailingZeros_0f7a4 5 = .ok (.isub, 1) := by decide +kernel
theorem dJ6_numberOfTrailingZeros_0f7a4_6 : decode cJ6_numberOfTrailingZeros_0f7a4 6 = .ok (.iand, 1) := by decide +kernel
theorem dJ6_numberOfTrailingZeros_0f7a4_7 : decode cJ6_numberOfTrailingZeros_0f7a4 7 = .ok (.istore_n 0, 1) := by decide +kernel
theorem dJ6_numberOfTrailingZeros_0f7a4_8 : decode cJ6_numberOfTrailingZeros_0f7a4 8 = .ok (.iload_n 0, 1) := by decide +kernel
theorem dJ6_numberOfTrailingZeros_0f7a4_9 : decode cJ6_numberOfTrailingZeros_0f7a4 9 = .ok (.ifCond .gt 8, 3) := by decide +kernel
theorem dJ6_numberOfTrailingZeros_0f7a4_12 : decode cJ6_numberOfTrailingZeros_0f7a4 12 = .ok (.iload_n 0, 1) := by decide +kernel
theorem dJ6_numberOfTrailingZeros_0f7a4_13 : decode cJ6_numberOfTrailingZeros_0f7a4 13 = .ok (.bipush 32, 2) := by decide +kernel
theorem dJ6_numberOfTrailingZeros_0f7a4_15 : decode cJ6_numberOfTrailingZeros_0f7a4 15 = .ok (.iand, 1) := by decide +kernel
theorem dJ6_numberOfTrailingZeros_0f7a4_16 : decode cJ6_numberOfTrailingZeros_0f7a4 16 = .ok (.ireturn, 1) := by decide +kernel
theorem dJ6_numberOfTrailingZeros_0f7a4_17 : decode cJ6_numberOfTrailingZeros_0f7a4 17 = .ok (.iconst 1, 1) := by decide +kernel
theorem dJ6_numberOfTrailingZeros_0f7a4_18 : decode cJ6_numberOfTrailingZeros_0f7a4 18 = .ok (.istore_n 1, 1) := by decide +kernel
theorem dJ6_numberOfTrailingZeros_0f7a4_19 : decode cJ6_numberOfTrailingZeros_0f7a4 19 = .ok (.iload_n 0, 1) := by decide +kernel
theorem dJ6_numberOfTrailingZeros_0f7a4_20 : decode cJ6_numberOfTrailingZeros_0f7a4 20 = .ok (.ldc_w 264, 3) := by decide +kernel
theorem dJ6_numberOfTrailingZeros_0f7a4_23 : decode cJ6_numberOfTrailingZeros_0f7a4 23 = .ok (.if_icmp .le 11, 3) := by decide +kernel
theorem dJ6_numberOfTrailingZeros_0f7a4_26 : decode cJ6_numberOfTrailingZeros_0f7a4 26 = .ok (.iinc 1 16, 3) := by decide +kernel
theorem dJ6_numberOfTrailingZeros_0f7a4_29 : decode cJ6_numberOfTrailingZeros_0f7a4 29 = .ok (.iload_n 0, 1) := by decide +kernel
theorem dJ6_numberOfTrailingZeros_0f7a4_30 : decode cJ6_numberOfTrailingZeros_0f7a4 30 = .ok (.bipush 16, 2) := by decide +kernel
theorem dJ6_numberOfTrailingZeros_0f7a4_32 : decode cJ6_numberOfTrailingZeros_0f7a4 32 = .ok (.iushr, 1) := by decide +kernel
theorem dJ6_numberOfTrailingZeros_0f7a4_33 : decode cJ6_numberOfTrailingZeros_0f7a4 33 = .ok (.istore_n 0, 1) := by decide +kernel
theorem dJ6_numberOfTrailingZeros_0f7a4_34 : decode cJ6_numberOfTrailingZeros_0f7a4 34 = .ok (.iload_n 0, 1) := by decide +kernel
theorem dJ6_numberOfTrailingZeros_0f7a4_35 : decode cJ6_numberOfTrailingZeros_0f7a4 35 = .ok (.sipush 256, 3) := by decide +kernel
theorem dJ6_numberOfTrailingZeros_0f7a4_38 : decode cJ6_numberOfTrailingZeros_0f7a4 38 = .ok (.if_icmp .le 11, 3) := by decide +kernel
theorem dJ6_numberOfTrailingZeros_0f7a4_41 : decode cJ6_numberOfTrailingZeros_0f7a4 41 = .ok (.iinc 1 8, 3) := by decide +kernel
theorem dJ6_numberOfTrailingZeros_0f7a4_44 : decode cJ6_numberOfTrailingZeros_0f7a4 44 = .ok (.iload_n 0, 1) := by decide +kernel
theorem dJ6_numberOfTrailingZeros_0f7a4_45 : decode cJ6_numberOfTrailingZeros_0f7a4 45 = .ok (.bipush 8, 2) := by decide +kernel
theorem dJ6_numberOfTrailingZeros_0f7a4_47 : decode cJ6_numberOfTrailingZeros_0f7a4 47 = .ok (.iushr, 1) := by decide +kernel
theorem dJ6_numberOfTrailingZeros_0f7a4_48 : decode cJ6_numberOfTrailingZeros_0f7a4 48 = .ok (.istore_n 0, 1) := by decide +kernel
theorem dJ6_numberOfTrailingZeros_0f7a4_49 : decode cJ6_numberOfTrailingZeros_0f7a4 49 = .ok (.iload_n 0, 1) := by decide +kernel
theorem dJ6_numberOfTrailingZeros_0f7a4_50 : decode cJ6_numberOfTrailingZeros_0f7a4 50 = .ok (.bipush 16, 2) := by decide +kernel
theorem dJ6_numberOfTrailingZeros_0f7a4_52 : decode cJ6_numberOfTrailingZeros_0f7a4 52 = .ok (.if_icmp .le 10, 3) := by decide +kernel
theorem dJ6_numberOfTrailingZeros_0f7a4_55 : decode cJ6_numberOfTrailingZeros_0f7a4 55 = .ok (.iinc 1 4, 3) := by decide +kernel
theorem dJ6_numberOfTrailingZeros_0f7a4_58 : decode cJ6_numberOfTrailingZeros_0f7a4 58 = .ok (.iload_n 0, 1) := by decide +kernel
theorem dJ6_numberOfTrailingZeros_0f7a4_59 : decode cJ6_numberOfTrailingZeros_0f7a4 59 = .ok (.iconst 4, 1) := by decide +kernel
theorem dJ6_numberOfTrailingZeros_0f7a4_60 : decode cJ6_numberOfTrailingZeros_0f7a4 60 = .ok (.iushr, 1) := by decide +kernel
theorem dJ6_numberOfTrailingZeros_0f7a4_61 : decode cJ6_numberOfTrailingZeros_0f7a4 61 = .ok (.istore_n 0, 1) := by decide +kernel
theorem dJ6_numberOfTrailingZeros_0f7a4_62 : decode cJ6_numberOfTrailingZeros_0f7a4 62 = .ok (.iload_n 0, 1) := by decide +kernel
theorem dJ6_numberOfTrailingZeros_0f7a4_63 : decode cJ6_numberOfTrailingZeros_0f7a4 63 = .ok (.iconst 4, 1) := by decide +kernel
theorem dJ6_numberOfTrailingZeros_0f7a4_64 : decode cJ6_numberOfTrailingZeros_0f7a4 64 = .ok (.if_icmp .le 10, 3) := by decide +kernel
theorem dJ6_numberOfTrailingZeros_0f7a4_67 : decode cJ6_numberOfTrailingZeros_0f7a4 67 = .ok (.iinc 1 2, 3) := by decide +kernel
theorem dJ6_numberOfTrailingZeros_0f7a4_70 : decode cJ6_numberOfTrailingZeros_0f7a4 70 = .ok (.iload_n 0, 1) := by decide +kernel
theorem dJ6_numberOfTrailingZeros_0f7a4_71 : decode cJ6_numberOfTrailingZeros_0f7a4 71 = .ok (.iconst 2, 1) := by decide +kernel
theorem dJ6_numberOfTrailingZeros_0f7a4_72 : decode cJ6_numberOfTrailingZeros_0f7a4 72 = .ok (.iushr, 1) := by decide +kernel
theorem dJ6_numberOfTrailingZeros_0f7a4_73 : decode cJ6_numberOfTrailingZeros_0f7a4 73 = .ok (.istore_n 0, 1) := by decide +kernel
theorem dJ6_numberOfTrailingZeros_0f7a4_74 : decode cJ6_numberOfTrailingZeros_0f7a4 74 = .ok (.iload_n 1, 1) := by decide +kernel
theorem dJ6_numberOfTrailingZeros_0f7a4_75 : decode cJ6_numberOfTrailingZeros_0f7a4 75 = .ok (.iload_n 0, 1) := by decide +kernel
theorem dJ6_numberOfTrailingZeros_0f7a4_76 : decode cJ6_numberOfTrailingZeros_0f7a4 76 = .ok (.iconst 1, 1) := by decide +kernel
theorem dJ6_numberOfTrailingZeros_0f7a4_77 : decode cJ6_numberOfTrailingZeros_0f7a4 77 = .ok (.iushr, 1) := by decide +kernel
theorem dJ6_numberOfTrailingZeros_0f7a4_78 : decode cJ6_numberOfTrailingZeros_0f7a4 78 = .ok (.iadd, 1) := by decide +kernel
theorem dJ6_numberOfTrailingZeros_0f7a4_79 : decode cJ6_numberOfTrailingZeros_0f7a4 79 = .ok (.ireturn, 1) := by decide +kernel
theorem dJ6_bitCount_0f7a4_0 : decode cJ6_bitCount_0f7a4 0 = .ok (.iload_n 0, 1) := by decide +kernel
theorem dJ6_bitCount_0f7a4_1 : decode cJ6_bitCount_0f7a4 1 = .ok (.iload_n 0, 1) := by decide +kernel
theorem dJ6_bitCount_0f7a4_2 : decode cJ6_bitCount_0f7a4 2 = .ok (.iconst 1, 1) := by decide +kernel
theorem dJ6_bitCount_0f7a4_3 : decode cJ6_bitCount_0f7a4 3 = .ok (.iushr, 1) := by decide +kernel
theorem dJ6_bitCount_0f7a4_4 : decode cJ6_bitCount_0f7a4 4 = .ok (.ldc_w 265, 3) := by decide +kernel
theorem dJ6_bitCount_0f7a4_7 : decode cJ6_bitCount_0f7a4 7 = .ok (.iand, 1) := by decide +kernel
theorem dJ6_bitCount_0f7a4_8 : decode cJ6_bitCount_0f7a4 8 = .ok (.isub, 1) := by decide +kernel
theorem dJ6_bitCount_0f7a4_9 : decode cJ6_bitCount_0f7a4 9 = .ok (.istore_n 0, 1) := by decide +kernel
theorem dJ6_bitCount_0f7a4_10 : decode cJ6_bitCount_0f7a4 10 = .ok (.iload_n 0, 1) := by decide +kernel
theorem dJ6_bitCount_0f7a4_11 : decode cJ6_bitCount_0f7a4 11 = .ok (.ldc_w 266, 3) := by decide +kernel
theorem dJ6_bitCount_0f7a4_14 : decode cJ6_bitCount_0f7a4 14 = .ok (.iand, 1) := by decide +kernel
theorem dJ6_bitCount_0f7a4_15 : decode cJ6_bitCount_0f7a4 15 = .ok (.iload_n 0, 1) := by decide +kernel
theorem dJ6_bitCount_0f7a4_16 : decode cJ6_bitCount_0f7a4 16 = .ok (.iconst 2, 1) := by decide +kernel
theorem dJ6_bitCount_0f7a4_17 : decode cJ6_bitCount_0f7a4 17 = .ok (.iushr, 1) := by decide +kernel
theorem dJ6_bitCount_0f7a4_18 : decode cJ6_bitCount_0f7a4 18 = .ok (.ldc_w 266, 3) := by decide +kernel
theorem dJ6_bitCount_0f7a4_21 : decode cJ6_bitCount_0f7a4 21 = .ok (.iand, 1) := by decide +kernel
theorem dJ6_bitCount_0f7a4_22 : decode cJ6_bitCount_0f7a4 22 = .ok (.iadd, 1) := by decide +kernel
theorem dJ6_bitCount_0f7a4_23 : decode cJ6_bitCount_0f7a4 23 = .ok (.istore_n 0, 1) := by decide +kernel
theorem dJ6_bitCount_0f7a4_24 : decode cJ6_bitCount_0f7a4 24 = .ok (.iload_n 0, 1) := by decide +kernel
theorem dJ6_bitCount_0f7a4_25 : decode cJ6_bitCount_0f7a4 25 = .ok (.iload_n 0, 1) := by decide +kernel
theorem dJ6_bitCount_0f7a4_26 : decode cJ6_bitCount_0f7a4 26 = .ok (.iconst 4, 1) := by decide +kernel
theorem dJ6_bitCount_0f7a4_27 : decode cJ6_bitCount_0f7a4 27 = .ok (.iushr, 1) := by decide +kernel
theorem dJ6_bitCount_0f7a4_28 : decode cJ6_bitCount_0f7a4 28 = .ok (.iadd, 1) := by decide +kernel
theorem dJ6_bitCount_0f7a4_29 : decode cJ6_bitCount_0f7a4 29 = .ok (.ldc_w 267, 3) := by decide +kernel
theorem dJ6_bitCount_0f7a4_32 : decode cJ6_bitCount_0f7a4 32 = .ok (.iand, 1) := by decide +kernel
theorem dJ6_bitCount_0f7a4_33 : decode cJ6_bitCount_0f7a4 33 = .ok (.istore_n 0, 1) := by decide +kernel
theorem dJ6_bitCount_0f7a4_34 : decode cJ6_bitCount_0f7a4 34 = .ok (.iload_n 0, 1) := by decide +kernel
theorem dJ6_bitCount_0f7a4_35 : decode cJ6_bitCount_0f7a4 35 = .ok (.iload_n 0, 1) := by decide +kernel
theorem dJ6_bitCount_0f7a4_36 : decode cJ6_bitCount_0f7a4 36 = .ok (.bipush 8, 2) := by decide +kernel
theorem dJ6_bitCount_0f7a4_38 : decode cJ6_bitCount_0f7a4 38 = .ok (.iushr, 1) := by decide +kernel
theorem dJ6_bitCount_0f7a4_39 : decode cJ6_bitCount_0f7a4 39 = .ok (.iadd, 1) := by decide +kernel
theorem dJ6_bitCount_0f7a4_40 : decode cJ6_bitCount_0f7a4 40 = .ok (.istore_n 0, 1) := by decide +kernel
theorem dJ6_bitCount_0f7a4_41 : decode cJ6_bitCount_0f7a4 41 = .ok (.iload_n 0, 1) := by decide +kernel
theorem dJ6_bitCount_0f7a4_42 : decode cJ6_bitCount_0f7a4 42 = .ok (.iload_n 0, 1) := by decide +kernel
theorem dJ6_bitCount_0f7a4_43 : decode cJ6_bitCount_0f7a4 43 = .ok (.bipush 16, 2) := by decide +kernel
theorem dJ6_bitCount_0f7a4_45 : decode cJ6_bitCount_0f7a4 45 = .ok (.iushr, 1) := by decide +kernel
theorem dJ6_bitCount_0f7a4_46 : decode cJ6_bitCount_0f7a4 46 = .ok (.iadd, 1) := by decide +kernel
theorem dJ6_bitCount_0f7a4_47 : decode cJ6_bitCount_0f7a4 47 = .ok (.istore_n 0, 1) := by decide +kernel
theorem dJ6_bitCount_0f7a4_48 : decode cJ6_bitCount_0f7a4 48 = .ok (.iload_n 0, 1) := by decide +kernel
theorem dJ6_bitCount_0f7a4_49 : decode cJ6_bitCount_0f7a4 49 = .ok (.bipush 63, 2) := by decide +kernel
theorem dJ6_bitCount_0f7a4_51 : decode cJ6_bitCount_0f7a4 51 = .ok (.iand, 1) := by decide +kernel
theorem dJ6_bitCount_0f7a4_52 : decode cJ6_bitCount_0f7a4 52 = .ok (.ireturn, 1) := by decide +kernel
theorem dJ13_numberOfLeadingZeros_95d88_0 : decode cJ13_numberOfLeadingZeros_95d88 0 = .ok (.lload_n 0, 1) := by decide +kernel
theorem dJ13_numberOfLeadingZeros_95d88_1 : decode cJ13_numberOfLeadingZeros_95d88 1 = .ok (.bipush 32, 2) := by decide +kernel
theorem dJ13_numberOfLeadingZeros_95d88_3 : decode cJ13_numberOfLeadingZeros_95d88 3 = .ok (.lushr, 1) := by decide +kernel
theorem dJ13_numberOfLeadingZeros_95d88_4 : decode cJ13_numberOfLeadingZeros_95d88 4 = .ok (.l2i, 1) := by decide +kernel
theorem dJ13_numberOfLeadingZeros_95d88_5 : decode cJ13_numberOfLeadingZeros_95d88 5 = .ok (.istore_n 2, 1) := by decide +kernel
theorem dJ13_numberOfLeadingZeros_95d88_6 : decode cJ13_numberOfLeadingZeros_95d88 6 = .ok (.iload_n 2, 1) := by decide +kernel
theorem dJ13_numberOfLeadingZeros_95d88_7 : decode cJ13_numberOfLeadingZeros_95d88 7 = .ok (.ifCond .ne 14, 3) := by decide +kernel
theorem dJ13_numberOfLeadingZeros_95d88_10 : decode cJ13_numberOfLeadingZeros_95d88 10 = .ok (.bipush 32, 2) := by decide +kernel
theorem dJ13_numberOfLeadingZeros_95d88_12 : decode cJ13_numberOfLeadingZeros_95d88 12 = .ok (.lload_n 0, 1) := by decide +kernel
theorem dJ13_numberOfLeadingZeros_95d88_13 : decode cJ13_numberOfLeadingZeros_95d88 13 = .ok (.l2i, 1) := by decide +kernel
theorem dJ13_numberOfLeadingZeros_95d88_14 : decode cJ13_numberOfLeadingZeros_95d88 14 = .ok (.invokestatic 308, 3) := by decide +kernel
theorem dJ13_numberOfLeadingZeros_95d88_17 : decode cJ13_numberOfLeadingZeros_95d88 17 = .ok (.iadd, 1) := by decide +kernel
theorem dJ13_numberOfLeadingZeros_95d88_18 : decode cJ13_numberOfLeadingZeros_95d88 18 = .ok (.goto 7, 3) := by decide +kernel
theorem dJ13_numberOfLeadingZeros_95d88_21 : decode cJ13_numberOfLeadingZeros_95d88 21 = .ok (.iload_n 2, 1) := by decide +kernel
theorem dJ13_numberOfLeadingZeros_95d88_22 : decode cJ13_numberOfLeadingZeros_95d88 22 = .ok (.invokestatic 308, 3) := by decide +kernel
theorem dJ13_numberOfLeadingZeros_95d88_25 : decode cJ13_numberOfLeadingZeros_95d88 25 = .ok (.ireturn, 1) := by decide +kernel
theorem dJ13_numberOfTrailingZeros_95d88_0 : decode cJ13_numberOfTrailingZeros_95d88 0 = .ok (.lload_n 0, 1) := by decide +kernel
theorem dJ13_numberOfTrailingZeros_95d88_1 : decode cJ13_numberOfTrailingZeros_95d88 1 = .ok (.l2i, 1) := by decide +kernel
theorem dJ13_numberOfTrailingZeros_95d88_2 : decode cJ13_numberOfTrailingZeros_95d88 2 = .ok (.istore_n 2, 1) := by decide +kernel
theorem dJ13_numberOfTrailingZeros_95d88_3 : decode cJ13_numberOfTrailingZeros_95d88 3 = .ok (.iload_n 2, 1) := by decide +kernel
theorem dJ13_numberOfTrailingZeros_95d88_4 : decode cJ13_numberOfTrailingZeros_95d88 4 = .ok (.ifCond .ne 17, 3) := by decide +kernel
theorem dJ13_numberOfTrailingZeros_95d88_7 : decode cJ13_numberOfTrailingZeros_95d88 7 = .ok (.bipush 32, 2) := by decide +kernel
theorem dJ13_numberOfTrailingZeros_95d88_9 : decode cJ13_numberOfTrailingZeros_95d88 9 = .ok (.lload_n 0, 1) := by decide +kernel
theorem dJ13_numberOfTrailingZeros_95d88_10 : decode cJ13_numberOfTrailingZeros_95d88 10 = .ok (.bipush 32, 2) := by decide +kernel
theorem dJ13_numberOfTrailingZeros_95d88_12 : decode cJ13_numberOfTrailingZeros_95d88 12 = .ok (.lushr, 1) := by decide +kernel
theorem dJ13_numberOfTrailingZeros_95d88_13 : decode cJ13_numberOfTrailingZeros_95d88 13 = .ok (.l2i, 1) := by decide +kernel
theorem dJ13_numberOfTrailingZeros_95d88_14 : decode cJ13_numberOfTrailingZeros_95d88 14 = .ok (.invokestatic 311, 3) := by decide +kernel
theorem dJ13_numberOfTrailingZeros_95d88_17 : decode cJ13_numberOfTrailingZeros_95d88 17 = .ok (.iadd, 1) := by decide +kernel
theorem dJ13_numberOfTrailingZeros_95d88_18 : decode cJ13_numberOfTrailingZeros_95d88 18 = .ok (.goto 7, 3) := by decide +kernel
theorem dJ13_numberOfTrailingZeros_95d88_21 : decode cJ13_numberOfTrailingZeros_95d88 21 = .ok (.iload_n 2, 1) := by decide +kernel
theorem dJ13_numberOfTrailingZeros_95d88_22 : decode cJ13_numberOfTrailingZeros_95d88 22 = .ok (.invokestatic 311, 3) := by decide +kernel
theorem dJ13_numberOfTrailingZeros_95d88_25 : decode cJ13_numberOfTrailingZeros_95d88 25 = .ok (.ireturn, 1) := by decide +kernel
theorem dJ13_bitCount_95d88_0 : decode cJ13_bitCount_95d88 0 = .ok (.lload_n 0, 1) := by decide +kernel
theorem dJ13_bitCount_95d88_1 : decode cJ13_bitCount_95d88 1 = .ok (.lload_n 0, 1) := by decide +kernel
theorem dJ13_bitCount_95d88_2 : decode cJ13_bitCount_95d88 2 = .ok (.iconst 1, 1) := by decide +kernel
theorem dJ13_bitCount_95d88_3 : decode cJ13_bitCount_95d88 3 = .ok (.lushr, 1) := by decide +kernel
theorem dJ13_bitCount_95d88_4 : decode cJ13_bitCount_95d88 4 = .ok (.ldc2_w 314, 3) := by decide +kernel
theorem dJ13_bitCount_95d88_7 : decode cJ13_bitCount_95d88 7 = .ok (.land, 1) := by decide +kernel
theorem dJ13_bitCount_95d88_8 : decode cJ13_bitCount_95d88 8 = .ok (.lsub, 1) := by decide +kernel
theorem dJ13_bitCount_95d88_9 : decode cJ13_bitCount_95d88 9 = .ok (.lstore_n 0, 1) := by decide +kernel
theorem dJ13_bitCount_95d88_10 : decode cJ13_bitCount_95d88 10 = .ok (.lload_n 0, 1) := by decide +kernel
theorem dJ13_bitCount_95d88_11 : decode cJ13_bitCount_95d88 11 = .ok (.ldc2_w 316, 3) := by decide +kernel
theorem dJ13_bitCount_95d88_14 : decode cJ13_bitCount_95d88 14 = .ok (.land, 1) := by decide +kernel
theorem dJ13_bitCount_95d88_15 : decode cJ13_bitCount_95d88 15 = .ok (.lload_n 0, 1) := by decide +kernel
theorem dJ13_bitCount_95d88_16 : decode cJ13_bitCount_95d88 16 = .ok (.iconst 2, 1) := by decide +kernel
theorem dJ13_bitCount_95d88_17 : decode cJ13_bitCount_95d88 17 = .ok (.lushr, 1) := by decide +kernel
theorem dJ13_bitCount_95d88_18 : decode cJ13_bitCount_95d88 18 = .ok (.ldc2_w 316, 3) := by decide +kernel
theorem dJ13_bitCount_95d88_21 : decode cJ13_bitCount_95d88 21 = .ok (.land, 1) := by decide +kernel
theorem dJ13_bitCount_95d88_22 : decode cJ13_bitCount_95d88 22 = .ok (.ladd, 1) := by decide +kernel
theorem dJ13_bitCount_95d88_23 : decode cJ13_bitCount_95d88 23 = .ok (.lstore_n 0, 1) := by decide +kernel
theorem dJ13_bitCount_95d88_24 : decode cJ13_bitCount_95d88 24 = .ok (.lload_n 0, 1) := by decide +kernel
theorem dJ13_bitCount_95d88_25 : decode cJ13_bitCount_95d88 25 = .ok (.lload_n 0, 1) := by decide +kernel
theorem dJ13_bitCount_95d88_26 : decode cJ13_bitCount_95d88 26 = .ok (.iconst 4, 1) := by decide +kernel
theorem dJ13_bitCount_95d88_27 : decode cJ13_bitCount_95d88 27 = .ok (.lushr, 1) := by decide +kernel
theorem dJ13_bitCount_95d88_28 : decode cJ13_bitCount_95d88 28 = .ok (.ladd, 1) := by decide +kernel
theorem dJ13_bitCount_95d88_29 : decode cJ13_bitCount_95d88 29 = .ok (.ldc2_w 318, 3) := by decide +kernel
theorem dJ13_bitCount_95d88_32 : decode cJ13_bitCount_95d88 32 = .ok (.land, 1) := by decide +kernel
theorem dJ13_bitCount_95d88_33 : decode cJ13_bitCount_95d88 33 = .ok (.lstore_n 0, 1) := by decide +kernel
theorem dJ13_bitCount_95d88_34 : decode cJ13_bitCount_95d88 34 = .ok (.lload_n 0, 1) := by decide +kernel
theorem dJ13_bitCount_95d88_35 : decode cJ13_bitCount_95d88 35 = .ok (.lload_n 0, 1) := by decide +kernel
theorem dJ13_bitCount_95d88_36 : decode cJ13_bitCount_95d88 36 = .ok (.bipush 8, 2) := by decide +kernel
theorem dJ13_bitCount_95d88_38 : decode cJ13_bitCount_95d88 38 = .ok (.lushr, 1) := by decide +kernel
theorem dJ13_bitCount_95d88_39 : decode cJ13_bitCount_95d88 39 = .ok (.ladd, 1) := by decide +kernel
theorem dJ13_bitCount_95d88_40 : decode cJ13_bitCount_95d88 40 = .ok (.lstore_n 0, 1) := by decide +kernel
theorem dJ13_bitCount_95d88_41 : decode cJ13_bitCount_95d88 41 = .ok (.lload_n 0, 1) := by decide +kernel
theorem dJ13_bitCount_95d88_42 : decode cJ13_bitCount_95d88 42 = .ok (.lload_n 0, 1) := by decide +kernel
theorem dJ13_bitCount_95d88_43 : decode cJ13_bitCount_95d88 43 = .ok (.bipush 16, 2) := by decide +kernel
theorem dJ13_bitCount_95d88_45 : decode cJ13_bitCount_95d88 45 = .ok (.lushr, 1) := by decide +kernel
theorem dJ13_bitCount_95d88_46 : decode cJ13_bitCount_95d88 46 = .ok (.ladd, 1) := by decide +kernel
theorem dJ13_bitCount_95d88_47 : decode cJ13_bitCount_95d88 47 = .ok (.lstore_n 0, 1) := by decide +kernel
theorem dJ13_bitCount_95d88_48 : decode cJ13_bitCount_95d88 48 = .ok (.lload_n 0, 1) := by decide +kernel
theorem dJ13_bitCount_95d88_49 : decode cJ13_bitCount_95d88 49 = .ok (.lload_n 0, 1) := by decide +kernel
theorem dJ13_bitCount_95d88_50 : decode cJ13_bitCount_95d88 50 = .ok (.bipush 32, 2) := by decide +kernel
theorem dJ13_bitCount_95d88_52 : decode cJ13_bitCount_95d88 52 = .ok (.lushr, 1) := by decide +kernel
theorem dJ13_bitCount_95d88_53 : decode cJ13_bitCount_95d88 53 = .ok (.ladd, 1) := by decide +kernel
theorem dJ13_bitCount_95d88_54 : decode cJ13_bitCount_95d88 54 = .ok (.lstore_n 0, 1) := by decide +kernel
theorem dJ13_bitCount_95d88_55 : decode cJ13_bitCount_95d88 55 = .ok (.lload_n 0, 1) := by decide +kernel
theorem dJ13_bitCount_95d88_56 : decode cJ13_bitCount_95d88 56 = .ok (.l2i, 1) := by decide +kernel
theorem dJ13_bitCount_95d88_57 : decode cJ13_bitCount_95d88 57 = .ok (.bipush 127, 2) := by decide +kernel
theorem dJ13_bitCount_95d88_59 : decode cJ13_bitCount_95d88 59 = .ok (.iand, 1) := by decide +kernel
theorem dJ13_bitCount_95d88_60 : decode cJ13_bitCount_95d88 60 = .ok (.ireturn, 1) := by decide +kernel
theorem dJ9_max_7cf53_0 : decode cJ9_max_7cf53 0 = .ok (.iload_n 0, 1) := by decide +kernel
theorem dJ9_max_7cf53_1 : decode cJ9_max_7cf53 1 = .ok (.iload_n 1, 1) := by decide +kernel
theorem dJ9_max_7cf53_2 : decode cJ9_max_7cf53 2 = .ok (.if_icmp .lt 7, 3) := by decide +kernel
theorem dJ9_max_7cf53_5 : decode cJ9_max_7cf53 5 = .ok (.iload_n 0, 1) := by decide +kernel
theorem dJ9_max_7cf53_6 : decode cJ9_max_7cf53 6 = .ok (.goto 4, 3) := by decide +kernel
theorem dJ9_max_7cf53_9 : decode cJ9_max_7cf53 9 = .ok (.iload_n 1, 1) := by decide +kernel
theorem dJ9_max_7cf53_10 : decode cJ9_max_7cf53 10 = .ok (.ireturn, 1) := by decide +kernel
theorem dJ9_min_7cf53_0 : decode cJ9_min_7cf53 0 = .ok (.iload_n 0, 1) := by decide +kernel
theorem dJ9_min_7cf53_1 : decode cJ9_min_7cf53 1 = .ok (.iload_n 1, 1) := by decide +kernel
theorem dJ9_min_7cf53_2 : decode cJ9_min_7cf53 2 = .ok (.if_icmp .gt 7, 3) := by decide +kernel
theorem dJ9_min_7cf53_5 : decode cJ9_min_7cf53 5 = .ok (.iload_n 0, 1) := by decide +kernel
theorem dJ9_min_7cf53_6 : decode cJ9_min_7cf53 6 = .ok (.goto 4, 3) := by decide +kernel
theorem dJ9_min_7cf53_9 : decode cJ9_min_7cf53 9 = .ok (.iload_n 1, 1) := by decide +kernel
theorem dJ9_min_7cf53_10 : decode cJ9_min_7cf53 10 = .ok (.ireturn, 1) := by decide +kernel
