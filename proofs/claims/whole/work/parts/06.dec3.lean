theorem dX11_within_0 : decode cX11_within 0 = .ok (.lload_n 0, 1) := by decide +kernel
theorem dX11_within_1 : decode cX11_within 1 = .ok (.lload_n 2, 1) := by decide +kernel
theorem dX11_within_2 : decode cX11_within 2 = .ok (.lcmp, 1) := by decide +kernel
theorem dX11_within_3 : decode cX11_within 3 = .ok (.ifCond .lt 14, 3) := by decide +kernel
theorem dX11_within_6 : decode cX11_within 6 = .ok (.lload_n 0, 1) := by decide +kernel
theorem dX11_within_7 : decode cX11_within 7 = .ok (.lload 4, 2) := by decide +kernel
theorem dX11_within_9 : decode cX11_within 9 = .ok (.lcmp, 1) := by decide +kernel
theorem dX11_within_10 : decode cX11_within 10 = .ok (.ifCond .gt 7, 3) := by decide +kernel
theorem dX11_within_13 : decode cX11_within 13 = .ok (.iconst 1, 1) := by decide +kernel
theorem dX11_within_14 : decode cX11_within 14 = .ok (.goto 4, 3) := by decide +kernel
theorem dX11_within_17 : decode cX11_within 17 = .ok (.iconst 0, 1) := by decide +kernel
theorem dX11_within_18 : decode cX11_within 18 = .ok (.ireturn, 1) := by decide +kernel
theorem dX11_isIn_0 : decode cX11_isIn 0 = .ok (.iload_n 0, 1) := by decide +kernel
theorem dX11_isIn_1 : decode cX11_isIn 1 = .ok (.iload_n 1, 1) := by decide +kernel
theorem dX11_isIn_2 : decode cX11_isIn 2 = .ok (.ishr, 1) := by decide +kernel
theorem dX11_isIn_3 : decode cX11_isIn 3 = .ok (.iconst 1, 1) := by decide +kernel
theorem dX11_isIn_4 : decode cX11_isIn 4 = .ok (.iand, 1) := by decide +kernel
theorem dX11_isIn_5 : decode cX11_isIn 5 = .ok (.iconst 1, 1) := by decide +kernel
theorem dX11_isIn_6 : decode cX11_isIn 6 = .ok (.if_icmp .ne 7, 3) := by decide +kernel
theorem dX11_isIn_9 : decode cX11_isIn 9 = .ok (.iconst 1, 1) := by decide +kernel
theorem dX11_isIn_10 : decode cX11_isIn 10 = .ok (.goto 4, 3) := by decide +kernel
theorem dX11_isIn_13 : decode cX11_isIn 13 = .ok (.iconst 0, 1) := by decide +kernel
theorem dX11_isIn_14 : decode cX11_isIn 14 = .ok (.ireturn, 1) := by decide +kernel
theorem dX11_bitsOf_0 : decode cX11_bitsOf 0 = .ok (.iconst 0, 1) := by decide +kernel
theorem dX11_bitsOf_1 : decode cX11_bitsOf 1 = .ok (.istore_n 1, 1) := by decide +kernel
theorem dX11_bitsOf_2 : decode cX11_bitsOf 2 = .ok (.iload_n 0, 1) := by decide +kernel
theorem dX11_bitsOf_3 : decode cX11_bitsOf 3 = .ok (.istore_n 2, 1) := by decide +kernel
theorem dX11_bitsOf_4 : decode cX11_bitsOf 4 = .ok (.iload_n 2, 1) := by decide +kernel
theorem dX11_bitsOf_5 : decode cX11_bitsOf 5 = .ok (.ifCond .eq 15, 3) := by decide +kernel
theorem dX11_bitsOf_8 : decode cX11_bitsOf 8 = .ok (.iinc 1 1, 3) := by decide +kernel
theorem dX11_bitsOf_11 : decode cX11_bitsOf 11 = .ok (.iload_n 2, 1) := by decide +kernel
theorem dX11_bitsOf_12 : decode cX11_bitsOf 12 = .ok (.iload_n 2, 1) := by decide +kernel
theorem dX11_bitsOf_13 : decode cX11_bitsOf 13 = .ok (.iconst 1, 1) := by decide +kernel
theorem dX11_bitsOf_14 : decode cX11_bitsOf 14 = .ok (.isub, 1) := by decide +kernel
theorem dX11_bitsOf_15 : decode cX11_bitsOf 15 = .ok (.iand, 1) := by decide +kernel
theorem dX11_bitsOf_16 : decode cX11_bitsOf 16 = .ok (.istore_n 2, 1) := by decide +kernel
theorem dX11_bitsOf_17 : decode cX11_bitsOf 17 = .ok (.goto (-13), 3) := by decide +kernel
theorem dX11_bitsOf_20 : decode cX11_bitsOf 20 = .ok (.iload_n 1, 1) := by decide +kernel
theorem dX11_bitsOf_21 : decode cX11_bitsOf 21 = .ok (.ireturn, 1) := by decide +kernel
theorem dX11_init_0 : decode cX11_init 0 = .ok (.aload_n 0, 1) := by decide +kernel
theorem dX11_init_1 : decode cX11_init 1 = .ok (.invokespecial 5, 3) := by decide +kernel
theorem dX11_init_4 : decode cX11_init 4 = .ok (.aload_n 0, 1) := by decide +kernel
theorem dX11_init_5 : decode cX11_init 5 = .ok (.bipush 75, 2) := by decide +kernel
theorem dX11_init_7 : decode cX11_init 7 = .ok (.newarray .int, 2) := by decide +kernel
theorem dX11_init_9 : decode cX11_init 9 = .ok (.putfield 11, 3) := by decide +kernel
theorem dX11_init_12 : decode cX11_init 12 = .ok (.aload_n 0, 1) := by decide +kernel
theorem dX11_init_13 : decode cX11_init 13 = .ok (.bipush 40, 2) := by decide +kernel
theorem dX11_init_15 : decode cX11_init 15 = .ok (.newarray .int, 2) := by decide +kernel
theorem dX11_init_17 : decode cX11_init 17 = .ok (.putfield 15, 3) := by decide +kernel
theorem dX11_init_20 : decode cX11_init 20 = .ok (.aload_n 0, 1) := by decide +kernel
theorem dX11_init_21 : decode cX11_init 21 = .ok (.bipush 40, 2) := by decide +kernel
theorem dX11_init_23 : decode cX11_init 23 = .ok (.newarray .int, 2) := by decide +kernel
theorem dX11_init_25 : decode cX11_init 25 = .ok (.putfield 18, 3) := by decide +kernel
theorem dX11_init_28 : decode cX11_init 28 = .ok (.aload_n 0, 1) := by decide +kernel
theorem dX11_init_29 : decode cX11_init 29 = .ok (.bipush 40, 2) := by decide +kernel
theorem dX11_init_31 : decode cX11_init 31 = .ok (.newarray .int, 2) := by decide +kernel
theorem dX11_init_33 : decode cX11_init 33 = .ok (.putfield 21, 3) := by decide +kernel
theorem dX11_init_36 : decode cX11_init 36 = .ok (.aload_n 0, 1) := by decide +kernel
theorem dX11_init_37 : decode cX11_init 37 = .ok (.bipush 6, 2) := by decide +kernel
theorem dX11_init_39 : decode cX11_init 39 = .ok (.newarray .int, 2) := by decide +kernel
theorem dX11_init_41 : decode cX11_init 41 = .ok (.putfield 24, 3) := by decide +kernel
theorem dX11_init_44 : decode cX11_init 44 = .ok (.aload_n 0, 1) := by decide +kernel
theorem dX11_init_45 : decode cX11_init 45 = .ok (.bipush 6, 2) := by decide +kernel
theorem dX11_init_47 : decode cX11_init 47 = .ok (.newarray .boolean, 2) := by decide +kernel
theorem dX11_init_49 : decode cX11_init 49 = .ok (.putfield 27, 3) := by decide +kernel
theorem dX11_init_52 : decode cX11_init 52 = .ok (.aload_n 0, 1) := by decide +kernel
theorem dX11_init_53 : decode cX11_init 53 = .ok (.bipush 120, 2) := by decide +kernel
theorem dX11_init_55 : decode cX11_init 55 = .ok (.newarray .int, 2) := by decide +kernel
theorem dX11_init_57 : decode cX11_init 57 = .ok (.putfield 31, 3) := by decide +kernel
theorem dX11_init_60 : decode cX11_init 60 = .ok (.aload_n 0, 1) := by decide +kernel
theorem dX11_init_61 : decode cX11_init 61 = .ok (.bipush 120, 2) := by decide +kernel
theorem dX11_init_63 : decode cX11_init 63 = .ok (.newarray .int, 2) := by decide +kernel
theorem dX11_init_65 : decode cX11_init 65 = .ok (.putfield 34, 3) := by decide +kernel
theorem dX11_init_68 : decode cX11_init 68 = .ok (.aload_n 0, 1) := by decide +kernel
theorem dX11_init_69 : decode cX11_init 69 = .ok (.bipush 6, 2) := by decide +kernel
theorem dX11_init_71 : decode cX11_init 71 = .ok (.newarray .int, 2) := by decide +kernel
theorem dX11_init_73 : decode cX11_init 73 = .ok (.putfield 37, 3) := by decide +kernel
theorem dX11_init_76 : decode cX11_init 76 = .ok (.aload_n 0, 1) := by decide +kernel
theorem dX11_init_77 : decode cX11_init 77 = .ok (.bipush 6, 2) := by decide +kernel
theorem dX11_init_79 : decode cX11_init 79 = .ok (.newarray .long, 2) := by decide +kernel
theorem dX11_init_81 : decode cX11_init 81 = .ok (.putfield 40, 3) := by decide +kernel
theorem dX11_init_84 : decode cX11_init 84 = .ok (.aload_n 0, 1) := by decide +kernel
theorem dX11_init_85 : decode cX11_init 85 = .ok (.bipush 6, 2) := by decide +kernel
theorem dX11_init_87 : decode cX11_init 87 = .ok (.newarray .long, 2) := by decide +kernel
theorem dX11_init_89 : decode cX11_init 89 = .ok (.putfield 44, 3) := by decide +kernel
theorem dX11_init_92 : decode cX11_init 92 = .ok (.aload_n 0, 1) := by decide +kernel
theorem dX11_init_93 : decode cX11_init 93 = .ok (.bipush 6, 2) := by decide +kernel
theorem dX11_init_95 : decode cX11_init 95 = .ok (.newarray .int, 2) := by decide +kernel
theorem dX11_init_97 : decode cX11_init 97 = .ok (.putfield 47, 3) := by decide +kernel
theorem dX11_init_100 : decode cX11_init 100 = .ok (.aload_n 0, 1) := by decide +kernel
theorem dX11_init_101 : decode cX11_init 101 = .ok (.bipush 6, 2) := by decide +kernel
theorem dX11_init_103 : decode cX11_init 103 = .ok (.newarray .int, 2) := by decide +kernel
theorem dX11_init_105 : decode cX11_init 105 = .ok (.putfield 50, 3) := by decide +kernel
theorem dX11_init_108 : decode cX11_init 108 = .ok (.aload_n 0, 1) := by decide +kernel
theorem dX11_init_109 : decode cX11_init 109 = .ok (.iconst 5, 1) := by decide +kernel
theorem dX11_init_110 : decode cX11_init 110 = .ok (.newarray .int, 2) := by decide +kernel
theorem dX11_init_112 : decode cX11_init 112 = .ok (.putfield 53, 3) := by decide +kernel
theorem dX11_init_115 : decode cX11_init 115 = .ok (.aload_n 0, 1) := by decide +kernel
theorem dX11_init_116 : decode cX11_init 116 = .ok (.bipush 21, 2) := by decide +kernel
theorem dX11_init_118 : decode cX11_init 118 = .ok (.newarray .int, 2) := by decide +kernel
theorem dX11_init_120 : decode cX11_init 120 = .ok (.putfield 56, 3) := by decide +kernel
theorem dX11_init_123 : decode cX11_init 123 = .ok (.aload_n 0, 1) := by decide +kernel
theorem dX11_init_124 : decode cX11_init 124 = .ok (.bipush 50, 2) := by decide +kernel
theorem dX11_init_126 : decode cX11_init 126 = .ok (.newarray .int, 2) := by decide +kernel
theorem dX11_init_128 : decode cX11_init 128 = .ok (.putfield 59, 3) := by decide +kernel
theorem dX11_init_131 : decode cX11_init 131 = .ok (.aload_n 0, 1) := by decide +kernel
theorem dX11_init_132 : decode cX11_init 132 = .ok (.bipush 24, 2) := by decide +kernel
theorem dX11_init_134 : decode cX11_init 134 = .ok (.newarray .int, 2) := by decide +kernel
theorem dX11_init_136 : decode cX11_init 136 = .ok (.putfield 62, 3) := by decide +kernel
theorem dX11_init_139 : decode cX11_init 139 = .ok (.aload_n 0, 1) := by decide +kernel
theorem dX11_init_140 : decode cX11_init 140 = .ok (.bipush 6, 2) := by decide +kernel
theorem dX11_init_142 : decode cX11_init 142 = .ok (.newarray .int, 2) := by decide +kernel
theorem dX11_init_144 : decode cX11_init 144 = .ok (.putfield 65, 3) := by decide +kernel
theorem dX11_init_147 : decode cX11_init 147 = .ok (.aload_n 0, 1) := by decide +kernel
theorem dX11_init_148 : decode cX11_init 148 = .ok (.bipush 6, 2) := by decide +kernel
theorem dX11_init_150 : decode cX11_init 150 = .ok (.newarray .int, 2) := by decide +kernel
theorem dX11_init_152 : decode cX11_init 152 = .ok (.putfield 68, 3) := by decide +kernel
theorem dX11_init_155 : decode cX11_init 155 = .ok (.aload_n 0, 1) := by decide +kernel
theorem dX11_init_156 : decode cX11_init 156 = .ok (.sipush 360, 3) := by decide +kernel
theorem dX11_init_159 : decode cX11_init 159 = .ok (.newarray .long, 2) := by decide +kernel
theorem dX11_init_161 : decode cX11_init 161 = .ok (.putfield 71, 3) := by decide +kernel
theorem dX11_init_164 : decode cX11_init 164 = .ok (.aload_n 0, 1) := by decide +kernel
theorem dX11_init_165 : decode cX11_init 165 = .ok (.bipush 60, 2) := by decide +kernel
theorem dX11_init_167 : decode cX11_init 167 = .ok (.newarray .long, 2) := by decide +kernel
theorem dX11_init_169 : decode cX11_init 169 = .ok (.putfield 74, 3) := by decide +kernel
theorem dX11_init_172 : decode cX11_init 172 = .ok (.iconst 0, 1) := by decide +kernel
theorem dX11_init_173 : decode cX11_init 173 = .ok (.istore_n 1, 1) := by decide +kernel
theorem dX11_init_174 : decode cX11_init 174 = .ok (.iload_n 1, 1) := by decide +kernel
theorem dX11_init_175 : decode cX11_init 175 = .ok (.bipush 6, 2) := by decide +kernel
theorem dX11_init_177 : decode cX11_init 177 = .ok (.if_icmp .ge 16, 3) := by decide +kernel
theorem dX11_init_180 : decode cX11_init 180 = .ok (.aload_n 0, 1) := by decide +kernel
theorem dX11_init_181 : decode cX11_init 181 = .ok (.getfield 65, 3) := by decide +kernel
theorem dX11_init_184 : decode cX11_init 184 = .ok (.iload_n 1, 1) := by decide +kernel
theorem dX11_init_185 : decode cX11_init 185 = .ok (.iconst (-1), 1) := by decide +kernel
theorem dX11_init_186 : decode cX11_init 186 = .ok (.iastore, 1) := by decide +kernel
theorem dX11_init_187 : decode cX11_init 187 = .ok (.iinc 1 1, 3) := by decide +kernel
theorem dX11_init_190 : decode cX11_init 190 = .ok (.goto (-16), 3) := by decide +kernel
theorem dX11_init_193 : decode cX11_init 193 = .ok (.aload_n 0, 1) := by decide +kernel
theorem dX11_init_194 : decode cX11_init 194 = .ok (.iconst (-1), 1) := by decide +kernel
theorem dX11_init_195 : decode cX11_init 195 = .ok (.putfield 77, 3) := by decide +kernel
theorem dX11_init_198 : decode cX11_init 198 = .ok (.aload_n 0, 1) := by decide +kernel
theorem dX11_init_199 : decode cX11_init 199 = .ok (.getfield 11, 3) := by decide +kernel
theorem dX11_init_202 : decode cX11_init 202 = .ok (.bipush 36, 2) := by decide +kernel
theorem dX11_init_204 : decode cX11_init 204 = .ok (.iconst 1, 1) := by decide +kernel
theorem dX11_init_205 : decode cX11_init 205 = .ok (.iastore, 1) := by decide +kernel
theorem dX11_init_206 : decode cX11_init 206 = .ok (.aload_n 0, 1) := by decide +kernel
theorem dX11_init_207 : decode cX11_init 207 = .ok (.getfield 11, 3) := by decide +kernel
theorem dX11_init_210 : decode cX11_init 210 = .ok (.bipush 38, 2) := by decide +kernel
theorem dX11_init_212 : decode cX11_init 212 = .ok (.iconst 5, 1) := by decide +kernel
theorem dX11_init_213 : decode cX11_init 213 = .ok (.iastore, 1) := by decide +kernel
theorem dX11_init_214 : decode cX11_init 214 = .ok (.iconst 0, 1) := by decide +kernel
theorem dX11_init_215 : decode cX11_init 215 = .ok (.istore_n 1, 1) := by decide +kernel
theorem dX11_init_216 : decode cX11_init 216 = .ok (.iload_n 1, 1) := by decide +kernel
theorem dX11_init_217 : decode cX11_init 217 = .ok (.bipush 36, 2) := by decide +kernel
theorem dX11_init_219 : decode cX11_init 219 = .ok (.if_icmp .ge 20, 3) := by decide +kernel
theorem dX11_init_222 : decode cX11_init 222 = .ok (.aload_n 0, 1) := by decide +kernel
theorem dX11_init_223 : decode cX11_init 223 = .ok (.getfield 11, 3) := by decide +kernel
theorem dX11_init_226 : decode cX11_init 226 = .ok (.bipush 39, 2) := by decide +kernel
theorem dX11_init_228 : decode cX11_init 228 = .ok (.iload_n 1, 1) := by decide +kernel
theorem dX11_init_229 : decode cX11_init 229 = .ok (.iadd, 1) := by decide +kernel
theorem dX11_init_230 : decode cX11_init 230 = .ok (.bipush 9, 2) := by decide +kernel
theorem dX11_init_232 : decode cX11_init 232 = .ok (.iastore, 1) := by decide +kernel
theorem dX11_init_233 : decode cX11_init 233 = .ok (.iinc 1 1, 3) := by decide +kernel
theorem dX11_init_236 : decode cX11_init 236 = .ok (.goto (-20), 3) := by decide +kernel
theorem dX11_init_239 : decode cX11_init 239 = .ok (.aload_n 0, 1) := by decide +kernel
theorem dX11_init_240 : decode cX11_init 240 = .ok (.iconst (-1), 1) := by decide +kernel
theorem dX11_init_241 : decode cX11_init 241 = .ok (.putfield 81, 3) := by decide +kernel
theorem dX11_init_244 : decode cX11_init 244 = .ok (.return_, 1) := by decide +kernel
theorem dX11_becomes_0 : decode cX11_becomes 0 = .ok (.aload_n 0, 1) := by decide +kernel
theorem dX11_becomes_1 : decode cX11_becomes 1 = .ok (.getfield 11, 3) := by decide +kernel
theorem dX11_becomes_4 : decode cX11_becomes 4 = .ok (.iload_n 1, 1) := by decide +kernel
theorem dX11_becomes_5 : decode cX11_becomes 5 = .ok (.iaload, 1) := by decide +kernel
theorem dX11_becomes_6 : decode cX11_becomes 6 = .ok (.istore_n 3, 1) := by decide +kernel
theorem dX11_becomes_7 : decode cX11_becomes 7 = .ok (.iload_n 3, 1) := by decide +kernel
theorem dX11_becomes_8 : decode cX11_becomes 8 = .ok (.iload_n 2, 1) := by decide +kernel
theorem dX11_becomes_9 : decode cX11_becomes 9 = .ok (.if_icmp .ne 5, 3) := by decide +kernel
theorem dX11_becomes_12 : decode cX11_becomes 12 = .ok (.iload_n 3, 1) := by decide +kernel
theorem dX11_becomes_13 : decode cX11_becomes 13 = .ok (.ireturn, 1) := by decide +kernel
theorem dX11_becomes_14 : decode cX11_becomes 14 = .ok (.aload_n 0, 1) := by decide +kernel
theorem dX11_becomes_15 : decode cX11_becomes 15 = .ok (.getfield 84, 3) := by decide +kernel
theorem dX11_becomes_18 : decode cX11_becomes 18 = .ok (.bipush 40, 2) := by decide +kernel
theorem dX11_becomes_20 : decode cX11_becomes 20 = .ok (.if_icmp .ne 77, 3) := by decide +kernel
theorem dX11_becomes_23 : decode cX11_becomes 23 = .ok (.iconst 1, 1) := by decide +kernel
theorem dX11_becomes_24 : decode cX11_becomes 24 = .ok (.istore 4, 2) := by decide +kernel
theorem dX11_becomes_26 : decode cX11_becomes 26 = .ok (.iload 4, 2) := by decide +kernel
theorem dX11_becomes_28 : decode cX11_becomes 28 = .ok (.bipush 40, 2) := by decide +kernel
theorem dX11_becomes_30 : decode cX11_becomes 30 = .ok (.if_icmp .ge 57, 3) := by decide +kernel
theorem dX11_becomes_33 : decode cX11_becomes 33 = .ok (.aload_n 0, 1) := by decide +kernel
theorem dX11_becomes_34 : decode cX11_becomes 34 = .ok (.getfield 15, 3) := by decide +kernel
theorem dX11_becomes_37 : decode cX11_becomes 37 = .ok (.iload 4, 2) := by decide +kernel
theorem dX11_becomes_39 : decode cX11_becomes 39 = .ok (.iconst 1, 1) := by decide +kernel
theorem dX11_becomes_40 : decode cX11_becomes 40 = .ok (.isub, 1) := by decide +kernel
theorem dX11_becomes_41 : decode cX11_becomes 41 = .ok (.aload_n 0, 1) := by decide +kernel
theorem dX11_becomes_42 : decode cX11_becomes 42 = .ok (.getfield 15, 3) := by decide +kernel
theorem dX11_becomes_45 : decode cX11_becomes 45 = .ok (.iload 4, 2) := by decide +kernel
theorem dX11_becomes_47 : decode cX11_becomes 47 = .ok (.iaload, 1) := by decide +kernel
theorem dX11_becomes_48 : decode cX11_becomes 48 = .ok (.iastore, 1) := by decide +kernel
theorem dX11_becomes_49 : decode cX11_becomes 49 = .ok (.aload_n 0, 1) := by decide +kernel
theorem dX11_becomes_50 : decode cX11_becomes 50 = .ok (.getfield 18, 3) := by decide +kernel
theorem dX11_becomes_53 : decode cX11_becomes 53 = .ok (.iload 4, 2) := by decide +kernel
theorem dX11_becomes_55 : decode cX11_becomes 55 = .ok (.iconst 1, 1) := by decide +kernel
theorem dX11_becomes_56 : decode cX11_becomes 56 = .ok (.isub, 1) := by decide +kernel
theorem dX11_becomes_57 : decode cX11_becomes 57 = .ok (.aload_n 0, 1) := by decide +kernel
theorem dX11_becomes_58 : decode cX11_becomes 58 = .ok (.getfield 18, 3) := by decide +kernel
theorem dX11_becomes_61 : decode cX11_becomes 61 = .ok (.iload 4, 2) := by decide +kernel
theorem dX11_becomes_63 : decode cX11_becomes 63 = .ok (.iaload, 1) := by decide +kernel
theorem dX11_becomes_64 : decode cX11_becomes 64 = .ok (.iastore, 1) := by decide +kernel
theorem dX11_becomes_65 : decode cX11_becomes 65 = .ok (.aload_n 0, 1) := by decide +kernel
theorem dX11_becomes_66 : decode cX11_becomes 66 = .ok (.getfield 21, 3) := by decide +kernel
theorem dX11_becomes_69 : decode cX11_becomes 69 = .ok (.iload 4, 2) := by decide +kernel
theorem dX11_becomes_71 : decode cX11_becomes 71 = .ok (.iconst 1, 1) := by decide +kernel
theorem dX11_becomes_72 : decode cX11_becomes 72 = .ok (.isub, 1) := by decide +kernel
theorem dX11_becomes_73 : decode cX11_becomes 73 = .ok (.aload_n 0, 1) := by decide +kernel
theorem dX11_becomes_74 : decode cX11_becomes 74 = .ok (.getfield 21, 3) := by decide +kernel
theorem dX11_becomes_77 : decode cX11_becomes 77 = .ok (.iload 4, 2) := by decide +kernel
theorem dX11_becomes_79 : decode cX11_becomes 79 = .ok (.iaload, 1) := by decide +kernel
theorem dX11_becomes_80 : decode cX11_becomes 80 = .ok (.iastore, 1) := by decide +kernel
theorem dX11_becomes_81 : decode cX11_becomes 81 = .ok (.iinc 4 1, 3) := by decide +kernel
theorem dX11_becomes_84 : decode cX11_becomes 84 = .ok (.goto (-58), 3) := by decide +kernel
theorem dX11_becomes_87 : decode cX11_becomes 87 = .ok (.aload_n 0, 1) := by decide +kernel
theorem dX11_becomes_88 : decode cX11_becomes 88 = .ok (.dup, 1) := by decide +kernel
theorem dX11_becomes_89 : decode cX11_becomes 89 = .ok (.getfield 84, 3) := by decide +kernel
theorem dX11_becomes_92 : decode cX11_becomes 92 = .ok (.iconst 1, 1) := by decide +kernel
theorem dX11_becomes_93 : decode cX11_becomes 93 = .ok (.isub, 1) := by decide +kernel
theorem dX11_becomes_94 : decode cX11_becomes 94 = .ok (.putfield 84, 3) := by decide +kernel
theorem dX11_becomes_97 : decode cX11_becomes 97 = .ok (.aload_n 0, 1) := by decide +kernel
theorem dX11_becomes_98 : decode cX11_becomes 98 = .ok (.getfield 15, 3) := by decide +kernel
theorem dX11_becomes_101 : decode cX11_becomes 101 = .ok (.aload_n 0, 1) := by decide +kernel
theorem dX11_becomes_102 : decode cX11_becomes 102 = .ok (.getfield 84, 3) := by decide +kernel
theorem dX11_becomes_105 : decode cX11_becomes 105 = .ok (.iload_n 1, 1) := by decide +kernel
theorem dX11_becomes_106 : decode cX11_becomes 106 = .ok (.iastore, 1) := by decide +kernel
theorem dX11_becomes_107 : decode cX11_becomes 107 = .ok (.aload_n 0, 1) := by decide +kernel
theorem dX11_becomes_108 : decode cX11_becomes 108 = .ok (.getfield 18, 3) := by decide +kernel
theorem dX11_becomes_111 : decode cX11_becomes 111 = .ok (.aload_n 0, 1) := by decide +kernel
theorem dX11_becomes_112 : decode cX11_becomes 112 = .ok (.getfield 84, 3) := by decide +kernel
theorem dX11_becomes_115 : decode cX11_becomes 115 = .ok (.iload_n 3, 1) := by decide +kernel
theorem dX11_becomes_116 : decode cX11_becomes 116 = .ok (.iastore, 1) := by decide +kernel
theorem dX11_becomes_117 : decode cX11_becomes 117 = .ok (.aload_n 0, 1) := by decide +kernel
theorem dX11_becomes_118 : decode cX11_becomes 118 = .ok (.getfield 21, 3) := by decide +kernel
theorem dX11_becomes_121 : decode cX11_becomes 121 = .ok (.aload_n 0, 1) := by decide +kernel
theorem dX11_becomes_122 : decode cX11_becomes 122 = .ok (.getfield 84, 3) := by decide +kernel
theorem dX11_becomes_125 : decode cX11_becomes 125 = .ok (.iload_n 2, 1) := by decide +kernel
theorem dX11_becomes_126 : decode cX11_becomes 126 = .ok (.iastore, 1) := by decide +kernel
theorem dX11_becomes_127 : decode cX11_becomes 127 = .ok (.aload_n 0, 1) := by decide +kernel
theorem dX11_becomes_128 : decode cX11_becomes 128 = .ok (.dup, 1) := by decide +kernel
theorem dX11_becomes_129 : decode cX11_becomes 129 = .ok (.getfield 84, 3) := by decide +kernel
theorem dX11_becomes_132 : decode cX11_becomes 132 = .ok (.iconst 1, 1) := by decide +kernel
theorem dX11_becomes_133 : decode cX11_becomes 133 = .ok (.iadd, 1) := by decide +kernel
theorem dX11_becomes_134 : decode cX11_becomes 134 = .ok (.putfield 84, 3) := by decide +kernel
theorem dX11_becomes_137 : decode cX11_becomes 137 = .ok (.aload_n 0, 1) := by decide +kernel
theorem dX11_becomes_138 : decode cX11_becomes 138 = .ok (.aload_n 0, 1) := by decide +kernel
theorem dX11_becomes_139 : decode cX11_becomes 139 = .ok (.getfield 84, 3) := by decide +kernel
theorem dX11_becomes_142 : decode cX11_becomes 142 = .ok (.putfield 87, 3) := by decide +kernel
theorem dX11_becomes_145 : decode cX11_becomes 145 = .ok (.aload_n 0, 1) := by decide +kernel
theorem dX11_becomes_146 : decode cX11_becomes 146 = .ok (.getfield 11, 3) := by decide +kernel
theorem dX11_becomes_149 : decode cX11_becomes 149 = .ok (.iload_n 1, 1) := by decide +kernel
theorem dX11_becomes_150 : decode cX11_becomes 150 = .ok (.iload_n 2, 1) := by decide +kernel
theorem dX11_becomes_151 : decode cX11_becomes 151 = .ok (.iastore, 1) := by decide +kernel
theorem dX11_becomes_152 : decode cX11_becomes 152 = .ok (.iload_n 3, 1) := by decide +kernel
theorem dX11_becomes_153 : decode cX11_becomes 153 = .ok (.ireturn, 1) := by decide +kernel
theorem dX11_undo_0 : decode cX11_undo 0 = .ok (.aload_n 0, 1) := by decide +kernel
theorem dX11_undo_1 : decode cX11_undo 1 = .ok (.getfield 84, 3) := by decide +kernel
theorem dX11_undo_4 : decode cX11_undo 4 = .ok (.ifCond .ne 6, 3) := by decide +kernel
theorem dX11_undo_7 : decode cX11_undo 7 = .ok (.bipush (-5), 2) := by decide +kernel
theorem dX11_undo_9 : decode cX11_undo 9 = .ok (.ireturn, 1) := by decide +kernel
theorem dX11_undo_10 : decode cX11_undo 10 = .ok (.aload_n 0, 1) := by decide +kernel
theorem dX11_undo_11 : decode cX11_undo 11 = .ok (.dup, 1) := by decide +kernel
theorem dX11_undo_12 : decode cX11_undo 12 = .ok (.getfield 84, 3) := by decide +kernel
theorem dX11_undo_15 : decode cX11_undo 15 = .ok (.iconst 1, 1) := by decide +kernel
theorem dX11_undo_16 : decode cX11_undo 16 = .ok (.isub, 1) := by decide +kernel
theorem dX11_undo_17 : decode cX11_undo 17 = .ok (.putfield 84, 3) := by decide +kernel
theorem dX11_undo_20 : decode cX11_undo 20 = .ok (.aload_n 0, 1) := by decide +kernel
theorem dX11_undo_21 : decode cX11_undo 21 = .ok (.getfield 11, 3) := by decide +kernel
theorem dX11_undo_24 : decode cX11_undo 24 = .ok (.aload_n 0, 1) := by decide +kernel
theorem dX11_undo_25 : decode cX11_undo 25 = .ok (.getfield 15, 3) := by decide +kernel
theorem dX11_undo_28 : decode cX11_undo 28 = .ok (.aload_n 0, 1) := by decide +kernel
theorem dX11_undo_29 : decode cX11_undo 29 = .ok (.getfield 84, 3) := by decide +kernel
theorem dX11_undo_32 : decode cX11_undo 32 = .ok (.iaload, 1) := by decide +kernel
theorem dX11_undo_33 : decode cX11_undo 33 = .ok (.aload_n 0, 1) := by decide +kernel
theorem dX11_undo_34 : decode cX11_undo 34 = .ok (.getfield 18, 3) := by decide +kernel
theorem dX11_undo_37 : decode cX11_undo 37 = .ok (.aload_n 0, 1) := by decide +kernel
theorem dX11_undo_38 : decode cX11_undo 38 = .ok (.getfield 84, 3) := by decide +kernel
theorem dX11_undo_41 : decode cX11_undo 41 = .ok (.iaload, 1) := by decide +kernel
theorem dX11_undo_42 : decode cX11_undo 42 = .ok (.iastore, 1) := by decide +kernel
theorem dX11_undo_43 : decode cX11_undo 43 = .ok (.aload_n 0, 1) := by decide +kernel
theorem dX11_undo_44 : decode cX11_undo 44 = .ok (.getfield 84, 3) := by decide +kernel
theorem dX11_undo_47 : decode cX11_undo 47 = .ok (.ireturn, 1) := by decide +kernel
theorem dX11_redo_0 : decode cX11_redo 0 = .ok (.aload_n 0, 1) := by decide +kernel
theorem dX11_redo_1 : decode cX11_redo 1 = .ok (.getfield 84, 3) := by decide +kernel
theorem dX11_redo_4 : decode cX11_redo 4 = .ok (.aload_n 0, 1) := by decide +kernel
theorem dX11_redo_5 : decode cX11_redo 5 = .ok (.getfield 87, 3) := by decide +kernel
theorem dX11_redo_8 : decode cX11_redo 8 = .ok (.if_icmp .ne 6, 3) := by decide +kernel
theorem dX11_redo_11 : decode cX11_redo 11 = .ok (.bipush (-5), 2) := by decide +kernel
theorem dX11_redo_13 : decode cX11_redo 13 = .ok (.ireturn, 1) := by decide +kernel
theorem dX11_redo_14 : decode cX11_redo 14 = .ok (.aload_n 0, 1) := by decide +kernel
theorem dX11_redo_15 : decode cX11_redo 15 = .ok (.getfield 11, 3) := by decide +kernel
theorem dX11_redo_18 : decode cX11_redo 18 = .ok (.aload_n 0, 1) := by decide +kernel
theorem dX11_redo_19 : decode cX11_redo 19 = .ok (.getfield 15, 3) := by decide +kernel
theorem dX11_redo_22 : decode cX11_redo 22 = .ok (.aload_n 0, 1) := by decide +kernel
theorem dX11_redo_23 : decode cX11_redo 23 = .ok (.getfield 84, 3) := by decide +kernel
theorem dX11_redo_26 : decode cX11_redo 26 = .ok (.iaload, 1) := by decide +kernel
theorem dX11_redo_27 : decode cX11_redo 27 = .ok (.aload_n 0, 1) := by decide +kernel
theorem dX11_redo_28 : decode cX11_redo 28 = .ok (.getfield 21, 3) := by decide +kernel
theorem dX11_redo_31 : decode cX11_redo 31 = .ok (.aload_n 0, 1) := by decide +kernel
theorem dX11_redo_32 : decode cX11_redo 32 = .ok (.getfield 84, 3) := by decide +kernel
theorem dX11_redo_35 : decode cX11_redo 35 = .ok (.iaload, 1) := by decide +kernel
theorem dX11_redo_36 : decode cX11_redo 36 = .ok (.iastore, 1) := by decide +kernel
theorem dX11_redo_37 : decode cX11_redo 37 = .ok (.aload_n 0, 1) := by decide +kernel
theorem dX11_redo_38 : decode cX11_redo 38 = .ok (.dup, 1) := by decide +kernel
theorem dX11_redo_39 : decode cX11_redo 39 = .ok (.getfield 84, 3) := by decide +kernel
theorem dX11_redo_42 : decode cX11_redo 42 = .ok (.iconst 1, 1) := by decide +kernel
theorem dX11_redo_43 : decode cX11_redo 43 = .ok (.iadd, 1) := by decide +kernel
theorem dX11_redo_44 : decode cX11_redo 44 = .ok (.putfield 84, 3) := by decide +kernel
theorem dX11_redo_47 : decode cX11_redo 47 = .ok (.aload_n 0, 1) := by decide +kernel
theorem dX11_redo_48 : decode cX11_redo 48 = .ok (.getfield 87, 3) := by decide +kernel
theorem dX11_redo_51 : decode cX11_redo 51 = .ok (.aload_n 0, 1) := by decide +kernel
theorem dX11_redo_52 : decode cX11_redo 52 = .ok (.getfield 84, 3) := by decide +kernel
theorem dX11_redo_55 : decode cX11_redo 55 = .ok (.isub, 1) := by decide +kernel
theorem dX11_redo_56 : decode cX11_redo 56 = .ok (.ireturn, 1) := by decide +kernel
theorem dX11_isThing_0 : decode cX11_isThing 0 = .ok (.lload_n 1, 1) := by decide +kernel
theorem dX11_isThing_1 : decode cX11_isThing 1 = .ok (.lconst 0, 1) := by decide +kernel
theorem dX11_isThing_2 : decode cX11_isThing 2 = .ok (.aload_n 0, 1) := by decide +kernel
theorem dX11_isThing_3 : decode cX11_isThing 3 = .ok (.getfield 90, 3) := by decide +kernel
theorem dX11_isThing_6 : decode cX11_isThing 6 = .ok (.iconst 1, 1) := by decide +kernel
theorem dX11_isThing_7 : decode cX11_isThing 7 = .ok (.isub, 1) := by decide +kernel
theorem dX11_isThing_8 : decode cX11_isThing 8 = .ok (.i2l, 1) := by decide +kernel
theorem dX11_isThing_9 : decode cX11_isThing 9 = .ok (.invokestatic 93, 3) := by decide +kernel
theorem dX11_isThing_12 : decode cX11_isThing 12 = .ok (.ireturn, 1) := by decide +kernel
theorem dX11_numberOf_0 : decode cX11_numberOf 0 = .ok (.aload_n 0, 1) := by decide +kernel
theorem dX11_numberOf_1 : decode cX11_numberOf 1 = .ok (.getfield 11, 3) := by decide +kernel
theorem dX11_numberOf_4 : decode cX11_numberOf 4 = .ok (.bipush 6, 2) := by decide +kernel
theorem dX11_numberOf_6 : decode cX11_numberOf 6 = .ok (.iload_n 2, 1) := by decide +kernel
theorem dX11_numberOf_7 : decode cX11_numberOf 7 = .ok (.imul, 1) := by decide +kernel
theorem dX11_numberOf_8 : decode cX11_numberOf 8 = .ok (.iload_n 1, 1) := by decide +kernel
theorem dX11_numberOf_9 : decode cX11_numberOf 9 = .ok (.iadd, 1) := by decide +kernel
theorem dX11_numberOf_10 : decode cX11_numberOf 10 = .ok (.iaload, 1) := by decide +kernel
theorem dX11_numberOf_11 : decode cX11_numberOf 11 = .ok (.ireturn, 1) := by decide +kernel
theorem dX11_adds_0 : decode cX11_adds 0 = .ok (.aload_n 0, 1) := by decide +kernel
theorem dX11_adds_1 : decode cX11_adds 1 = .ok (.getfield 11, 3) := by decide +kernel
theorem dX11_adds_4 : decode cX11_adds 4 = .ok (.aload_n 0, 1) := by decide +kernel
theorem dX11_adds_5 : decode cX11_adds 5 = .ok (.getfield 90, 3) := by decide +kernel
theorem dX11_adds_8 : decode cX11_adds 8 = .ok (.iload_n 1, 1) := by decide +kernel
theorem dX11_adds_9 : decode cX11_adds 9 = .ok (.iastore, 1) := by decide +kernel
theorem dX11_adds_10 : decode cX11_adds 10 = .ok (.aload_n 0, 1) := by decide +kernel
theorem dX11_adds_11 : decode cX11_adds 11 = .ok (.getfield 11, 3) := by decide +kernel
theorem dX11_adds_14 : decode cX11_adds 14 = .ok (.bipush 6, 2) := by decide +kernel
theorem dX11_adds_16 : decode cX11_adds 16 = .ok (.aload_n 0, 1) := by decide +kernel
theorem dX11_adds_17 : decode cX11_adds 17 = .ok (.getfield 90, 3) := by decide +kernel
theorem dX11_adds_20 : decode cX11_adds 20 = .ok (.iadd, 1) := by decide +kernel
theorem dX11_adds_21 : decode cX11_adds 21 = .ok (.iload_n 2, 1) := by decide +kernel
theorem dX11_adds_22 : decode cX11_adds 22 = .ok (.iastore, 1) := by decide +kernel
theorem dX11_adds_23 : decode cX11_adds 23 = .ok (.aload_n 0, 1) := by decide +kernel
theorem dX11_adds_24 : decode cX11_adds 24 = .ok (.getfield 11, 3) := by decide +kernel
theorem dX11_adds_27 : decode cX11_adds 27 = .ok (.bipush 12, 2) := by decide +kernel
theorem dX11_adds_29 : decode cX11_adds 29 = .ok (.aload_n 0, 1) := by decide +kernel
theorem dX11_adds_30 : decode cX11_adds 30 = .ok (.getfield 90, 3) := by decide +kernel
theorem dX11_adds_33 : decode cX11_adds 33 = .ok (.iadd, 1) := by decide +kernel
theorem dX11_adds_34 : decode cX11_adds 34 = .ok (.iload_n 3, 1) := by decide +kernel
theorem dX11_adds_35 : decode cX11_adds 35 = .ok (.iastore, 1) := by decide +kernel
theorem dX11_adds_36 : decode cX11_adds 36 = .ok (.aload_n 0, 1) := by decide +kernel
theorem dX11_adds_37 : decode cX11_adds 37 = .ok (.getfield 11, 3) := by decide +kernel
theorem dX11_adds_40 : decode cX11_adds 40 = .ok (.bipush 18, 2) := by decide +kernel
theorem dX11_adds_42 : decode cX11_adds 42 = .ok (.aload_n 0, 1) := by decide +kernel
theorem dX11_adds_43 : decode cX11_adds 43 = .ok (.getfield 90, 3) := by decide +kernel
theorem dX11_adds_46 : decode cX11_adds 46 = .ok (.iadd, 1) := by decide +kernel
theorem dX11_adds_47 : decode cX11_adds 47 = .ok (.iload 4, 2) := by decide +kernel
theorem dX11_adds_49 : decode cX11_adds 49 = .ok (.iastore, 1) := by decide +kernel
theorem dX11_adds_50 : decode cX11_adds 50 = .ok (.aload_n 0, 1) := by decide +kernel
theorem dX11_adds_51 : decode cX11_adds 51 = .ok (.getfield 11, 3) := by decide +kernel
theorem dX11_adds_54 : decode cX11_adds 54 = .ok (.bipush 24, 2) := by decide +kernel
theorem dX11_adds_56 : decode cX11_adds 56 = .ok (.aload_n 0, 1) := by decide +kernel
theorem dX11_adds_57 : decode cX11_adds 57 = .ok (.getfield 90, 3) := by decide +kernel
theorem dX11_adds_60 : decode cX11_adds 60 = .ok (.iadd, 1) := by decide +kernel
theorem dX11_adds_61 : decode cX11_adds 61 = .ok (.iconst 0, 1) := by decide +kernel
theorem dX11_adds_62 : decode cX11_adds 62 = .ok (.iastore, 1) := by decide +kernel
theorem dX11_adds_63 : decode cX11_adds 63 = .ok (.aload_n 0, 1) := by decide +kernel
theorem dX11_adds_64 : decode cX11_adds 64 = .ok (.getfield 11, 3) := by decide +kernel
theorem dX11_adds_67 : decode cX11_adds 67 = .ok (.bipush 30, 2) := by decide +kernel
theorem dX11_adds_69 : decode cX11_adds 69 = .ok (.aload_n 0, 1) := by decide +kernel
theorem dX11_adds_70 : decode cX11_adds 70 = .ok (.getfield 90, 3) := by decide +kernel
theorem dX11_adds_73 : decode cX11_adds 73 = .ok (.iadd, 1) := by decide +kernel
theorem dX11_adds_74 : decode cX11_adds 74 = .ok (.iconst 0, 1) := by decide +kernel
theorem dX11_adds_75 : decode cX11_adds 75 = .ok (.iastore, 1) := by decide +kernel
theorem dX11_adds_76 : decode cX11_adds 76 = .ok (.aload_n 0, 1) := by decide +kernel
theorem dX11_adds_77 : decode cX11_adds 77 = .ok (.getfield 24, 3) := by decide +kernel
theorem dX11_adds_80 : decode cX11_adds 80 = .ok (.aload_n 0, 1) := by decide +kernel
theorem dX11_adds_81 : decode cX11_adds 81 = .ok (.getfield 90, 3) := by decide +kernel
theorem dX11_adds_84 : decode cX11_adds 84 = .ok (.iconst 0, 1) := by decide +kernel
theorem dX11_adds_85 : decode cX11_adds 85 = .ok (.iastore, 1) := by decide +kernel
theorem dX11_adds_86 : decode cX11_adds 86 = .ok (.aload_n 0, 1) := by decide +kernel
theorem dX11_adds_87 : decode cX11_adds 87 = .ok (.getfield 27, 3) := by decide +kernel
theorem dX11_adds_90 : decode cX11_adds 90 = .ok (.aload_n 0, 1) := by decide +kernel
theorem dX11_adds_91 : decode cX11_adds 91 = .ok (.getfield 90, 3) := by decide +kernel
theorem dX11_adds_94 : decode cX11_adds 94 = .ok (.iconst 0, 1) := by decide +kernel
theorem dX11_adds_95 : decode cX11_adds 95 = .ok (.bastore, 1) := by decide +kernel
theorem dX11_adds_96 : decode cX11_adds 96 = .ok (.aload_n 0, 1) := by decide +kernel
theorem dX11_adds_97 : decode cX11_adds 97 = .ok (.dup, 1) := by decide +kernel
theorem dX11_adds_98 : decode cX11_adds 98 = .ok (.getfield 90, 3) := by decide +kernel
theorem dX11_adds_101 : decode cX11_adds 101 = .ok (.iconst 1, 1) := by decide +kernel
theorem dX11_adds_102 : decode cX11_adds 102 = .ok (.iadd, 1) := by decide +kernel
theorem dX11_adds_103 : decode cX11_adds 103 = .ok (.putfield 90, 3) := by decide +kernel
theorem dX11_adds_106 : decode cX11_adds 106 = .ok (.return_, 1) := by decide +kernel
theorem dX11_thing_0 : decode cX11_thing 0 = .ok (.iload_n 1, 1) := by decide +kernel
theorem dX11_thing_1 : decode cX11_thing 1 = .ok (.i2l, 1) := by decide +kernel
theorem dX11_thing_2 : decode cX11_thing 2 = .ok (.lconst 0, 1) := by decide +kernel
theorem dX11_thing_3 : decode cX11_thing 3 = .ok (.ldc2_w 97, 3) := by decide +kernel
theorem dX11_thing_6 : decode cX11_thing 6 = .ok (.invokestatic 93, 3) := by decide +kernel
theorem dX11_thing_9 : decode cX11_thing 9 = .ok (.ifCond .eq 15, 3) := by decide +kernel
theorem dX11_thing_12 : decode cX11_thing 12 = .ok (.iload_n 2, 1) := by decide +kernel
theorem dX11_thing_13 : decode cX11_thing 13 = .ok (.i2l, 1) := by decide +kernel
theorem dX11_thing_14 : decode cX11_thing 14 = .ok (.lconst 0, 1) := by decide +kernel
theorem dX11_thing_15 : decode cX11_thing 15 = .ok (.ldc2_w 99, 3) := by decide +kernel
theorem dX11_thing_18 : decode cX11_thing 18 = .ok (.invokestatic 93, 3) := by decide +kernel
theorem dX11_thing_21 : decode cX11_thing 21 = .ok (.ifCond .ne 5, 3) := by decide +kernel
theorem dX11_thing_24 : decode cX11_thing 24 = .ok (.iconst (-1), 1) := by decide +kernel
theorem dX11_thing_25 : decode cX11_thing 25 = .ok (.ireturn, 1) := by decide +kernel
theorem dX11_thing_26 : decode cX11_thing 26 = .ok (.aload_n 0, 1) := by decide +kernel
theorem dX11_thing_27 : decode cX11_thing 27 = .ok (.getfield 90, 3) := by decide +kernel
theorem dX11_thing_30 : decode cX11_thing 30 = .ok (.bipush 6, 2) := by decide +kernel
theorem dX11_thing_32 : decode cX11_thing 32 = .ok (.if_icmp .ne 6, 3) := by decide +kernel
theorem dX11_thing_35 : decode cX11_thing 35 = .ok (.bipush (-3), 2) := by decide +kernel
theorem dX11_thing_37 : decode cX11_thing 37 = .ok (.ireturn, 1) := by decide +kernel
theorem dX11_thing_38 : decode cX11_thing 38 = .ok (.aload_n 0, 1) := by decide +kernel
theorem dX11_thing_39 : decode cX11_thing 39 = .ok (.iload_n 1, 1) := by decide +kernel
theorem dX11_thing_40 : decode cX11_thing 40 = .ok (.bipush 10, 2) := by decide +kernel
theorem dX11_thing_42 : decode cX11_thing 42 = .ok (.iconst 3, 1) := by decide +kernel
theorem dX11_thing_43 : decode cX11_thing 43 = .ok (.iload_n 2, 1) := by decide +kernel
theorem dX11_thing_44 : decode cX11_thing 44 = .ok (.invokevirtual 101, 3) := by decide +kernel
theorem dX11_thing_47 : decode cX11_thing 47 = .ok (.aload_n 0, 1) := by decide +kernel
theorem dX11_thing_48 : decode cX11_thing 48 = .ok (.getfield 90, 3) := by decide +kernel
theorem dX11_thing_51 : decode cX11_thing 51 = .ok (.iconst 1, 1) := by decide +kernel
theorem dX11_thing_52 : decode cX11_thing 52 = .ok (.isub, 1) := by decide +kernel
theorem dX11_thing_53 : decode cX11_thing 53 = .ok (.ireturn, 1) := by decide +kernel
theorem dX11_things_0 : decode cX11_things 0 = .ok (.iload_n 1, 1) := by decide +kernel
theorem dX11_things_1 : decode cX11_things 1 = .ok (.invokestatic 105, 3) := by decide +kernel
theorem dX11_things_4 : decode cX11_things 4 = .ok (.ifCond .eq 15, 3) := by decide +kernel
theorem dX11_things_7 : decode cX11_things 7 = .ok (.iload_n 3, 1) := by decide +kernel
theorem dX11_things_8 : decode cX11_things 8 = .ok (.i2l, 1) := by decide +kernel
theorem dX11_things_9 : decode cX11_things 9 = .ok (.lconst 1, 1) := by decide +kernel
theorem dX11_things_10 : decode cX11_things 10 = .ok (.ldc2_w 109, 3) := by decide +kernel
theorem dX11_things_13 : decode cX11_things 13 = .ok (.invokestatic 93, 3) := by decide +kernel
theorem dX11_things_16 : decode cX11_things 16 = .ok (.ifCond .ne 5, 3) := by decide +kernel
theorem dX11_things_19 : decode cX11_things 19 = .ok (.iconst (-1), 1) := by decide +kernel
theorem dX11_things_20 : decode cX11_things 20 = .ok (.ireturn, 1) := by decide +kernel
theorem dX11_things_21 : decode cX11_things 21 = .ok (.aload_n 0, 1) := by decide +kernel
theorem dX11_things_22 : decode cX11_things 22 = .ok (.getfield 65, 3) := by decide +kernel
theorem dX11_things_25 : decode cX11_things 25 = .ok (.iload_n 1, 1) := by decide +kernel
theorem dX11_things_26 : decode cX11_things 26 = .ok (.iaload, 1) := by decide +kernel
theorem dX11_things_27 : decode cX11_things 27 = .ok (.ifCond .lt 17, 3) := by decide +kernel
theorem dX11_things_30 : decode cX11_things 30 = .ok (.aload_n 0, 1) := by decide +kernel
theorem dX11_things_31 : decode cX11_things 31 = .ok (.getfield 65, 3) := by decide +kernel
theorem dX11_things_34 : decode cX11_things 34 = .ok (.iload_n 1, 1) := by decide +kernel
theorem dX11_things_35 : decode cX11_things 35 = .ok (.iaload, 1) := by decide +kernel
theorem dX11_things_36 : decode cX11_things 36 = .ok (.bipush 50, 2) := by decide +kernel
theorem dX11_things_38 : decode cX11_things 38 = .ok (.if_icmp .eq 6, 3) := by decide +kernel
theorem dX11_things_41 : decode cX11_things 41 = .ok (.bipush (-12), 2) := by decide +kernel
theorem dX11_things_43 : decode cX11_things 43 = .ok (.ireturn, 1) := by decide +kernel
theorem dX11_things_44 : decode cX11_things 44 = .ok (.iconst 0, 1) := by decide +kernel
theorem dX11_things_45 : decode cX11_things 45 = .ok (.istore 4, 2) := by decide +kernel
theorem dX11_things_47 : decode cX11_things 47 = .ok (.aload_n 0, 1) := by decide +kernel
theorem dX11_things_48 : decode cX11_things 48 = .ok (.getfield 65, 3) := by decide +kernel
theorem dX11_things_51 : decode cX11_things 51 = .ok (.iload_n 1, 1) := by decide +kernel
theorem dX11_things_52 : decode cX11_things 52 = .ok (.iaload, 1) := by decide +kernel
theorem dX11_things_53 : decode cX11_things 53 = .ok (.bipush 50, 2) := by decide +kernel
theorem dX11_things_55 : decode cX11_things 55 = .ok (.if_icmp .ne 11, 3) := by decide +kernel
theorem dX11_things_58 : decode cX11_things 58 = .ok (.iload_n 2, 1) := by decide +kernel
theorem dX11_things_59 : decode cX11_things 59 = .ok (.ifCond .lt 7, 3) := by decide +kernel
theorem dX11_things_62 : decode cX11_things 62 = .ok (.iconst 1, 1) := by decide +kernel
theorem dX11_things_63 : decode cX11_things 63 = .ok (.goto 4, 3) := by decide +kernel
theorem dX11_things_66 : decode cX11_things 66 = .ok (.iconst 0, 1) := by decide +kernel
theorem dX11_things_67 : decode cX11_things 67 = .ok (.istore 5, 2) := by decide +kernel
theorem dX11_things_69 : decode cX11_things 69 = .ok (.iload 5, 2) := by decide +kernel
theorem dX11_things_71 : decode cX11_things 71 = .ok (.ifCond .eq 167, 3) := by decide +kernel
theorem dX11_things_74 : decode cX11_things 74 = .ok (.iload 4, 2) := by decide +kernel
theorem dX11_things_76 : decode cX11_things 76 = .ok (.iload_n 3, 1) := by decide +kernel
theorem dX11_things_77 : decode cX11_things 77 = .ok (.if_icmp .ge 161, 3) := by decide +kernel
theorem dX11_things_80 : decode cX11_things 80 = .ok (.iload_n 2, 1) := by decide +kernel
theorem dX11_things_81 : decode cX11_things 81 = .ok (.aload_n 0, 1) := by decide +kernel
theorem dX11_things_82 : decode cX11_things 82 = .ok (.getfield 68, 3) := by decide +kernel
theorem dX11_things_85 : decode cX11_things 85 = .ok (.iload_n 1, 1) := by decide +kernel
theorem dX11_things_86 : decode cX11_things 86 = .ok (.iaload, 1) := by decide +kernel
theorem dX11_things_87 : decode cX11_things 87 = .ok (.iconst 3, 1) := by decide +kernel
theorem dX11_things_88 : decode cX11_things 88 = .ok (.isub, 1) := by decide +kernel
theorem dX11_things_89 : decode cX11_things 89 = .ok (.iconst 3, 1) := by decide +kernel
theorem dX11_things_90 : decode cX11_things 90 = .ok (.iload 4, 2) := by decide +kernel
theorem dX11_things_92 : decode cX11_things 92 = .ok (.imul, 1) := by decide +kernel
theorem dX11_things_93 : decode cX11_things 93 = .ok (.isub, 1) := by decide +kernel
theorem dX11_things_94 : decode cX11_things 94 = .ok (.if_icmp .gt 16, 3) := by decide +kernel
theorem dX11_things_97 : decode cX11_things 97 = .ok (.aload_n 0, 1) := by decide +kernel
theorem dX11_things_98 : decode cX11_things 98 = .ok (.getfield 90, 3) := by decide +kernel
theorem dX11_things_101 : decode cX11_things 101 = .ok (.bipush 6, 2) := by decide +kernel
theorem dX11_things_103 : decode cX11_things 103 = .ok (.if_icmp .ge 7, 3) := by decide +kernel
theorem dX11_things_106 : decode cX11_things 106 = .ok (.iconst 1, 1) := by decide +kernel
theorem dX11_things_107 : decode cX11_things 107 = .ok (.goto 4, 3) := by decide +kernel
theorem dX11_things_110 : decode cX11_things 110 = .ok (.iconst 0, 1) := by decide +kernel
theorem dX11_things_111 : decode cX11_things 111 = .ok (.istore 5, 2) := by decide +kernel
theorem dX11_things_113 : decode cX11_things 113 = .ok (.bipush 60, 2) := by decide +kernel
theorem dX11_things_115 : decode cX11_things 115 = .ok (.iload_n 1, 1) := by decide +kernel
theorem dX11_things_116 : decode cX11_things 116 = .ok (.imul, 1) := by decide +kernel
theorem dX11_things_117 : decode cX11_things 117 = .ok (.iload_n 2, 1) := by decide +kernel
theorem dX11_things_118 : decode cX11_things 118 = .ok (.iadd, 1) := by decide +kernel
theorem dX11_things_119 : decode cX11_things 119 = .ok (.iconst 3, 1) := by decide +kernel
theorem dX11_things_120 : decode cX11_things 120 = .ok (.iload 4, 2) := by decide +kernel
theorem dX11_things_122 : decode cX11_things 122 = .ok (.imul, 1) := by decide +kernel
theorem dX11_things_123 : decode cX11_things 123 = .ok (.iadd, 1) := by decide +kernel
theorem dX11_things_124 : decode cX11_things 124 = .ok (.istore 6, 2) := by decide +kernel
theorem dX11_things_126 : decode cX11_things 126 = .ok (.iload 5, 2) := by decide +kernel
theorem dX11_things_128 : decode cX11_things 128 = .ok (.ifCond .eq 62, 3) := by decide +kernel
theorem dX11_things_131 : decode cX11_things 131 = .ok (.aload_n 0, 1) := by decide +kernel
theorem dX11_things_132 : decode cX11_things 132 = .ok (.getfield 71, 3) := by decide +kernel
theorem dX11_things_135 : decode cX11_things 135 = .ok (.iload 6, 2) := by decide +kernel
theorem dX11_things_137 : decode cX11_things 137 = .ok (.laload, 1) := by decide +kernel
theorem dX11_things_138 : decode cX11_things 138 = .ok (.lconst 0, 1) := by decide +kernel
theorem dX11_things_139 : decode cX11_things 139 = .ok (.ldc2_w 111, 3) := by decide +kernel
theorem dX11_things_142 : decode cX11_things 142 = .ok (.invokestatic 93, 3) := by decide +kernel
theorem dX11_things_145 : decode cX11_things 145 = .ok (.ifCond .eq 45, 3) := by decide +kernel
theorem dX11_things_148 : decode cX11_things 148 = .ok (.aload_n 0, 1) := by decide +kernel
theorem dX11_things_149 : decode cX11_things 149 = .ok (.getfield 71, 3) := by decide +kernel
theorem dX11_things_152 : decode cX11_things 152 = .ok (.iload 6, 2) := by decide +kernel
theorem dX11_things_154 : decode cX11_things 154 = .ok (.iconst 1, 1) := by decide +kernel
theorem dX11_things_155 : decode cX11_things 155 = .ok (.iadd, 1) := by decide +kernel
theorem dX11_things_156 : decode cX11_things 156 = .ok (.laload, 1) := by decide +kernel
theorem dX11_things_157 : decode cX11_things 157 = .ok (.lconst 0, 1) := by decide +kernel
theorem dX11_things_158 : decode cX11_things 158 = .ok (.ldc2_w 113, 3) := by decide +kernel
theorem dX11_things_161 : decode cX11_things 161 = .ok (.invokestatic 93, 3) := by decide +kernel
theorem dX11_things_164 : decode cX11_things 164 = .ok (.ifCond .eq 26, 3) := by decide +kernel
theorem dX11_things_167 : decode cX11_things 167 = .ok (.aload_n 0, 1) := by decide +kernel
theorem dX11_things_168 : decode cX11_things 168 = .ok (.getfield 71, 3) := by decide +kernel
theorem dX11_things_171 : decode cX11_things 171 = .ok (.iload 6, 2) := by decide +kernel
theorem dX11_things_173 : decode cX11_things 173 = .ok (.iconst 2, 1) := by decide +kernel
theorem dX11_things_174 : decode cX11_things 174 = .ok (.iadd, 1) := by decide +kernel
theorem dX11_things_175 : decode cX11_things 175 = .ok (.laload, 1) := by decide +kernel
theorem dX11_things_176 : decode cX11_things 176 = .ok (.lconst 0, 1) := by decide +kernel
theorem dX11_things_177 : decode cX11_things 177 = .ok (.ldc2_w 113, 3) := by decide +kernel
theorem dX11_things_180 : decode cX11_things 180 = .ok (.invokestatic 93, 3) := by decide +kernel
theorem dX11_things_183 : decode cX11_things 183 = .ok (.ifCond .eq 7, 3) := by decide +kernel
theorem dX11_things_186 : decode cX11_things 186 = .ok (.iconst 1, 1) := by decide +kernel
theorem dX11_things_187 : decode cX11_things 187 = .ok (.goto 4, 3) := by decide +kernel
theorem dX11_things_190 : decode cX11_things 190 = .ok (.iconst 0, 1) := by decide +kernel
theorem dX11_things_191 : decode cX11_things 191 = .ok (.istore 5, 2) := by decide +kernel
theorem dX11_things_193 : decode cX11_things 193 = .ok (.iload 5, 2) := by decide +kernel
theorem dX11_things_195 : decode cX11_things 195 = .ok (.ifCond .eq 40, 3) := by decide +kernel
theorem dX11_things_198 : decode cX11_things 198 = .ok (.aload_n 0, 1) := by decide +kernel
theorem dX11_things_199 : decode cX11_things 199 = .ok (.aload_n 0, 1) := by decide +kernel
theorem dX11_things_200 : decode cX11_things 200 = .ok (.getfield 71, 3) := by decide +kernel
theorem dX11_things_203 : decode cX11_things 203 = .ok (.iload 6, 2) := by decide +kernel
theorem dX11_things_205 : decode cX11_things 205 = .ok (.laload, 1) := by decide +kernel
theorem dX11_things_206 : decode cX11_things 206 = .ok (.l2i, 1) := by decide +kernel
theorem dX11_things_207 : decode cX11_things 207 = .ok (.aload_n 0, 1) := by decide +kernel
theorem dX11_things_208 : decode cX11_things 208 = .ok (.getfield 71, 3) := by decide +kernel
theorem dX11_things_211 : decode cX11_things 211 = .ok (.iload 6, 2) := by decide +kernel
theorem dX11_things_213 : decode cX11_things 213 = .ok (.iconst 1, 1) := by decide +kernel
theorem dX11_things_214 : decode cX11_things 214 = .ok (.iadd, 1) := by decide +kernel
theorem dX11_things_215 : decode cX11_things 215 = .ok (.laload, 1) := by decide +kernel
theorem dX11_things_216 : decode cX11_things 216 = .ok (.l2i, 1) := by decide +kernel
theorem dX11_things_217 : decode cX11_things 217 = .ok (.aload_n 0, 1) := by decide +kernel
theorem dX11_things_218 : decode cX11_things 218 = .ok (.getfield 71, 3) := by decide +kernel
theorem dX11_things_221 : decode cX11_things 221 = .ok (.iload 6, 2) := by decide +kernel
theorem dX11_things_223 : decode cX11_things 223 = .ok (.iconst 2, 1) := by decide +kernel
theorem dX11_things_224 : decode cX11_things 224 = .ok (.iadd, 1) := by decide +kernel
theorem dX11_things_225 : decode cX11_things 225 = .ok (.laload, 1) := by decide +kernel
theorem dX11_things_226 : decode cX11_things 226 = .ok (.l2i, 1) := by decide +kernel
theorem dX11_things_227 : decode cX11_things 227 = .ok (.bipush 100, 2) := by decide +kernel
theorem dX11_things_229 : decode cX11_things 229 = .ok (.invokevirtual 101, 3) := by decide +kernel
theorem dX11_things_232 : decode cX11_things 232 = .ok (.iinc 4 1, 3) := by decide +kernel
theorem dX11_things_235 : decode cX11_things 235 = .ok (.goto (-166), 3) := by decide +kernel
theorem dX11_things_238 : decode cX11_things 238 = .ok (.iload 4, 2) := by decide +kernel
theorem dX11_things_240 : decode cX11_things 240 = .ok (.ireturn, 1) := by decide +kernel
theorem dX11_isRoom_0 : decode cX11_isRoom 0 = .ok (.lload_n 0, 1) := by decide +kernel
theorem dX11_isRoom_1 : decode cX11_isRoom 1 = .ok (.lconst 0, 1) := by decide +kernel
theorem dX11_isRoom_2 : decode cX11_isRoom 2 = .ok (.ldc2_w 115, 3) := by decide +kernel
theorem dX11_isRoom_5 : decode cX11_isRoom 5 = .ok (.invokestatic 93, 3) := by decide +kernel
theorem dX11_isRoom_8 : decode cX11_isRoom 8 = .ok (.ireturn, 1) := by decide +kernel
theorem dX11_wayAt_0 : decode cX11_wayAt 0 = .ok (.iload_n 0, 1) := by decide +kernel
theorem dX11_wayAt_1 : decode cX11_wayAt 1 = .ok (.iload_n 1, 1) := by decide +kernel
theorem dX11_wayAt_2 : decode cX11_wayAt 2 = .ok (.if_icmp .ge 15, 3) := by decide +kernel
theorem dX11_wayAt_5 : decode cX11_wayAt 5 = .ok (.bipush 39, 2) := by decide +kernel
theorem dX11_wayAt_7 : decode cX11_wayAt 7 = .ok (.bipush 6, 2) := by decide +kernel
theorem dX11_wayAt_9 : decode cX11_wayAt 9 = .ok (.iload_n 0, 1) := by decide +kernel
theorem dX11_wayAt_10 : decode cX11_wayAt 10 = .ok (.imul, 1) := by decide +kernel
theorem dX11_wayAt_11 : decode cX11_wayAt 11 = .ok (.iadd, 1) := by decide +kernel
theorem dX11_wayAt_12 : decode cX11_wayAt 12 = .ok (.iload_n 1, 1) := by decide +kernel
theorem dX11_wayAt_13 : decode cX11_wayAt 13 = .ok (.iadd, 1) := by decide +kernel
theorem dX11_wayAt_14 : decode cX11_wayAt 14 = .ok (.goto 12, 3) := by decide +kernel
theorem dX11_wayAt_17 : decode cX11_wayAt 17 = .ok (.bipush 39, 2) := by decide +kernel
theorem dX11_wayAt_19 : decode cX11_wayAt 19 = .ok (.bipush 6, 2) := by decide +kernel
theorem dX11_wayAt_21 : decode cX11_wayAt 21 = .ok (.iload_n 1, 1) := by decide +kernel
theorem dX11_wayAt_22 : decode cX11_wayAt 22 = .ok (.imul, 1) := by decide +kernel
theorem dX11_wayAt_23 : decode cX11_wayAt 23 = .ok (.iadd, 1) := by decide +kernel
theorem dX11_wayAt_24 : decode cX11_wayAt 24 = .ok (.iload_n 0, 1) := by decide +kernel
theorem dX11_wayAt_25 : decode cX11_wayAt 25 = .ok (.iadd, 1) := by decide +kernel
theorem dX11_wayAt_26 : decode cX11_wayAt 26 = .ok (.ireturn, 1) := by decide +kernel
theorem dX11_isTwo_0 : decode cX11_isTwo 0 = .ok (.iload_n 0, 1) := by decide +kernel
theorem dX11_isTwo_1 : decode cX11_isTwo 1 = .ok (.ifCond .lt 40, 3) := by decide +kernel
theorem dX11_isTwo_4 : decode cX11_isTwo 4 = .ok (.iload_n 0, 1) := by decide +kernel
theorem dX11_isTwo_5 : decode cX11_isTwo 5 = .ok (.bipush 10, 2) := by decide +kernel
theorem dX11_isTwo_7 : decode cX11_isTwo 7 = .ok (.idiv, 1) := by decide +kernel
theorem dX11_isTwo_8 : decode cX11_isTwo 8 = .ok (.i2l, 1) := by decide +kernel
theorem dX11_isTwo_9 : decode cX11_isTwo 9 = .ok (.invokestatic 117, 3) := by decide +kernel
theorem dX11_isTwo_12 : decode cX11_isTwo 12 = .ok (.ifCond .eq 29, 3) := by decide +kernel
theorem dX11_isTwo_15 : decode cX11_isTwo 15 = .ok (.iload_n 0, 1) := by decide +kernel
theorem dX11_isTwo_16 : decode cX11_isTwo 16 = .ok (.bipush 10, 2) := by decide +kernel
theorem dX11_isTwo_18 : decode cX11_isTwo 18 = .ok (.irem, 1) := by decide +kernel
theorem dX11_isTwo_19 : decode cX11_isTwo 19 = .ok (.i2l, 1) := by decide +kernel
theorem dX11_isTwo_20 : decode cX11_isTwo 20 = .ok (.invokestatic 117, 3) := by decide +kernel
theorem dX11_isTwo_23 : decode cX11_isTwo 23 = .ok (.ifCond .eq 18, 3) := by decide +kernel
theorem dX11_isTwo_26 : decode cX11_isTwo 26 = .ok (.iload_n 0, 1) := by decide +kernel
theorem dX11_isTwo_27 : decode cX11_isTwo 27 = .ok (.bipush 10, 2) := by decide +kernel
theorem dX11_isTwo_29 : decode cX11_isTwo 29 = .ok (.idiv, 1) := by decide +kernel
theorem dX11_isTwo_30 : decode cX11_isTwo 30 = .ok (.iload_n 0, 1) := by decide +kernel
theorem dX11_isTwo_31 : decode cX11_isTwo 31 = .ok (.bipush 10, 2) := by decide +kernel
theorem dX11_isTwo_33 : decode cX11_isTwo 33 = .ok (.irem, 1) := by decide +kernel
theorem dX11_isTwo_34 : decode cX11_isTwo 34 = .ok (.if_icmp .eq 7, 3) := by decide +kernel
theorem dX11_isTwo_37 : decode cX11_isTwo 37 = .ok (.iconst 1, 1) := by decide +kernel
theorem dX11_isTwo_38 : decode cX11_isTwo 38 = .ok (.goto 4, 3) := by decide +kernel
theorem dX11_isTwo_41 : decode cX11_isTwo 41 = .ok (.iconst 0, 1) := by decide +kernel
theorem dX11_isTwo_42 : decode cX11_isTwo 42 = .ok (.ireturn, 1) := by decide +kernel
theorem dX11_placeOf_0 : decode cX11_placeOf 0 = .ok (.iload_n 2, 1) := by decide +kernel
theorem dX11_placeOf_1 : decode cX11_placeOf 1 = .ok (.i2l, 1) := by decide +kernel
theorem dX11_placeOf_2 : decode cX11_placeOf 2 = .ok (.lconst 0, 1) := by decide +kernel
theorem dX11_placeOf_3 : decode cX11_placeOf 3 = .ok (.ldc2_w 115, 3) := by decide +kernel
theorem dX11_placeOf_6 : decode cX11_placeOf 6 = .ok (.invokestatic 93, 3) := by decide +kernel
theorem dX11_placeOf_9 : decode cX11_placeOf 9 = .ok (.ifCond .eq 23, 3) := by decide +kernel
theorem dX11_placeOf_12 : decode cX11_placeOf 12 = .ok (.aload_n 0, 1) := by decide +kernel
theorem dX11_placeOf_13 : decode cX11_placeOf 13 = .ok (.iload_n 1, 1) := by decide +kernel
theorem dX11_placeOf_14 : decode cX11_placeOf 14 = .ok (.i2l, 1) := by decide +kernel
theorem dX11_placeOf_15 : decode cX11_placeOf 15 = .ok (.invokevirtual 121, 3) := by decide +kernel
theorem dX11_placeOf_18 : decode cX11_placeOf 18 = .ok (.ifCond .eq 12, 3) := by decide +kernel
theorem dX11_placeOf_21 : decode cX11_placeOf 21 = .ok (.bipush 6, 2) := by decide +kernel
theorem dX11_placeOf_23 : decode cX11_placeOf 23 = .ok (.iload_n 2, 1) := by decide +kernel
theorem dX11_placeOf_24 : decode cX11_placeOf 24 = .ok (.imul, 1) := by decide +kernel
theorem dX11_placeOf_25 : decode cX11_placeOf 25 = .ok (.iload_n 1, 1) := by decide +kernel
theorem dX11_placeOf_26 : decode cX11_placeOf 26 = .ok (.iadd, 1) := by decide +kernel
theorem dX11_placeOf_27 : decode cX11_placeOf 27 = .ok (.goto 4, 3) := by decide +kernel
theorem dX11_placeOf_30 : decode cX11_placeOf 30 = .ok (.iconst (-1), 1) := by decide +kernel
theorem dX11_placeOf_31 : decode cX11_placeOf 31 = .ok (.ireturn, 1) := by decide +kernel
theorem dX11_placeOf_32 : decode cX11_placeOf 32 = .ok (.iload_n 2, 1) := by decide +kernel
theorem dX11_placeOf_33 : decode cX11_placeOf 33 = .ok (.i2l, 1) := by decide +kernel
theorem dX11_placeOf_34 : decode cX11_placeOf 34 = .ok (.ldc2_w 109, 3) := by decide +kernel
theorem dX11_placeOf_37 : decode cX11_placeOf 37 = .ok (.ldc2_w 124, 3) := by decide +kernel
theorem dX11_placeOf_40 : decode cX11_placeOf 40 = .ok (.invokestatic 93, 3) := by decide +kernel
theorem dX11_placeOf_43 : decode cX11_placeOf 43 = .ok (.ifCond .eq 19, 3) := by decide +kernel
theorem dX11_placeOf_46 : decode cX11_placeOf 46 = .ok (.iload_n 1, 1) := by decide +kernel
theorem dX11_placeOf_47 : decode cX11_placeOf 47 = .ok (.ifCond .ne 13, 3) := by decide +kernel
theorem dX11_placeOf_50 : decode cX11_placeOf 50 = .ok (.bipush 36, 2) := by decide +kernel
theorem dX11_placeOf_52 : decode cX11_placeOf 52 = .ok (.iload_n 2, 1) := by decide +kernel
theorem dX11_placeOf_53 : decode cX11_placeOf 53 = .ok (.iadd, 1) := by decide +kernel
theorem dX11_placeOf_54 : decode cX11_placeOf 54 = .ok (.bipush 6, 2) := by decide +kernel
theorem dX11_placeOf_56 : decode cX11_placeOf 56 = .ok (.isub, 1) := by decide +kernel
theorem dX11_placeOf_57 : decode cX11_placeOf 57 = .ok (.goto 4, 3) := by decide +kernel
theorem dX11_placeOf_60 : decode cX11_placeOf 60 = .ok (.iconst (-1), 1) := by decide +kernel
theorem dX11_placeOf_61 : decode cX11_placeOf 61 = .ok (.ireturn, 1) := by decide +kernel
theorem dX11_placeOf_62 : decode cX11_placeOf 62 = .ok (.iload_n 2, 1) := by decide +kernel
theorem dX11_placeOf_63 : decode cX11_placeOf 63 = .ok (.bipush 9, 2) := by decide +kernel
theorem dX11_placeOf_65 : decode cX11_placeOf 65 = .ok (.if_icmp .ne 24, 3) := by decide +kernel
theorem dX11_placeOf_68 : decode cX11_placeOf 68 = .ok (.iload_n 1, 1) := by decide +kernel
theorem dX11_placeOf_69 : decode cX11_placeOf 69 = .ok (.invokestatic 126, 3) := by decide +kernel
theorem dX11_placeOf_72 : decode cX11_placeOf 72 = .ok (.ifCond .eq 17, 3) := by decide +kernel
theorem dX11_placeOf_75 : decode cX11_placeOf 75 = .ok (.iload_n 1, 1) := by decide +kernel
theorem dX11_placeOf_76 : decode cX11_placeOf 76 = .ok (.bipush 10, 2) := by decide +kernel
theorem dX11_placeOf_78 : decode cX11_placeOf 78 = .ok (.idiv, 1) := by decide +kernel
theorem dX11_placeOf_79 : decode cX11_placeOf 79 = .ok (.iload_n 1, 1) := by decide +kernel
theorem dX11_placeOf_80 : decode cX11_placeOf 80 = .ok (.bipush 10, 2) := by decide +kernel
theorem dX11_placeOf_82 : decode cX11_placeOf 82 = .ok (.irem, 1) := by decide +kernel
theorem dX11_placeOf_83 : decode cX11_placeOf 83 = .ok (.invokestatic 129, 3) := by decide +kernel
theorem dX11_placeOf_86 : decode cX11_placeOf 86 = .ok (.goto 4, 3) := by decide +kernel
theorem dX11_placeOf_89 : decode cX11_placeOf 89 = .ok (.iconst (-1), 1) := by decide +kernel
theorem dX11_placeOf_90 : decode cX11_placeOf 90 = .ok (.ireturn, 1) := by decide +kernel
theorem dX11_mostOf_0 : decode cX11_mostOf 0 = .ok (.iload_n 0, 1) := by decide +kernel
theorem dX11_mostOf_1 : decode cX11_mostOf 1 = .ok (.tableswitch 54 0 5 #[39, 43, 43, 46, 50, 52], 39) := by decide +kernel
theorem dX11_mostOf_40 : decode cX11_mostOf 40 = .ok (.sipush 144, 3) := by decide +kernel
theorem dX11_mostOf_43 : decode cX11_mostOf 43 = .ok (.ireturn, 1) := by decide +kernel
theorem dX11_mostOf_44 : decode cX11_mostOf 44 = .ok (.bipush 12, 2) := by decide +kernel
theorem dX11_mostOf_46 : decode cX11_mostOf 46 = .ok (.ireturn, 1) := by decide +kernel
theorem dX11_mostOf_47 : decode cX11_mostOf 47 = .ok (.sipush 999, 3) := by decide +kernel
theorem dX11_mostOf_50 : decode cX11_mostOf 50 = .ok (.ireturn, 1) := by decide +kernel
theorem dX11_mostOf_51 : decode cX11_mostOf 51 = .ok (.iconst 1, 1) := by decide +kernel
theorem dX11_mostOf_52 : decode cX11_mostOf 52 = .ok (.ireturn, 1) := by decide +kernel
theorem dX11_mostOf_53 : decode cX11_mostOf 53 = .ok (.iconst 5, 1) := by decide +kernel
theorem dX11_mostOf_54 : decode cX11_mostOf 54 = .ok (.ireturn, 1) := by decide +kernel
theorem dX11_mostOf_55 : decode cX11_mostOf 55 = .ok (.bipush 99, 2) := by decide +kernel
theorem dX11_mostOf_57 : decode cX11_mostOf 57 = .ok (.ireturn, 1) := by decide +kernel
theorem dX11_mend_0 : decode cX11_mend 0 = .ok (.aload_n 0, 1) := by decide +kernel
theorem dX11_mend_1 : decode cX11_mend 1 = .ok (.iload_n 1, 1) := by decide +kernel
theorem dX11_mend_2 : decode cX11_mend 2 = .ok (.iload_n 2, 1) := by decide +kernel
theorem dX11_mend_3 : decode cX11_mend 3 = .ok (.invokevirtual 133, 3) := by decide +kernel
theorem dX11_mend_6 : decode cX11_mend 6 = .ok (.istore 4, 2) := by decide +kernel
theorem dX11_mend_8 : decode cX11_mend 8 = .ok (.iload 4, 2) := by decide +kernel
theorem dX11_mend_10 : decode cX11_mend 10 = .ok (.ifCond .lt 27, 3) := by decide +kernel
theorem dX11_mend_13 : decode cX11_mend 13 = .ok (.iload_n 3, 1) := by decide +kernel
theorem dX11_mend_14 : decode cX11_mend 14 = .ok (.i2l, 1) := by decide +kernel
theorem dX11_mend_15 : decode cX11_mend 15 = .ok (.lconst 0, 1) := by decide +kernel
theorem dX11_mend_16 : decode cX11_mend 16 = .ok (.iload_n 2, 1) := by decide +kernel
theorem dX11_mend_17 : decode cX11_mend 17 = .ok (.invokestatic 136, 3) := by decide +kernel
theorem dX11_mend_20 : decode cX11_mend 20 = .ok (.i2l, 1) := by decide +kernel
theorem dX11_mend_21 : decode cX11_mend 21 = .ok (.invokestatic 93, 3) := by decide +kernel
theorem dX11_mend_24 : decode cX11_mend 24 = .ok (.ifCond .eq 13, 3) := by decide +kernel
theorem dX11_mend_27 : decode cX11_mend 27 = .ok (.aload_n 0, 1) := by decide +kernel
theorem dX11_mend_28 : decode cX11_mend 28 = .ok (.iload 4, 2) := by decide +kernel
theorem dX11_mend_30 : decode cX11_mend 30 = .ok (.iload_n 3, 1) := by decide +kernel
theorem dX11_mend_31 : decode cX11_mend 31 = .ok (.invokevirtual 140, 3) := by decide +kernel
theorem dX11_mend_34 : decode cX11_mend 34 = .ok (.goto 4, 3) := by decide +kernel
theorem dX11_mend_37 : decode cX11_mend 37 = .ok (.iconst (-1), 1) := by decide +kernel
theorem dX11_mend_38 : decode cX11_mend 38 = .ok (.ireturn, 1) := by decide +kernel
theorem dX11_of_0 : decode cX11_of 0 = .ok (.aload_n 0, 1) := by decide +kernel
theorem dX11_of_1 : decode cX11_of 1 = .ok (.iload_n 1, 1) := by decide +kernel
theorem dX11_of_2 : decode cX11_of 2 = .ok (.iload_n 2, 1) := by decide +kernel
theorem dX11_of_3 : decode cX11_of 3 = .ok (.invokevirtual 133, 3) := by decide +kernel
theorem dX11_of_6 : decode cX11_of 6 = .ok (.istore_n 3, 1) := by decide +kernel
theorem dX11_of_7 : decode cX11_of 7 = .ok (.iload_n 3, 1) := by decide +kernel
theorem dX11_of_8 : decode cX11_of 8 = .ok (.ifCond .lt 10, 3) := by decide +kernel
theorem dX11_of_11 : decode cX11_of 11 = .ok (.aload_n 0, 1) := by decide +kernel
theorem dX11_of_12 : decode cX11_of 12 = .ok (.getfield 11, 3) := by decide +kernel
theorem dX11_of_15 : decode cX11_of 15 = .ok (.iload_n 3, 1) := by decide +kernel
theorem dX11_of_16 : decode cX11_of 16 = .ok (.iaload, 1) := by decide +kernel
theorem dX11_of_17 : decode cX11_of 17 = .ok (.ireturn, 1) := by decide +kernel
theorem dX11_of_18 : decode cX11_of 18 = .ok (.iload_n 2, 1) := by decide +kernel
theorem dX11_of_19 : decode cX11_of 19 = .ok (.tableswitch 71 10 12 #[25, 45, 58], 25) := by decide +kernel
theorem dX11_of_44 : decode cX11_of 44 = .ok (.aload_n 0, 1) := by decide +kernel
theorem dX11_of_45 : decode cX11_of 45 = .ok (.iload_n 1, 1) := by decide +kernel
theorem dX11_of_46 : decode cX11_of 46 = .ok (.i2l, 1) := by decide +kernel
theorem dX11_of_47 : decode cX11_of 47 = .ok (.invokevirtual 121, 3) := by decide +kernel
theorem dX11_of_50 : decode cX11_of 50 = .ok (.ifCond .eq 12, 3) := by decide +kernel
theorem dX11_of_53 : decode cX11_of 53 = .ok (.aload_n 0, 1) := by decide +kernel
theorem dX11_of_54 : decode cX11_of 54 = .ok (.getfield 24, 3) := by decide +kernel
theorem dX11_of_57 : decode cX11_of 57 = .ok (.iload_n 1, 1) := by decide +kernel
theorem dX11_of_58 : decode cX11_of 58 = .ok (.iaload, 1) := by decide +kernel
theorem dX11_of_59 : decode cX11_of 59 = .ok (.goto 4, 3) := by decide +kernel
theorem dX11_of_62 : decode cX11_of 62 = .ok (.iconst (-1), 1) := by decide +kernel
theorem dX11_of_63 : decode cX11_of 63 = .ok (.ireturn, 1) := by decide +kernel
theorem dX11_of_64 : decode cX11_of 64 = .ok (.iload_n 1, 1) := by decide +kernel
theorem dX11_of_65 : decode cX11_of 65 = .ok (.ifCond .ne 10, 3) := by decide +kernel
theorem dX11_of_68 : decode cX11_of 68 = .ok (.aload_n 0, 1) := by decide +kernel
theorem dX11_of_69 : decode cX11_of 69 = .ok (.getfield 143, 3) := by decide +kernel
theorem dX11_of_72 : decode cX11_of 72 = .ok (.goto 4, 3) := by decide +kernel
theorem dX11_of_75 : decode cX11_of 75 = .ok (.iconst (-1), 1) := by decide +kernel
theorem dX11_of_76 : decode cX11_of 76 = .ok (.ireturn, 1) := by decide +kernel
theorem dX11_of_77 : decode cX11_of 77 = .ok (.iload_n 1, 1) := by decide +kernel
theorem dX11_of_78 : decode cX11_of 78 = .ok (.ifCond .ne 10, 3) := by decide +kernel
theorem dX11_of_81 : decode cX11_of 81 = .ok (.aload_n 0, 1) := by decide +kernel
theorem dX11_of_82 : decode cX11_of 82 = .ok (.getfield 146, 3) := by decide +kernel
theorem dX11_of_85 : decode cX11_of 85 = .ok (.goto 4, 3) := by decide +kernel
theorem dX11_of_88 : decode cX11_of 88 = .ok (.iconst (-1), 1) := by decide +kernel
theorem dX11_of_89 : decode cX11_of 89 = .ok (.ireturn, 1) := by decide +kernel
theorem dX11_of_90 : decode cX11_of 90 = .ok (.iconst (-1), 1) := by decide +kernel
theorem dX11_of_91 : decode cX11_of 91 = .ok (.ireturn, 1) := by decide +kernel
theorem dX11_traceOf_0 : decode cX11_traceOf 0 = .ok (.aload_n 0, 1) := by decide +kernel
theorem dX11_traceOf_1 : decode cX11_traceOf 1 = .ok (.iload_n 1, 1) := by decide +kernel
theorem dX11_traceOf_2 : decode cX11_traceOf 2 = .ok (.iconst 4, 1) := by decide +kernel
theorem dX11_traceOf_3 : decode cX11_traceOf 3 = .ok (.invokevirtual 149, 3) := by decide +kernel
theorem dX11_traceOf_6 : decode cX11_traceOf 6 = .ok (.iconst 1, 1) := by decide +kernel
theorem dX11_traceOf_7 : decode cX11_traceOf 7 = .ok (.if_icmp .ne 8, 3) := by decide +kernel
theorem dX11_traceOf_10 : decode cX11_traceOf 10 = .ok (.bipush 12, 2) := by decide +kernel
theorem dX11_traceOf_12 : decode cX11_traceOf 12 = .ok (.goto 9, 3) := by decide +kernel
theorem dX11_traceOf_15 : decode cX11_traceOf 15 = .ok (.aload_n 0, 1) := by decide +kernel
theorem dX11_traceOf_16 : decode cX11_traceOf 16 = .ok (.iload_n 1, 1) := by decide +kernel
theorem dX11_traceOf_17 : decode cX11_traceOf 17 = .ok (.iconst 1, 1) := by decide +kernel
theorem dX11_traceOf_18 : decode cX11_traceOf 18 = .ok (.invokevirtual 149, 3) := by decide +kernel
theorem dX11_traceOf_21 : decode cX11_traceOf 21 = .ok (.ireturn, 1) := by decide +kernel
theorem dX11_staleOf_0 : decode cX11_staleOf 0 = .ok (.aload_n 0, 1) := by decide +kernel
theorem dX11_staleOf_1 : decode cX11_staleOf 1 = .ok (.iload_n 1, 1) := by decide +kernel
theorem dX11_staleOf_2 : decode cX11_staleOf 2 = .ok (.iconst 4, 1) := by decide +kernel
theorem dX11_staleOf_3 : decode cX11_staleOf 3 = .ok (.invokevirtual 149, 3) := by decide +kernel
theorem dX11_staleOf_6 : decode cX11_staleOf 6 = .ok (.iconst 1, 1) := by decide +kernel
theorem dX11_staleOf_7 : decode cX11_staleOf 7 = .ok (.if_icmp .ne 12, 3) := by decide +kernel
theorem dX11_staleOf_10 : decode cX11_staleOf 10 = .ok (.aload_n 0, 1) := by decide +kernel
theorem dX11_staleOf_11 : decode cX11_staleOf 11 = .ok (.getfield 24, 3) := by decide +kernel
theorem dX11_staleOf_14 : decode cX11_staleOf 14 = .ok (.iload_n 1, 1) := by decide +kernel
theorem dX11_staleOf_15 : decode cX11_staleOf 15 = .ok (.iaload, 1) := by decide +kernel
theorem dX11_staleOf_16 : decode cX11_staleOf 16 = .ok (.goto 9, 3) := by decide +kernel
theorem dX11_staleOf_19 : decode cX11_staleOf 19 = .ok (.aload_n 0, 1) := by decide +kernel
theorem dX11_staleOf_20 : decode cX11_staleOf 20 = .ok (.iload_n 1, 1) := by decide +kernel
theorem dX11_staleOf_21 : decode cX11_staleOf 21 = .ok (.iconst 2, 1) := by decide +kernel
theorem dX11_staleOf_22 : decode cX11_staleOf 22 = .ok (.invokevirtual 149, 3) := by decide +kernel
theorem dX11_staleOf_25 : decode cX11_staleOf 25 = .ok (.ireturn, 1) := by decide +kernel
theorem dX11_asksOpen_0 : decode cX11_asksOpen 0 = .ok (.aload_n 0, 1) := by decide +kernel
theorem dX11_asksOpen_1 : decode cX11_asksOpen 1 = .ok (.iload_n 1, 1) := by decide +kernel
theorem dX11_asksOpen_2 : decode cX11_asksOpen 2 = .ok (.iconst 0, 1) := by decide +kernel
theorem dX11_asksOpen_3 : decode cX11_asksOpen 3 = .ok (.invokevirtual 149, 3) := by decide +kernel
theorem dX11_asksOpen_6 : decode cX11_asksOpen 6 = .ok (.istore_n 3, 1) := by decide +kernel
theorem dX11_asksOpen_7 : decode cX11_asksOpen 7 = .ok (.iload_n 2, 1) := by decide +kernel
theorem dX11_asksOpen_8 : decode cX11_asksOpen 8 = .ok (.iconst 2, 1) := by decide +kernel
theorem dX11_asksOpen_9 : decode cX11_asksOpen 9 = .ok (.if_icmp .ne 7, 3) := by decide +kernel
theorem dX11_asksOpen_12 : decode cX11_asksOpen 12 = .ok (.iconst 1, 1) := by decide +kernel
theorem dX11_asksOpen_13 : decode cX11_asksOpen 13 = .ok (.goto 24, 3) := by decide +kernel
theorem dX11_asksOpen_16 : decode cX11_asksOpen 16 = .ok (.iload_n 2, 1) := by decide +kernel
theorem dX11_asksOpen_17 : decode cX11_asksOpen 17 = .ok (.iconst 1, 1) := by decide +kernel
theorem dX11_asksOpen_18 : decode cX11_asksOpen 18 = .ok (.if_icmp .ne 11, 3) := by decide +kernel
theorem dX11_asksOpen_21 : decode cX11_asksOpen 21 = .ok (.aload_n 0, 1) := by decide +kernel
theorem dX11_asksOpen_22 : decode cX11_asksOpen 22 = .ok (.iload_n 1, 1) := by decide +kernel
theorem dX11_asksOpen_23 : decode cX11_asksOpen 23 = .ok (.invokevirtual 152, 3) := by decide +kernel
theorem dX11_asksOpen_26 : decode cX11_asksOpen 26 = .ok (.goto 11, 3) := by decide +kernel
theorem dX11_asksOpen_29 : decode cX11_asksOpen 29 = .ok (.bipush 12, 2) := by decide +kernel
theorem dX11_asksOpen_31 : decode cX11_asksOpen 31 = .ok (.aload_n 0, 1) := by decide +kernel
theorem dX11_asksOpen_32 : decode cX11_asksOpen 32 = .ok (.iload_n 1, 1) := by decide +kernel
theorem dX11_asksOpen_33 : decode cX11_asksOpen 33 = .ok (.invokevirtual 152, 3) := by decide +kernel
theorem dX11_asksOpen_36 : decode cX11_asksOpen 36 = .ok (.isub, 1) := by decide +kernel
theorem dX11_asksOpen_37 : decode cX11_asksOpen 37 = .ok (.istore 4, 2) := by decide +kernel
theorem dX11_asksOpen_39 : decode cX11_asksOpen 39 = .ok (.iload_n 2, 1) := by decide +kernel
theorem dX11_asksOpen_40 : decode cX11_asksOpen 40 = .ok (.iconst 2, 1) := by decide +kernel
theorem dX11_asksOpen_41 : decode cX11_asksOpen 41 = .ok (.if_icmp .ne 7, 3) := by decide +kernel
theorem dX11_asksOpen_44 : decode cX11_asksOpen 44 = .ok (.iconst 1, 1) := by decide +kernel
theorem dX11_asksOpen_45 : decode cX11_asksOpen 45 = .ok (.goto 24, 3) := by decide +kernel
theorem dX11_asksOpen_48 : decode cX11_asksOpen 48 = .ok (.iload_n 2, 1) := by decide +kernel
theorem dX11_asksOpen_49 : decode cX11_asksOpen 49 = .ok (.iconst 1, 1) := by decide +kernel
theorem dX11_asksOpen_50 : decode cX11_asksOpen 50 = .ok (.if_icmp .ne 11, 3) := by decide +kernel
theorem dX11_asksOpen_53 : decode cX11_asksOpen 53 = .ok (.aload_n 0, 1) := by decide +kernel
theorem dX11_asksOpen_54 : decode cX11_asksOpen 54 = .ok (.iload_n 1, 1) := by decide +kernel
theorem dX11_asksOpen_55 : decode cX11_asksOpen 55 = .ok (.invokevirtual 155, 3) := by decide +kernel
theorem dX11_asksOpen_58 : decode cX11_asksOpen 58 = .ok (.goto 11, 3) := by decide +kernel
theorem dX11_asksOpen_61 : decode cX11_asksOpen 61 = .ok (.bipush 12, 2) := by decide +kernel
theorem dX11_asksOpen_63 : decode cX11_asksOpen 63 = .ok (.aload_n 0, 1) := by decide +kernel
theorem dX11_asksOpen_64 : decode cX11_asksOpen 64 = .ok (.iload_n 1, 1) := by decide +kernel
theorem dX11_asksOpen_65 : decode cX11_asksOpen 65 = .ok (.invokevirtual 155, 3) := by decide +kernel
theorem dX11_asksOpen_68 : decode cX11_asksOpen 68 = .ok (.isub, 1) := by decide +kernel
theorem dX11_asksOpen_69 : decode cX11_asksOpen 69 = .ok (.istore 5, 2) := by decide +kernel
theorem dX11_asksOpen_71 : decode cX11_asksOpen 71 = .ok (.aload_n 0, 1) := by decide +kernel
theorem dX11_asksOpen_72 : decode cX11_asksOpen 72 = .ok (.iload_n 3, 1) := by decide +kernel
theorem dX11_asksOpen_73 : decode cX11_asksOpen 73 = .ok (.i2l, 1) := by decide +kernel
theorem dX11_asksOpen_74 : decode cX11_asksOpen 74 = .ok (.iload 4, 2) := by decide +kernel
theorem dX11_asksOpen_76 : decode cX11_asksOpen 76 = .ok (.i2l, 1) := by decide +kernel
theorem dX11_asksOpen_77 : decode cX11_asksOpen 77 = .ok (.lmul, 1) := by decide +kernel
theorem dX11_asksOpen_78 : decode cX11_asksOpen 78 = .ok (.putfield 158, 3) := by decide +kernel
theorem dX11_asksOpen_81 : decode cX11_asksOpen 81 = .ok (.aload_n 0, 1) := by decide +kernel
theorem dX11_asksOpen_82 : decode cX11_asksOpen 82 = .ok (.aload_n 0, 1) := by decide +kernel
theorem dX11_asksOpen_83 : decode cX11_asksOpen 83 = .ok (.getfield 158, 3) := by decide +kernel
theorem dX11_asksOpen_86 : decode cX11_asksOpen 86 = .ok (.sipush 144, 3) := by decide +kernel
theorem dX11_asksOpen_89 : decode cX11_asksOpen 89 = .ok (.iload_n 3, 1) := by decide +kernel
theorem dX11_asksOpen_90 : decode cX11_asksOpen 90 = .ok (.isub, 1) := by decide +kernel
theorem dX11_asksOpen_91 : decode cX11_asksOpen 91 = .ok (.i2l, 1) := by decide +kernel
theorem dX11_asksOpen_92 : decode cX11_asksOpen 92 = .ok (.iload 5, 2) := by decide +kernel
theorem dX11_asksOpen_94 : decode cX11_asksOpen 94 = .ok (.i2l, 1) := by decide +kernel
theorem dX11_asksOpen_95 : decode cX11_asksOpen 95 = .ok (.lmul, 1) := by decide +kernel
theorem dX11_asksOpen_96 : decode cX11_asksOpen 96 = .ok (.ladd, 1) := by decide +kernel
theorem dX11_asksOpen_97 : decode cX11_asksOpen 97 = .ok (.putfield 162, 3) := by decide +kernel
theorem dX11_asksOpen_100 : decode cX11_asksOpen 100 = .ok (.aload_n 0, 1) := by decide +kernel
theorem dX11_asksOpen_101 : decode cX11_asksOpen 101 = .ok (.getfield 162, 3) := by decide +kernel
theorem dX11_asksOpen_104 : decode cX11_asksOpen 104 = .ok (.lconst 0, 1) := by decide +kernel
theorem dX11_asksOpen_105 : decode cX11_asksOpen 105 = .ok (.lcmp, 1) := by decide +kernel
theorem dX11_asksOpen_106 : decode cX11_asksOpen 106 = .ok (.ifCond .le 7, 3) := by decide +kernel
theorem dX11_asksOpen_109 : decode cX11_asksOpen 109 = .ok (.iconst 1, 1) := by decide +kernel
theorem dX11_asksOpen_110 : decode cX11_asksOpen 110 = .ok (.goto 4, 3) := by decide +kernel
theorem dX11_asksOpen_113 : decode cX11_asksOpen 113 = .ok (.iconst 0, 1) := by decide +kernel
theorem dX11_asksOpen_114 : decode cX11_asksOpen 114 = .ok (.ireturn, 1) := by decide +kernel
theorem dX11_commonOf_0 : decode cX11_commonOf 0 = .ok (.lload_n 0, 1) := by decide +kernel
theorem dX11_commonOf_1 : decode cX11_commonOf 1 = .ok (.lconst 0, 1) := by decide +kernel
theorem dX11_commonOf_2 : decode cX11_commonOf 2 = .ok (.lcmp, 1) := by decide +kernel
theorem dX11_commonOf_3 : decode cX11_commonOf 3 = .ok (.ifCond .ge 8, 3) := by decide +kernel
theorem dX11_commonOf_6 : decode cX11_commonOf 6 = .ok (.lload_n 0, 1) := by decide +kernel
theorem dX11_commonOf_7 : decode cX11_commonOf 7 = .ok (.lneg, 1) := by decide +kernel
theorem dX11_commonOf_8 : decode cX11_commonOf 8 = .ok (.goto 4, 3) := by decide +kernel
theorem dX11_commonOf_11 : decode cX11_commonOf 11 = .ok (.lload_n 0, 1) := by decide +kernel
theorem dX11_commonOf_12 : decode cX11_commonOf 12 = .ok (.lstore 4, 2) := by decide +kernel
theorem dX11_commonOf_14 : decode cX11_commonOf 14 = .ok (.lload_n 2, 1) := by decide +kernel
theorem dX11_commonOf_15 : decode cX11_commonOf 15 = .ok (.lstore 6, 2) := by decide +kernel
theorem dX11_commonOf_17 : decode cX11_commonOf 17 = .ok (.lload 6, 2) := by decide +kernel
theorem dX11_commonOf_19 : decode cX11_commonOf 19 = .ok (.lconst 0, 1) := by decide +kernel
theorem dX11_commonOf_20 : decode cX11_commonOf 20 = .ok (.lcmp, 1) := by decide +kernel
theorem dX11_commonOf_21 : decode cX11_commonOf 21 = .ok (.ifCond .eq 21, 3) := by decide +kernel
theorem dX11_commonOf_24 : decode cX11_commonOf 24 = .ok (.lload 4, 2) := by decide +kernel
theorem dX11_commonOf_26 : decode cX11_commonOf 26 = .ok (.lload 6, 2) := by decide +kernel
theorem dX11_commonOf_28 : decode cX11_commonOf 28 = .ok (.lrem, 1) := by decide +kernel
theorem dX11_commonOf_29 : decode cX11_commonOf 29 = .ok (.lstore 8, 2) := by decide +kernel
theorem dX11_commonOf_31 : decode cX11_commonOf 31 = .ok (.lload 6, 2) := by decide +kernel
theorem dX11_commonOf_33 : decode cX11_commonOf 33 = .ok (.lstore 4, 2) := by decide +kernel
theorem dX11_commonOf_35 : decode cX11_commonOf 35 = .ok (.lload 8, 2) := by decide +kernel
theorem dX11_commonOf_37 : decode cX11_commonOf 37 = .ok (.lstore 6, 2) := by decide +kernel
theorem dX11_commonOf_39 : decode cX11_commonOf 39 = .ok (.goto (-22), 3) := by decide +kernel
theorem dX11_commonOf_42 : decode cX11_commonOf 42 = .ok (.lload 4, 2) := by decide +kernel
theorem dX11_commonOf_44 : decode cX11_commonOf 44 = .ok (.lreturn, 1) := by decide +kernel
theorem dX11_partOf_0 : decode cX11_partOf 0 = .ok (.lload_n 0, 1) := by decide +kernel
theorem dX11_partOf_1 : decode cX11_partOf 1 = .ok (.lconst 0, 1) := by decide +kernel
theorem dX11_partOf_2 : decode cX11_partOf 2 = .ok (.lcmp, 1) := by decide +kernel
theorem dX11_partOf_3 : decode cX11_partOf 3 = .ok (.ifCond .ne 7, 3) := by decide +kernel
theorem dX11_partOf_6 : decode cX11_partOf 6 = .ok (.iload 4, 2) := by decide +kernel
theorem dX11_partOf_8 : decode cX11_partOf 8 = .ok (.i2l, 1) := by decide +kernel
theorem dX11_partOf_9 : decode cX11_partOf 9 = .ok (.lreturn, 1) := by decide +kernel
theorem dX11_partOf_10 : decode cX11_partOf 10 = .ok (.lload_n 0, 1) := by decide +kernel
theorem dX11_partOf_11 : decode cX11_partOf 11 = .ok (.lload_n 2, 1) := by decide +kernel
theorem dX11_partOf_12 : decode cX11_partOf 12 = .ok (.invokestatic 165, 3) := by decide +kernel
theorem dX11_partOf_15 : decode cX11_partOf 15 = .ok (.lstore 5, 2) := by decide +kernel
theorem dX11_partOf_17 : decode cX11_partOf 17 = .ok (.iload 4, 2) := by decide +kernel
theorem dX11_partOf_19 : decode cX11_partOf 19 = .ok (.ifCond .ne 10, 3) := by decide +kernel
theorem dX11_partOf_22 : decode cX11_partOf 22 = .ok (.lload_n 0, 1) := by decide +kernel
theorem dX11_partOf_23 : decode cX11_partOf 23 = .ok (.lload 5, 2) := by decide +kernel
theorem dX11_partOf_25 : decode cX11_partOf 25 = .ok (.ldiv, 1) := by decide +kernel
theorem dX11_partOf_26 : decode cX11_partOf 26 = .ok (.goto 7, 3) := by decide +kernel
theorem dX11_partOf_29 : decode cX11_partOf 29 = .ok (.lload_n 2, 1) := by decide +kernel
theorem dX11_partOf_30 : decode cX11_partOf 30 = .ok (.lload 5, 2) := by decide +kernel
theorem dX11_partOf_32 : decode cX11_partOf 32 = .ok (.ldiv, 1) := by decide +kernel
theorem dX11_partOf_33 : decode cX11_partOf 33 = .ok (.lreturn, 1) := by decide +kernel
theorem dX11_isPart_0 : decode cX11_isPart 0 = .ok (.iload_n 0, 1) := by decide +kernel
theorem dX11_isPart_1 : decode cX11_isPart 1 = .ok (.i2l, 1) := by decide +kernel
theorem dX11_isPart_2 : decode cX11_isPart 2 = .ok (.lconst 0, 1) := by decide +kernel
theorem dX11_isPart_3 : decode cX11_isPart 3 = .ok (.lconst 1, 1) := by decide +kernel
theorem dX11_isPart_4 : decode cX11_isPart 4 = .ok (.invokestatic 93, 3) := by decide +kernel
theorem dX11_isPart_7 : decode cX11_isPart 7 = .ok (.ireturn, 1) := by decide +kernel
theorem dX11_open_0 : decode cX11_open 0 = .ok (.aload_n 0, 1) := by decide +kernel
theorem dX11_open_1 : decode cX11_open 1 = .ok (.iload_n 1, 1) := by decide +kernel
theorem dX11_open_2 : decode cX11_open 2 = .ok (.i2l, 1) := by decide +kernel
theorem dX11_open_3 : decode cX11_open 3 = .ok (.invokevirtual 121, 3) := by decide +kernel
theorem dX11_open_6 : decode cX11_open 6 = .ok (.ifCond .eq 22, 3) := by decide +kernel
theorem dX11_open_9 : decode cX11_open 9 = .ok (.iload_n 2, 1) := by decide +kernel
theorem dX11_open_10 : decode cX11_open 10 = .ok (.i2l, 1) := by decide +kernel
theorem dX11_open_11 : decode cX11_open 11 = .ok (.lconst 0, 1) := by decide +kernel
theorem dX11_open_12 : decode cX11_open 12 = .ok (.ldc2_w 169, 3) := by decide +kernel
theorem dX11_open_15 : decode cX11_open 15 = .ok (.invokestatic 93, 3) := by decide +kernel
theorem dX11_open_18 : decode cX11_open 18 = .ok (.ifCond .eq 10, 3) := by decide +kernel
theorem dX11_open_21 : decode cX11_open 21 = .ok (.iload_n 3, 1) := by decide +kernel
theorem dX11_open_22 : decode cX11_open 22 = .ok (.invokestatic 171, 3) := by decide +kernel
theorem dX11_open_25 : decode cX11_open 25 = .ok (.ifCond .ne 7, 3) := by decide +kernel
theorem dX11_open_28 : decode cX11_open 28 = .ok (.ldc2_w 174, 3) := by decide +kernel
theorem dX11_open_31 : decode cX11_open 31 = .ok (.lreturn, 1) := by decide +kernel
theorem dX11_open_32 : decode cX11_open 32 = .ok (.aload_n 0, 1) := by decide +kernel
theorem dX11_open_33 : decode cX11_open 33 = .ok (.iload_n 1, 1) := by decide +kernel
theorem dX11_open_34 : decode cX11_open 34 = .ok (.iload_n 2, 1) := by decide +kernel
theorem dX11_open_35 : decode cX11_open 35 = .ok (.invokevirtual 176, 3) := by decide +kernel
theorem dX11_open_38 : decode cX11_open 38 = .ok (.ifCond .eq 18, 3) := by decide +kernel
theorem dX11_open_41 : decode cX11_open 41 = .ok (.aload_n 0, 1) := by decide +kernel
theorem dX11_open_42 : decode cX11_open 42 = .ok (.getfield 158, 3) := by decide +kernel
theorem dX11_open_45 : decode cX11_open 45 = .ok (.aload_n 0, 1) := by decide +kernel
theorem dX11_open_46 : decode cX11_open 46 = .ok (.getfield 162, 3) := by decide +kernel
theorem dX11_open_49 : decode cX11_open 49 = .ok (.iload_n 3, 1) := by decide +kernel
theorem dX11_open_50 : decode cX11_open 50 = .ok (.invokestatic 180, 3) := by decide +kernel
theorem dX11_open_53 : decode cX11_open 53 = .ok (.goto 6, 3) := by decide +kernel
theorem dX11_open_56 : decode cX11_open 56 = .ok (.ldc2_w 184, 3) := by decide +kernel
theorem dX11_open_59 : decode cX11_open 59 = .ok (.lreturn, 1) := by decide +kernel
theorem dX11_feed_0 : decode cX11_feed 0 = .ok (.iload_n 1, 1) := by decide +kernel
theorem dX11_feed_1 : decode cX11_feed 1 = .ok (.i2l, 1) := by decide +kernel
theorem dX11_feed_2 : decode cX11_feed 2 = .ok (.lconst 0, 1) := by decide +kernel
theorem dX11_feed_3 : decode cX11_feed 3 = .ok (.ldc2_w 186, 3) := by decide +kernel
theorem dX11_feed_6 : decode cX11_feed 6 = .ok (.invokestatic 93, 3) := by decide +kernel
theorem dX11_feed_9 : decode cX11_feed 9 = .ok (.ifCond .ne 5, 3) := by decide +kernel
theorem dX11_feed_12 : decode cX11_feed 12 = .ok (.iconst (-1), 1) := by decide +kernel
theorem dX11_feed_13 : decode cX11_feed 13 = .ok (.ireturn, 1) := by decide +kernel
theorem dX11_feed_14 : decode cX11_feed 14 = .ok (.aload_n 0, 1) := by decide +kernel
theorem dX11_feed_15 : decode cX11_feed 15 = .ok (.getfield 188, 3) := by decide +kernel
theorem dX11_feed_18 : decode cX11_feed 18 = .ok (.bipush 120, 2) := by decide +kernel
theorem dX11_feed_20 : decode cX11_feed 20 = .ok (.if_icmp .ne 6, 3) := by decide +kernel
theorem dX11_feed_23 : decode cX11_feed 23 = .ok (.bipush (-3), 2) := by decide +kernel
theorem dX11_feed_25 : decode cX11_feed 25 = .ok (.ireturn, 1) := by decide +kernel
theorem dX11_feed_26 : decode cX11_feed 26 = .ok (.aload_n 0, 1) := by decide +kernel
theorem dX11_feed_27 : decode cX11_feed 27 = .ok (.getfield 31, 3) := by decide +kernel
theorem dX11_feed_30 : decode cX11_feed 30 = .ok (.aload_n 0, 1) := by decide +kernel
theorem dX11_feed_31 : decode cX11_feed 31 = .ok (.getfield 188, 3) := by decide +kernel
theorem dX11_feed_34 : decode cX11_feed 34 = .ok (.iload_n 1, 1) := by decide +kernel
theorem dX11_feed_35 : decode cX11_feed 35 = .ok (.iastore, 1) := by decide +kernel
theorem dX11_feed_36 : decode cX11_feed 36 = .ok (.aload_n 0, 1) := by decide +kernel
theorem dX11_feed_37 : decode cX11_feed 37 = .ok (.dup, 1) := by decide +kernel
theorem dX11_feed_38 : decode cX11_feed 38 = .ok (.getfield 188, 3) := by decide +kernel
theorem dX11_feed_41 : decode cX11_feed 41 = .ok (.iconst 1, 1) := by decide +kernel
theorem dX11_feed_42 : decode cX11_feed 42 = .ok (.iadd, 1) := by decide +kernel
theorem dX11_feed_43 : decode cX11_feed 43 = .ok (.putfield 188, 3) := by decide +kernel
theorem dX11_feed_46 : decode cX11_feed 46 = .ok (.aload_n 0, 1) := by decide +kernel
theorem dX11_feed_47 : decode cX11_feed 47 = .ok (.getfield 188, 3) := by decide +kernel
theorem dX11_feed_50 : decode cX11_feed 50 = .ok (.ireturn, 1) := by decide +kernel
theorem dX11_byteAt_0 : decode cX11_byteAt 0 = .ok (.aload_n 0, 1) := by decide +kernel
theorem dX11_byteAt_1 : decode cX11_byteAt 1 = .ok (.getfield 191, 3) := by decide +kernel
theorem dX11_byteAt_4 : decode cX11_byteAt 4 = .ok (.aload_n 0, 1) := by decide +kernel
theorem dX11_byteAt_5 : decode cX11_byteAt 5 = .ok (.getfield 194, 3) := by decide +kernel
theorem dX11_byteAt_8 : decode cX11_byteAt 8 = .ok (.if_icmp .ge 39, 3) := by decide +kernel
theorem dX11_byteAt_11 : decode cX11_byteAt 11 = .ok (.aload_n 0, 1) := by decide +kernel
theorem dX11_byteAt_12 : decode cX11_byteAt 12 = .ok (.getfield 197, 3) := by decide +kernel
theorem dX11_byteAt_15 : decode cX11_byteAt 15 = .ok (.ifCond .ge 15, 3) := by decide +kernel
theorem dX11_byteAt_18 : decode cX11_byteAt 18 = .ok (.aload_n 0, 1) := by decide +kernel
theorem dX11_byteAt_19 : decode cX11_byteAt 19 = .ok (.getfield 31, 3) := by decide +kernel
theorem dX11_byteAt_22 : decode cX11_byteAt 22 = .ok (.aload_n 0, 1) := by decide +kernel
theorem dX11_byteAt_23 : decode cX11_byteAt 23 = .ok (.getfield 191, 3) := by decide +kernel
theorem dX11_byteAt_26 : decode cX11_byteAt 26 = .ok (.iaload, 1) := by decide +kernel
theorem dX11_byteAt_27 : decode cX11_byteAt 27 = .ok (.goto 21, 3) := by decide +kernel
theorem dX11_byteAt_30 : decode cX11_byteAt 30 = .ok (.aload_n 0, 1) := by decide +kernel
theorem dX11_byteAt_31 : decode cX11_byteAt 31 = .ok (.getfield 34, 3) := by decide +kernel
theorem dX11_byteAt_34 : decode cX11_byteAt 34 = .ok (.aload_n 0, 1) := by decide +kernel
theorem dX11_byteAt_35 : decode cX11_byteAt 35 = .ok (.getfield 197, 3) := by decide +kernel
theorem dX11_byteAt_38 : decode cX11_byteAt 38 = .ok (.aload_n 0, 1) := by decide +kernel
theorem dX11_byteAt_39 : decode cX11_byteAt 39 = .ok (.getfield 191, 3) := by decide +kernel
theorem dX11_byteAt_42 : decode cX11_byteAt 42 = .ok (.iadd, 1) := by decide +kernel
theorem dX11_byteAt_43 : decode cX11_byteAt 43 = .ok (.iaload, 1) := by decide +kernel
theorem dX11_byteAt_44 : decode cX11_byteAt 44 = .ok (.goto 4, 3) := by decide +kernel
theorem dX11_byteAt_47 : decode cX11_byteAt 47 = .ok (.iconst 0, 1) := by decide +kernel
theorem dX11_byteAt_48 : decode cX11_byteAt 48 = .ok (.ireturn, 1) := by decide +kernel
theorem dX11_wrong_0 : decode cX11_wrong 0 = .ok (.aload_n 0, 1) := by decide +kernel
theorem dX11_wrong_1 : decode cX11_wrong 1 = .ok (.aload_n 0, 1) := by decide +kernel
theorem dX11_wrong_2 : decode cX11_wrong 2 = .ok (.getfield 200, 3) := by decide +kernel
theorem dX11_wrong_5 : decode cX11_wrong 5 = .ok (.ifCond .ge 10, 3) := by decide +kernel
theorem dX11_wrong_8 : decode cX11_wrong 8 = .ok (.aload_n 0, 1) := by decide +kernel
theorem dX11_wrong_9 : decode cX11_wrong 9 = .ok (.getfield 191, 3) := by decide +kernel
theorem dX11_wrong_12 : decode cX11_wrong 12 = .ok (.goto 7, 3) := by decide +kernel
theorem dX11_wrong_15 : decode cX11_wrong 15 = .ok (.aload_n 0, 1) := by decide +kernel
theorem dX11_wrong_16 : decode cX11_wrong 16 = .ok (.getfield 200, 3) := by decide +kernel
theorem dX11_wrong_19 : decode cX11_wrong 19 = .ok (.putfield 200, 3) := by decide +kernel
theorem dX11_wrong_22 : decode cX11_wrong 22 = .ok (.iconst 0, 1) := by decide +kernel
theorem dX11_wrong_23 : decode cX11_wrong 23 = .ok (.ireturn, 1) := by decide +kernel
theorem dX11_takes_0 : decode cX11_takes 0 = .ok (.aload_n 0, 1) := by decide +kernel
theorem dX11_takes_1 : decode cX11_takes 1 = .ok (.getfield 200, 3) := by decide +kernel
theorem dX11_takes_4 : decode cX11_takes 4 = .ok (.ifCond .ge 11, 3) := by decide +kernel
theorem dX11_takes_7 : decode cX11_takes 7 = .ok (.aload_n 0, 1) := by decide +kernel
theorem dX11_takes_8 : decode cX11_takes 8 = .ok (.invokevirtual 203, 3) := by decide +kernel
theorem dX11_takes_11 : decode cX11_takes 11 = .ok (.iload_n 1, 1) := by decide +kernel
theorem dX11_takes_12 : decode cX11_takes 12 = .ok (.if_icmp .eq 5, 3) := by decide +kernel
theorem dX11_takes_15 : decode cX11_takes 15 = .ok (.iconst 0, 1) := by decide +kernel
theorem dX11_takes_16 : decode cX11_takes 16 = .ok (.ireturn, 1) := by decide +kernel
theorem dX11_takes_17 : decode cX11_takes 17 = .ok (.aload_n 0, 1) := by decide +kernel
theorem dX11_takes_18 : decode cX11_takes 18 = .ok (.dup, 1) := by decide +kernel
theorem dX11_takes_19 : decode cX11_takes 19 = .ok (.getfield 191, 3) := by decide +kernel
theorem dX11_takes_22 : decode cX11_takes 22 = .ok (.iconst 1, 1) := by decide +kernel
theorem dX11_takes_23 : decode cX11_takes 23 = .ok (.iadd, 1) := by decide +kernel
theorem dX11_takes_24 : decode cX11_takes 24 = .ok (.putfield 191, 3) := by decide +kernel
theorem dX11_takes_27 : decode cX11_takes 27 = .ok (.iconst 1, 1) := by decide +kernel
theorem dX11_takes_28 : decode cX11_takes 28 = .ok (.ireturn, 1) := by decide +kernel
theorem dX11_either_0 : decode cX11_either 0 = .ok (.aload_n 0, 1) := by decide +kernel
theorem dX11_either_1 : decode cX11_either 1 = .ok (.invokevirtual 207, 3) := by decide +kernel
theorem dX11_either_4 : decode cX11_either 4 = .ok (.istore_n 1, 1) := by decide +kernel
theorem dX11_either_5 : decode cX11_either 5 = .ok (.aload_n 0, 1) := by decide +kernel
theorem dX11_either_6 : decode cX11_either 6 = .ok (.bipush 124, 2) := by decide +kernel
theorem dX11_either_8 : decode cX11_either 8 = .ok (.invokevirtual 210, 3) := by decide +kernel
theorem dX11_either_11 : decode cX11_either 11 = .ok (.ifCond .eq 25, 3) := by decide +kernel
theorem dX11_either_14 : decode cX11_either 14 = .ok (.aload_n 0, 1) := by decide +kernel
theorem dX11_either_15 : decode cX11_either 15 = .ok (.invokevirtual 207, 3) := by decide +kernel
theorem dX11_either_18 : decode cX11_either 18 = .ok (.istore_n 2, 1) := by decide +kernel
theorem dX11_either_19 : decode cX11_either 19 = .ok (.iload_n 1, 1) := by decide +kernel
theorem dX11_either_20 : decode cX11_either 20 = .ok (.ifCond .ne 7, 3) := by decide +kernel
theorem dX11_either_23 : decode cX11_either 23 = .ok (.iload_n 2, 1) := by decide +kernel
theorem dX11_either_24 : decode cX11_either 24 = .ok (.ifCond .eq 7, 3) := by decide +kernel
theorem dX11_either_27 : decode cX11_either 27 = .ok (.iconst 1, 1) := by decide +kernel
theorem dX11_either_28 : decode cX11_either 28 = .ok (.goto 4, 3) := by decide +kernel
theorem dX11_either_31 : decode cX11_either 31 = .ok (.iconst 0, 1) := by decide +kernel
theorem dX11_either_32 : decode cX11_either 32 = .ok (.istore_n 1, 1) := by decide +kernel
theorem dX11_either_33 : decode cX11_either 33 = .ok (.goto (-28), 3) := by decide +kernel
theorem dX11_either_36 : decode cX11_either 36 = .ok (.iload_n 1, 1) := by decide +kernel
theorem dX11_either_37 : decode cX11_either 37 = .ok (.ireturn, 1) := by decide +kernel
theorem dX11_both_0 : decode cX11_both 0 = .ok (.aload_n 0, 1) := by decide +kernel
theorem dX11_both_1 : decode cX11_both 1 = .ok (.invokevirtual 213, 3) := by decide +kernel
theorem dX11_both_4 : decode cX11_both 4 = .ok (.istore_n 1, 1) := by decide +kernel
theorem dX11_both_5 : decode cX11_both 5 = .ok (.aload_n 0, 1) := by decide +kernel
theorem dX11_both_6 : decode cX11_both 6 = .ok (.bipush 38, 2) := by decide +kernel
theorem dX11_both_8 : decode cX11_both 8 = .ok (.invokevirtual 210, 3) := by decide +kernel
theorem dX11_both_11 : decode cX11_both 11 = .ok (.ifCond .eq 25, 3) := by decide +kernel
theorem dX11_both_14 : decode cX11_both 14 = .ok (.aload_n 0, 1) := by decide +kernel
theorem dX11_both_15 : decode cX11_both 15 = .ok (.invokevirtual 213, 3) := by decide +kernel
theorem dX11_both_18 : decode cX11_both 18 = .ok (.istore_n 2, 1) := by decide +kernel
theorem dX11_both_19 : decode cX11_both 19 = .ok (.iload_n 1, 1) := by decide +kernel
theorem dX11_both_20 : decode cX11_both 20 = .ok (.ifCond .eq 11, 3) := by decide +kernel
theorem dX11_both_23 : decode cX11_both 23 = .ok (.iload_n 2, 1) := by decide +kernel
theorem dX11_both_24 : decode cX11_both 24 = .ok (.ifCond .eq 7, 3) := by decide +kernel
theorem dX11_both_27 : decode cX11_both 27 = .ok (.iconst 1, 1) := by decide +kernel
theorem dX11_both_28 : decode cX11_both 28 = .ok (.goto 4, 3) := by decide +kernel
theorem dX11_both_31 : decode cX11_both 31 = .ok (.iconst 0, 1) := by decide +kernel
theorem dX11_both_32 : decode cX11_both 32 = .ok (.istore_n 1, 1) := by decide +kernel
theorem dX11_both_33 : decode cX11_both 33 = .ok (.goto (-28), 3) := by decide +kernel
theorem dX11_both_36 : decode cX11_both 36 = .ok (.iload_n 1, 1) := by decide +kernel
theorem dX11_both_37 : decode cX11_both 37 = .ok (.ireturn, 1) := by decide +kernel
theorem dX11_compared_0 : decode cX11_compared 0 = .ok (.aload_n 0, 1) := by decide +kernel
theorem dX11_compared_1 : decode cX11_compared 1 = .ok (.invokevirtual 216, 3) := by decide +kernel
theorem dX11_compared_4 : decode cX11_compared 4 = .ok (.istore_n 1, 1) := by decide +kernel
theorem dX11_compared_5 : decode cX11_compared 5 = .ok (.aload_n 0, 1) := by decide +kernel
theorem dX11_compared_6 : decode cX11_compared 6 = .ok (.invokevirtual 203, 3) := by decide +kernel
theorem dX11_compared_9 : decode cX11_compared 9 = .ok (.istore_n 2, 1) := by decide +kernel
theorem dX11_compared_10 : decode cX11_compared 10 = .ok (.aload_n 0, 1) := by decide +kernel
theorem dX11_compared_11 : decode cX11_compared 11 = .ok (.getfield 200, 3) := by decide +kernel
theorem dX11_compared_14 : decode cX11_compared 14 = .ok (.ifCond .ge 21, 3) := by decide +kernel
theorem dX11_compared_17 : decode cX11_compared 17 = .ok (.iload_n 2, 1) := by decide +kernel
theorem dX11_compared_18 : decode cX11_compared 18 = .ok (.bipush 60, 2) := by decide +kernel
theorem dX11_compared_20 : decode cX11_compared 20 = .ok (.if_icmp .eq 17, 3) := by decide +kernel
theorem dX11_compared_23 : decode cX11_compared 23 = .ok (.iload_n 2, 1) := by decide +kernel
theorem dX11_compared_24 : decode cX11_compared 24 = .ok (.bipush 61, 2) := by decide +kernel
theorem dX11_compared_26 : decode cX11_compared 26 = .ok (.if_icmp .eq 11, 3) := by decide +kernel
theorem dX11_compared_29 : decode cX11_compared 29 = .ok (.iload_n 2, 1) := by decide +kernel
theorem dX11_compared_30 : decode cX11_compared 30 = .ok (.bipush 62, 2) := by decide +kernel
theorem dX11_compared_32 : decode cX11_compared 32 = .ok (.if_icmp .eq 5, 3) := by decide +kernel
theorem dX11_compared_35 : decode cX11_compared 35 = .ok (.iload_n 1, 1) := by decide +kernel
theorem dX11_compared_36 : decode cX11_compared 36 = .ok (.ireturn, 1) := by decide +kernel
theorem dX11_compared_37 : decode cX11_compared 37 = .ok (.aload_n 0, 1) := by decide +kernel
theorem dX11_compared_38 : decode cX11_compared 38 = .ok (.dup, 1) := by decide +kernel
theorem dX11_compared_39 : decode cX11_compared 39 = .ok (.getfield 191, 3) := by decide +kernel
theorem dX11_compared_42 : decode cX11_compared 42 = .ok (.iconst 1, 1) := by decide +kernel
theorem dX11_compared_43 : decode cX11_compared 43 = .ok (.iadd, 1) := by decide +kernel
theorem dX11_compared_44 : decode cX11_compared 44 = .ok (.putfield 191, 3) := by decide +kernel
theorem dX11_compared_47 : decode cX11_compared 47 = .ok (.aload_n 0, 1) := by decide +kernel
theorem dX11_compared_48 : decode cX11_compared 48 = .ok (.invokevirtual 216, 3) := by decide +kernel
theorem dX11_compared_51 : decode cX11_compared 51 = .ok (.istore_n 3, 1) := by decide +kernel
theorem dX11_compared_52 : decode cX11_compared 52 = .ok (.iload_n 2, 1) := by decide +kernel
theorem dX11_compared_53 : decode cX11_compared 53 = .ok (.bipush 60, 2) := by decide +kernel
theorem dX11_compared_55 : decode cX11_compared 55 = .ok (.if_icmp .ne 11, 3) := by decide +kernel
theorem dX11_compared_58 : decode cX11_compared 58 = .ok (.iload_n 1, 1) := by decide +kernel
theorem dX11_compared_59 : decode cX11_compared 59 = .ok (.iload_n 3, 1) := by decide +kernel
theorem dX11_compared_60 : decode cX11_compared 60 = .ok (.if_icmp .ge 29, 3) := by decide +kernel
theorem dX11_compared_63 : decode cX11_compared 63 = .ok (.goto 22, 3) := by decide +kernel
theorem dX11_compared_66 : decode cX11_compared 66 = .ok (.iload_n 2, 1) := by decide +kernel
theorem dX11_compared_67 : decode cX11_compared 67 = .ok (.bipush 61, 2) := by decide +kernel
theorem dX11_compared_69 : decode cX11_compared 69 = .ok (.if_icmp .ne 11, 3) := by decide +kernel
theorem dX11_compared_72 : decode cX11_compared 72 = .ok (.iload_n 1, 1) := by decide +kernel
theorem dX11_compared_73 : decode cX11_compared 73 = .ok (.iload_n 3, 1) := by decide +kernel
theorem dX11_compared_74 : decode cX11_compared 74 = .ok (.if_icmp .ne 15, 3) := by decide +kernel
theorem dX11_compared_77 : decode cX11_compared 77 = .ok (.goto 8, 3) := by decide +kernel
theorem dX11_compared_80 : decode cX11_compared 80 = .ok (.iload_n 1, 1) := by decide +kernel
theorem dX11_compared_81 : decode cX11_compared 81 = .ok (.iload_n 3, 1) := by decide +kernel
theorem dX11_compared_82 : decode cX11_compared 82 = .ok (.if_icmp .le 7, 3) := by decide +kernel
theorem dX11_compared_85 : decode cX11_compared 85 = .ok (.iconst 1, 1) := by decide +kernel
theorem dX11_compared_86 : decode cX11_compared 86 = .ok (.goto 4, 3) := by decide +kernel
theorem dX11_compared_89 : decode cX11_compared 89 = .ok (.iconst 0, 1) := by decide +kernel
theorem dX11_compared_90 : decode cX11_compared 90 = .ok (.ireturn, 1) := by decide +kernel
theorem dX11_sums_0 : decode cX11_sums 0 = .ok (.aload_n 0, 1) := by decide +kernel
theorem dX11_sums_1 : decode cX11_sums 1 = .ok (.invokevirtual 219, 3) := by decide +kernel
theorem dX11_sums_4 : decode cX11_sums 4 = .ok (.istore_n 1, 1) := by decide +kernel
theorem dX11_sums_5 : decode cX11_sums 5 = .ok (.aload_n 0, 1) := by decide +kernel
theorem dX11_sums_6 : decode cX11_sums 6 = .ok (.getfield 200, 3) := by decide +kernel
theorem dX11_sums_9 : decode cX11_sums 9 = .ok (.ifCond .ge 68, 3) := by decide +kernel
theorem dX11_sums_12 : decode cX11_sums 12 = .ok (.aload_n 0, 1) := by decide +kernel
theorem dX11_sums_13 : decode cX11_sums 13 = .ok (.invokevirtual 203, 3) := by decide +kernel
theorem dX11_sums_16 : decode cX11_sums 16 = .ok (.bipush 43, 2) := by decide +kernel
theorem dX11_sums_18 : decode cX11_sums 18 = .ok (.if_icmp .eq 12, 3) := by decide +kernel
theorem dX11_sums_21 : decode cX11_sums 21 = .ok (.aload_n 0, 1) := by decide +kernel
theorem dX11_sums_22 : decode cX11_sums 22 = .ok (.invokevirtual 203, 3) := by decide +kernel
theorem dX11_sums_25 : decode cX11_sums 25 = .ok (.bipush 45, 2) := by decide +kernel
theorem dX11_sums_27 : decode cX11_sums 27 = .ok (.if_icmp .ne 50, 3) := by decide +kernel
theorem dX11_sums_30 : decode cX11_sums 30 = .ok (.aload_n 0, 1) := by decide +kernel
theorem dX11_sums_31 : decode cX11_sums 31 = .ok (.invokevirtual 203, 3) := by decide +kernel
theorem dX11_sums_34 : decode cX11_sums 34 = .ok (.bipush 43, 2) := by decide +kernel
theorem dX11_sums_36 : decode cX11_sums 36 = .ok (.if_icmp .ne 7, 3) := by decide +kernel
theorem dX11_sums_39 : decode cX11_sums 39 = .ok (.iconst 1, 1) := by decide +kernel
theorem dX11_sums_40 : decode cX11_sums 40 = .ok (.goto 4, 3) := by decide +kernel
theorem dX11_sums_43 : decode cX11_sums 43 = .ok (.iconst 0, 1) := by decide +kernel
theorem dX11_sums_44 : decode cX11_sums 44 = .ok (.istore_n 2, 1) := by decide +kernel
theorem dX11_sums_45 : decode cX11_sums 45 = .ok (.aload_n 0, 1) := by decide +kernel
theorem dX11_sums_46 : decode cX11_sums 46 = .ok (.dup, 1) := by decide +kernel
theorem dX11_sums_47 : decode cX11_sums 47 = .ok (.getfield 191, 3) := by decide +kernel
theorem dX11_sums_50 : decode cX11_sums 50 = .ok (.iconst 1, 1) := by decide +kernel
theorem dX11_sums_51 : decode cX11_sums 51 = .ok (.iadd, 1) := by decide +kernel
theorem dX11_sums_52 : decode cX11_sums 52 = .ok (.putfield 191, 3) := by decide +kernel
theorem dX11_sums_55 : decode cX11_sums 55 = .ok (.aload_n 0, 1) := by decide +kernel
theorem dX11_sums_56 : decode cX11_sums 56 = .ok (.invokevirtual 219, 3) := by decide +kernel
theorem dX11_sums_59 : decode cX11_sums 59 = .ok (.istore_n 3, 1) := by decide +kernel
theorem dX11_sums_60 : decode cX11_sums 60 = .ok (.iload_n 2, 1) := by decide +kernel
theorem dX11_sums_61 : decode cX11_sums 61 = .ok (.ifCond .eq 9, 3) := by decide +kernel
theorem dX11_sums_64 : decode cX11_sums 64 = .ok (.iload_n 1, 1) := by decide +kernel
theorem dX11_sums_65 : decode cX11_sums 65 = .ok (.iload_n 3, 1) := by decide +kernel
theorem dX11_sums_66 : decode cX11_sums 66 = .ok (.iadd, 1) := by decide +kernel
theorem dX11_sums_67 : decode cX11_sums 67 = .ok (.goto 6, 3) := by decide +kernel
theorem dX11_sums_70 : decode cX11_sums 70 = .ok (.iload_n 1, 1) := by decide +kernel
theorem dX11_sums_71 : decode cX11_sums 71 = .ok (.iload_n 3, 1) := by decide +kernel
theorem dX11_sums_72 : decode cX11_sums 72 = .ok (.isub, 1) := by decide +kernel
theorem dX11_sums_73 : decode cX11_sums 73 = .ok (.istore_n 1, 1) := by decide +kernel
theorem dX11_sums_74 : decode cX11_sums 74 = .ok (.goto (-69), 3) := by decide +kernel
theorem dX11_sums_77 : decode cX11_sums 77 = .ok (.iload_n 1, 1) := by decide +kernel
theorem dX11_sums_78 : decode cX11_sums 78 = .ok (.ireturn, 1) := by decide +kernel
theorem dX11_product_0 : decode cX11_product 0 = .ok (.aload_n 0, 1) := by decide +kernel
theorem dX11_product_1 : decode cX11_product 1 = .ok (.invokevirtual 222, 3) := by decide +kernel
theorem dX11_product_4 : decode cX11_product 4 = .ok (.istore_n 1, 1) := by decide +kernel
theorem dX11_product_5 : decode cX11_product 5 = .ok (.aload_n 0, 1) := by decide +kernel
theorem dX11_product_6 : decode cX11_product 6 = .ok (.invokevirtual 203, 3) := by decide +kernel
theorem dX11_product_9 : decode cX11_product 9 = .ok (.istore_n 2, 1) := by decide +kernel
theorem dX11_product_10 : decode cX11_product 10 = .ok (.aload_n 0, 1) := by decide +kernel
theorem dX11_product_11 : decode cX11_product 11 = .ok (.getfield 200, 3) := by decide +kernel
theorem dX11_product_14 : decode cX11_product 14 = .ok (.ifCond .ge 80, 3) := by decide +kernel
theorem dX11_product_17 : decode cX11_product 17 = .ok (.iload_n 2, 1) := by decide +kernel
theorem dX11_product_18 : decode cX11_product 18 = .ok (.bipush 42, 2) := by decide +kernel
theorem dX11_product_20 : decode cX11_product 20 = .ok (.if_icmp .eq 15, 3) := by decide +kernel
theorem dX11_product_23 : decode cX11_product 23 = .ok (.iload_n 2, 1) := by decide +kernel
theorem dX11_product_24 : decode cX11_product 24 = .ok (.bipush 47, 2) := by decide +kernel
theorem dX11_product_26 : decode cX11_product 26 = .ok (.if_icmp .eq 9, 3) := by decide +kernel
theorem dX11_product_29 : decode cX11_product 29 = .ok (.iload_n 2, 1) := by decide +kernel
theorem dX11_product_30 : decode cX11_product 30 = .ok (.bipush 37, 2) := by decide +kernel
theorem dX11_product_32 : decode cX11_product 32 = .ok (.if_icmp .ne 62, 3) := by decide +kernel
theorem dX11_product_35 : decode cX11_product 35 = .ok (.aload_n 0, 1) := by decide +kernel
theorem dX11_product_36 : decode cX11_product 36 = .ok (.dup, 1) := by decide +kernel
theorem dX11_product_37 : decode cX11_product 37 = .ok (.getfield 191, 3) := by decide +kernel
theorem dX11_product_40 : decode cX11_product 40 = .ok (.iconst 1, 1) := by decide +kernel
theorem dX11_product_41 : decode cX11_product 41 = .ok (.iadd, 1) := by decide +kernel
theorem dX11_product_42 : decode cX11_product 42 = .ok (.putfield 191, 3) := by decide +kernel
theorem dX11_product_45 : decode cX11_product 45 = .ok (.aload_n 0, 1) := by decide +kernel
theorem dX11_product_46 : decode cX11_product 46 = .ok (.invokevirtual 222, 3) := by decide +kernel
theorem dX11_product_49 : decode cX11_product 49 = .ok (.istore_n 3, 1) := by decide +kernel
theorem dX11_product_50 : decode cX11_product 50 = .ok (.iload_n 2, 1) := by decide +kernel
theorem dX11_product_51 : decode cX11_product 51 = .ok (.bipush 42, 2) := by decide +kernel
theorem dX11_product_53 : decode cX11_product 53 = .ok (.if_icmp .ne 9, 3) := by decide +kernel
theorem dX11_product_56 : decode cX11_product 56 = .ok (.iload_n 1, 1) := by decide +kernel
theorem dX11_product_57 : decode cX11_product 57 = .ok (.iload_n 3, 1) := by decide +kernel
theorem dX11_product_58 : decode cX11_product 58 = .ok (.imul, 1) := by decide +kernel
theorem dX11_product_59 : decode cX11_product 59 = .ok (.goto 26, 3) := by decide +kernel
theorem dX11_product_62 : decode cX11_product 62 = .ok (.iload_n 3, 1) := by decide +kernel
theorem dX11_product_63 : decode cX11_product 63 = .ok (.ifCond .ne 7, 3) := by decide +kernel
theorem dX11_product_66 : decode cX11_product 66 = .ok (.iconst 0, 1) := by decide +kernel
theorem dX11_product_67 : decode cX11_product 67 = .ok (.goto 18, 3) := by decide +kernel
theorem dX11_product_70 : decode cX11_product 70 = .ok (.iload_n 2, 1) := by decide +kernel
theorem dX11_product_71 : decode cX11_product 71 = .ok (.bipush 47, 2) := by decide +kernel
theorem dX11_product_73 : decode cX11_product 73 = .ok (.if_icmp .ne 9, 3) := by decide +kernel
theorem dX11_product_76 : decode cX11_product 76 = .ok (.iload_n 1, 1) := by decide +kernel
theorem dX11_product_77 : decode cX11_product 77 = .ok (.iload_n 3, 1) := by decide +kernel
theorem dX11_product_78 : decode cX11_product 78 = .ok (.idiv, 1) := by decide +kernel
theorem dX11_product_79 : decode cX11_product 79 = .ok (.goto 6, 3) := by decide +kernel
theorem dX11_product_82 : decode cX11_product 82 = .ok (.iload_n 1, 1) := by decide +kernel
theorem dX11_product_83 : decode cX11_product 83 = .ok (.iload_n 3, 1) := by decide +kernel
theorem dX11_product_84 : decode cX11_product 84 = .ok (.irem, 1) := by decide +kernel
theorem dX11_product_85 : decode cX11_product 85 = .ok (.istore_n 1, 1) := by decide +kernel
theorem dX11_product_86 : decode cX11_product 86 = .ok (.aload_n 0, 1) := by decide +kernel
theorem dX11_product_87 : decode cX11_product 87 = .ok (.invokevirtual 203, 3) := by decide +kernel
theorem dX11_product_90 : decode cX11_product 90 = .ok (.istore_n 2, 1) := by decide +kernel
theorem dX11_product_91 : decode cX11_product 91 = .ok (.goto (-81), 3) := by decide +kernel
theorem dX11_product_94 : decode cX11_product 94 = .ok (.iload_n 1, 1) := by decide +kernel
theorem dX11_product_95 : decode cX11_product 95 = .ok (.ireturn, 1) := by decide +kernel
theorem dX11_nameOf_0 : decode cX11_nameOf 0 = .ok (.iload_n 0, 1) := by decide +kernel
theorem dX11_nameOf_1 : decode cX11_nameOf 1 = .ok (.tableswitch 99 104 121 #[89, 99, 99, 99, 99, 99, 97, 87, 93, 99, 99, 99, 99, 99, 95, 99, 99, 91], 87) := by decide +kernel
theorem dX11_nameOf_88 : decode cX11_nameOf 88 = .ok (.iconst 0, 1) := by decide +kernel
theorem dX11_nameOf_89 : decode cX11_nameOf 89 = .ok (.ireturn, 1) := by decide +kernel
theorem dX11_nameOf_90 : decode cX11_nameOf 90 = .ok (.iconst 1, 1) := by decide +kernel
theorem dX11_nameOf_91 : decode cX11_nameOf 91 = .ok (.ireturn, 1) := by decide +kernel
theorem dX11_nameOf_92 : decode cX11_nameOf 92 = .ok (.iconst 2, 1) := by decide +kernel
theorem dX11_nameOf_93 : decode cX11_nameOf 93 = .ok (.ireturn, 1) := by decide +kernel
theorem dX11_nameOf_94 : decode cX11_nameOf 94 = .ok (.iconst 3, 1) := by decide +kernel
theorem dX11_nameOf_95 : decode cX11_nameOf 95 = .ok (.ireturn, 1) := by decide +kernel
theorem dX11_nameOf_96 : decode cX11_nameOf 96 = .ok (.iconst 4, 1) := by decide +kernel
theorem dX11_nameOf_97 : decode cX11_nameOf 97 = .ok (.ireturn, 1) := by decide +kernel
theorem dX11_nameOf_98 : decode cX11_nameOf 98 = .ok (.iconst 5, 1) := by decide +kernel
theorem dX11_nameOf_99 : decode cX11_nameOf 99 = .ok (.ireturn, 1) := by decide +kernel
theorem dX11_nameOf_100 : decode cX11_nameOf 100 = .ok (.iconst (-1), 1) := by decide +kernel
theorem dX11_nameOf_101 : decode cX11_nameOf 101 = .ok (.ireturn, 1) := by decide +kernel
theorem dX11_one_0 : decode cX11_one 0 = .ok (.aload_n 0, 1) := by decide +kernel
theorem dX11_one_1 : decode cX11_one 1 = .ok (.getfield 200, 3) := by decide +kernel
theorem dX11_one_4 : decode cX11_one 4 = .ok (.ifCond .lt 5, 3) := by decide +kernel
theorem dX11_one_7 : decode cX11_one 7 = .ok (.iconst 0, 1) := by decide +kernel
theorem dX11_one_8 : decode cX11_one 8 = .ok (.ireturn, 1) := by decide +kernel
theorem dX11_one_9 : decode cX11_one 9 = .ok (.aload_n 0, 1) := by decide +kernel
theorem dX11_one_10 : decode cX11_one 10 = .ok (.invokevirtual 203, 3) := by decide +kernel
theorem dX11_one_13 : decode cX11_one 13 = .ok (.istore_n 1, 1) := by decide +kernel
theorem dX11_one_14 : decode cX11_one 14 = .ok (.iload_n 1, 1) := by decide +kernel
theorem dX11_one_15 : decode cX11_one 15 = .ok (.bipush 33, 2) := by decide +kernel
theorem dX11_one_17 : decode cX11_one 17 = .ok (.if_icmp .eq 15, 3) := by decide +kernel
theorem dX11_one_20 : decode cX11_one 20 = .ok (.iload_n 1, 1) := by decide +kernel
theorem dX11_one_21 : decode cX11_one 21 = .ok (.bipush 45, 2) := by decide +kernel
theorem dX11_one_23 : decode cX11_one 23 = .ok (.if_icmp .eq 9, 3) := by decide +kernel
theorem dX11_one_26 : decode cX11_one 26 = .ok (.iload_n 1, 1) := by decide +kernel
theorem dX11_one_27 : decode cX11_one 27 = .ok (.bipush 40, 2) := by decide +kernel
theorem dX11_one_29 : decode cX11_one 29 = .ok (.if_icmp .ne 116, 3) := by decide +kernel
theorem dX11_one_32 : decode cX11_one 32 = .ok (.aload_n 0, 1) := by decide +kernel
theorem dX11_one_33 : decode cX11_one 33 = .ok (.getfield 225, 3) := by decide +kernel
theorem dX11_one_36 : decode cX11_one 36 = .ok (.bipush 6, 2) := by decide +kernel
theorem dX11_one_38 : decode cX11_one 38 = .ok (.if_icmp .ne 8, 3) := by decide +kernel
theorem dX11_one_41 : decode cX11_one 41 = .ok (.aload_n 0, 1) := by decide +kernel
theorem dX11_one_42 : decode cX11_one 42 = .ok (.invokevirtual 228, 3) := by decide +kernel
theorem dX11_one_45 : decode cX11_one 45 = .ok (.ireturn, 1) := by decide +kernel
theorem dX11_one_46 : decode cX11_one 46 = .ok (.aload_n 0, 1) := by decide +kernel
theorem dX11_one_47 : decode cX11_one 47 = .ok (.dup, 1) := by decide +kernel
theorem dX11_one_48 : decode cX11_one 48 = .ok (.getfield 225, 3) := by decide +kernel
theorem dX11_one_51 : decode cX11_one 51 = .ok (.iconst 1, 1) := by decide +kernel
theorem dX11_one_52 : decode cX11_one 52 = .ok (.iadd, 1) := by decide +kernel
theorem dX11_one_53 : decode cX11_one 53 = .ok (.putfield 225, 3) := by decide +kernel
theorem dX11_one_56 : decode cX11_one 56 = .ok (.aload_n 0, 1) := by decide +kernel
theorem dX11_one_57 : decode cX11_one 57 = .ok (.dup, 1) := by decide +kernel
theorem dX11_one_58 : decode cX11_one 58 = .ok (.getfield 191, 3) := by decide +kernel
theorem dX11_one_61 : decode cX11_one 61 = .ok (.iconst 1, 1) := by decide +kernel
theorem dX11_one_62 : decode cX11_one 62 = .ok (.iadd, 1) := by decide +kernel
theorem dX11_one_63 : decode cX11_one 63 = .ok (.putfield 191, 3) := by decide +kernel
theorem dX11_one_66 : decode cX11_one 66 = .ok (.iload_n 1, 1) := by decide +kernel
theorem dX11_one_67 : decode cX11_one 67 = .ok (.bipush 40, 2) := by decide +kernel
theorem dX11_one_69 : decode cX11_one 69 = .ok (.if_icmp .ne 10, 3) := by decide +kernel
theorem dX11_one_72 : decode cX11_one 72 = .ok (.aload_n 0, 1) := by decide +kernel
theorem dX11_one_73 : decode cX11_one 73 = .ok (.invokevirtual 231, 3) := by decide +kernel
theorem dX11_one_76 : decode cX11_one 76 = .ok (.goto 7, 3) := by decide +kernel
theorem dX11_one_79 : decode cX11_one 79 = .ok (.aload_n 0, 1) := by decide +kernel
theorem dX11_one_80 : decode cX11_one 80 = .ok (.invokevirtual 222, 3) := by decide +kernel
theorem dX11_one_83 : decode cX11_one 83 = .ok (.istore_n 2, 1) := by decide +kernel
theorem dX11_one_84 : decode cX11_one 84 = .ok (.iload_n 1, 1) := by decide +kernel
theorem dX11_one_85 : decode cX11_one 85 = .ok (.bipush 40, 2) := by decide +kernel
theorem dX11_one_87 : decode cX11_one 87 = .ok (.if_icmp .ne 17, 3) := by decide +kernel
theorem dX11_one_90 : decode cX11_one 90 = .ok (.aload_n 0, 1) := by decide +kernel
theorem dX11_one_91 : decode cX11_one 91 = .ok (.bipush 41, 2) := by decide +kernel
theorem dX11_one_93 : decode cX11_one 93 = .ok (.invokevirtual 210, 3) := by decide +kernel
theorem dX11_one_96 : decode cX11_one 96 = .ok (.ifCond .ne 8, 3) := by decide +kernel
theorem dX11_one_99 : decode cX11_one 99 = .ok (.aload_n 0, 1) := by decide +kernel
theorem dX11_one_100 : decode cX11_one 100 = .ok (.invokevirtual 228, 3) := by decide +kernel
theorem dX11_one_103 : decode cX11_one 103 = .ok (.ireturn, 1) := by decide +kernel
theorem dX11_one_104 : decode cX11_one 104 = .ok (.aload_n 0, 1) := by decide +kernel
theorem dX11_one_105 : decode cX11_one 105 = .ok (.dup, 1) := by decide +kernel
theorem dX11_one_106 : decode cX11_one 106 = .ok (.getfield 225, 3) := by decide +kernel
theorem dX11_one_109 : decode cX11_one 109 = .ok (.iconst 1, 1) := by decide +kernel
theorem dX11_one_110 : decode cX11_one 110 = .ok (.isub, 1) := by decide +kernel
theorem dX11_one_111 : decode cX11_one 111 = .ok (.putfield 225, 3) := by decide +kernel
theorem dX11_one_114 : decode cX11_one 114 = .ok (.iload_n 1, 1) := by decide +kernel
theorem dX11_one_115 : decode cX11_one 115 = .ok (.bipush 40, 2) := by decide +kernel
theorem dX11_one_117 : decode cX11_one 117 = .ok (.if_icmp .ne 7, 3) := by decide +kernel
theorem dX11_one_120 : decode cX11_one 120 = .ok (.iload_n 2, 1) := by decide +kernel
theorem dX11_one_121 : decode cX11_one 121 = .ok (.goto 23, 3) := by decide +kernel
theorem dX11_one_124 : decode cX11_one 124 = .ok (.iload_n 1, 1) := by decide +kernel
theorem dX11_one_125 : decode cX11_one 125 = .ok (.bipush 45, 2) := by decide +kernel
theorem dX11_one_127 : decode cX11_one 127 = .ok (.if_icmp .ne 8, 3) := by decide +kernel
theorem dX11_one_130 : decode cX11_one 130 = .ok (.iload_n 2, 1) := by decide +kernel
theorem dX11_one_131 : decode cX11_one 131 = .ok (.ineg, 1) := by decide +kernel
theorem dX11_one_132 : decode cX11_one 132 = .ok (.goto 12, 3) := by decide +kernel
theorem dX11_one_135 : decode cX11_one 135 = .ok (.iload_n 2, 1) := by decide +kernel
theorem dX11_one_136 : decode cX11_one 136 = .ok (.ifCond .ne 7, 3) := by decide +kernel
theorem dX11_one_139 : decode cX11_one 139 = .ok (.iconst 1, 1) := by decide +kernel
theorem dX11_one_140 : decode cX11_one 140 = .ok (.goto 4, 3) := by decide +kernel
theorem dX11_one_143 : decode cX11_one 143 = .ok (.iconst 0, 1) := by decide +kernel
theorem dX11_one_144 : decode cX11_one 144 = .ok (.ireturn, 1) := by decide +kernel
theorem dX11_one_145 : decode cX11_one 145 = .ok (.iload_n 1, 1) := by decide +kernel
theorem dX11_one_146 : decode cX11_one 146 = .ok (.invokestatic 234, 3) := by decide +kernel
theorem dX11_one_149 : decode cX11_one 149 = .ok (.istore_n 2, 1) := by decide +kernel
theorem dX11_one_150 : decode cX11_one 150 = .ok (.iload_n 2, 1) := by decide +kernel
theorem dX11_one_151 : decode cX11_one 151 = .ok (.ifCond .lt 20, 3) := by decide +kernel
theorem dX11_one_154 : decode cX11_one 154 = .ok (.aload_n 0, 1) := by decide +kernel
theorem dX11_one_155 : decode cX11_one 155 = .ok (.dup, 1) := by decide +kernel
theorem dX11_one_156 : decode cX11_one 156 = .ok (.getfield 191, 3) := by decide +kernel
theorem dX11_one_159 : decode cX11_one 159 = .ok (.iconst 1, 1) := by decide +kernel
theorem dX11_one_160 : decode cX11_one 160 = .ok (.iadd, 1) := by decide +kernel
theorem dX11_one_161 : decode cX11_one 161 = .ok (.putfield 191, 3) := by decide +kernel
theorem dX11_one_164 : decode cX11_one 164 = .ok (.aload_n 0, 1) := by decide +kernel
theorem dX11_one_165 : decode cX11_one 165 = .ok (.getfield 37, 3) := by decide +kernel
theorem dX11_one_168 : decode cX11_one 168 = .ok (.iload_n 2, 1) := by decide +kernel
theorem dX11_one_169 : decode cX11_one 169 = .ok (.iaload, 1) := by decide +kernel
theorem dX11_one_170 : decode cX11_one 170 = .ok (.ireturn, 1) := by decide +kernel
theorem dX11_one_171 : decode cX11_one 171 = .ok (.iconst 0, 1) := by decide +kernel
theorem dX11_one_172 : decode cX11_one 172 = .ok (.istore_n 3, 1) := by decide +kernel
theorem dX11_one_173 : decode cX11_one 173 = .ok (.iconst 0, 1) := by decide +kernel
theorem dX11_one_174 : decode cX11_one 174 = .ok (.istore 4, 2) := by decide +kernel
theorem dX11_one_176 : decode cX11_one 176 = .ok (.iload 4, 2) := by decide +kernel
theorem dX11_one_178 : decode cX11_one 178 = .ok (.iconst 4, 1) := by decide +kernel
theorem dX11_one_179 : decode cX11_one 179 = .ok (.if_icmp .ge 50, 3) := by decide +kernel
theorem dX11_one_182 : decode cX11_one 182 = .ok (.aload_n 0, 1) := by decide +kernel
theorem dX11_one_183 : decode cX11_one 183 = .ok (.invokevirtual 203, 3) := by decide +kernel
theorem dX11_one_186 : decode cX11_one 186 = .ok (.bipush 48, 2) := by decide +kernel
theorem dX11_one_188 : decode cX11_one 188 = .ok (.if_icmp .lt 41, 3) := by decide +kernel
theorem dX11_one_191 : decode cX11_one 191 = .ok (.aload_n 0, 1) := by decide +kernel
theorem dX11_one_192 : decode cX11_one 192 = .ok (.invokevirtual 203, 3) := by decide +kernel
theorem dX11_one_195 : decode cX11_one 195 = .ok (.bipush 57, 2) := by decide +kernel
theorem dX11_one_197 : decode cX11_one 197 = .ok (.if_icmp .gt 32, 3) := by decide +kernel
theorem dX11_one_200 : decode cX11_one 200 = .ok (.bipush 10, 2) := by decide +kernel
theorem dX11_one_202 : decode cX11_one 202 = .ok (.iload_n 3, 1) := by decide +kernel
theorem dX11_one_203 : decode cX11_one 203 = .ok (.imul, 1) := by decide +kernel
theorem dX11_one_204 : decode cX11_one 204 = .ok (.aload_n 0, 1) := by decide +kernel
theorem dX11_one_205 : decode cX11_one 205 = .ok (.invokevirtual 203, 3) := by decide +kernel
theorem dX11_one_208 : decode cX11_one 208 = .ok (.iadd, 1) := by decide +kernel
theorem dX11_one_209 : decode cX11_one 209 = .ok (.bipush 48, 2) := by decide +kernel
theorem dX11_one_211 : decode cX11_one 211 = .ok (.isub, 1) := by decide +kernel
theorem dX11_one_212 : decode cX11_one 212 = .ok (.istore_n 3, 1) := by decide +kernel
theorem dX11_one_213 : decode cX11_one 213 = .ok (.iinc 4 1, 3) := by decide +kernel
theorem dX11_one_216 : decode cX11_one 216 = .ok (.aload_n 0, 1) := by decide +kernel
theorem dX11_one_217 : decode cX11_one 217 = .ok (.dup, 1) := by decide +kernel
theorem dX11_one_218 : decode cX11_one 218 = .ok (.getfield 191, 3) := by decide +kernel
theorem dX11_one_221 : decode cX11_one 221 = .ok (.iconst 1, 1) := by decide +kernel
theorem dX11_one_222 : decode cX11_one 222 = .ok (.iadd, 1) := by decide +kernel
theorem dX11_one_223 : decode cX11_one 223 = .ok (.putfield 191, 3) := by decide +kernel
theorem dX11_one_226 : decode cX11_one 226 = .ok (.goto (-50), 3) := by decide +kernel
theorem dX11_one_229 : decode cX11_one 229 = .ok (.iload 4, 2) := by decide +kernel
theorem dX11_one_231 : decode cX11_one 231 = .ok (.ifCond .ne 10, 3) := by decide +kernel
theorem dX11_one_234 : decode cX11_one 234 = .ok (.aload_n 0, 1) := by decide +kernel
theorem dX11_one_235 : decode cX11_one 235 = .ok (.invokevirtual 228, 3) := by decide +kernel
theorem dX11_one_238 : decode cX11_one 238 = .ok (.goto 4, 3) := by decide +kernel
theorem dX11_one_241 : decode cX11_one 241 = .ok (.iload_n 3, 1) := by decide +kernel
theorem dX11_one_242 : decode cX11_one 242 = .ok (.ireturn, 1) := by decide +kernel
theorem dX11_workOut_0 : decode cX11_workOut 0 = .ok (.aload_n 0, 1) := by decide +kernel
theorem dX11_workOut_1 : decode cX11_workOut 1 = .ok (.iload_n 1, 1) := by decide +kernel
theorem dX11_workOut_2 : decode cX11_workOut 2 = .ok (.putfield 197, 3) := by decide +kernel
theorem dX11_workOut_5 : decode cX11_workOut 5 = .ok (.aload_n 0, 1) := by decide +kernel
theorem dX11_workOut_6 : decode cX11_workOut 6 = .ok (.iconst 0, 1) := by decide +kernel
theorem dX11_workOut_7 : decode cX11_workOut 7 = .ok (.putfield 191, 3) := by decide +kernel
theorem dX11_workOut_10 : decode cX11_workOut 10 = .ok (.aload_n 0, 1) := by decide +kernel
theorem dX11_workOut_11 : decode cX11_workOut 11 = .ok (.iload_n 2, 1) := by decide +kernel
theorem dX11_workOut_12 : decode cX11_workOut 12 = .ok (.putfield 194, 3) := by decide +kernel
theorem dX11_workOut_15 : decode cX11_workOut 15 = .ok (.aload_n 0, 1) := by decide +kernel
theorem dX11_workOut_16 : decode cX11_workOut 16 = .ok (.iconst (-1), 1) := by decide +kernel
theorem dX11_workOut_17 : decode cX11_workOut 17 = .ok (.putfield 200, 3) := by decide +kernel
theorem dX11_workOut_20 : decode cX11_workOut 20 = .ok (.aload_n 0, 1) := by decide +kernel
theorem dX11_workOut_21 : decode cX11_workOut 21 = .ok (.iconst 0, 1) := by decide +kernel
theorem dX11_workOut_22 : decode cX11_workOut 22 = .ok (.putfield 225, 3) := by decide +kernel
theorem dX11_workOut_25 : decode cX11_workOut 25 = .ok (.iconst 0, 1) := by decide +kernel
theorem dX11_workOut_26 : decode cX11_workOut 26 = .ok (.istore_n 3, 1) := by decide +kernel
theorem dX11_workOut_27 : decode cX11_workOut 27 = .ok (.iconst 0, 1) := by decide +kernel
theorem dX11_workOut_28 : decode cX11_workOut 28 = .ok (.istore 4, 2) := by decide +kernel
theorem dX11_workOut_30 : decode cX11_workOut 30 = .ok (.iconst 1, 1) := by decide +kernel
theorem dX11_workOut_31 : decode cX11_workOut 31 = .ok (.istore 5, 2) := by decide +kernel
theorem dX11_workOut_33 : decode cX11_workOut 33 = .ok (.iload 5, 2) := by decide +kernel
theorem dX11_workOut_35 : decode cX11_workOut 35 = .ok (.ifCond .eq 72, 3) := by decide +kernel
theorem dX11_workOut_38 : decode cX11_workOut 38 = .ok (.aload_n 0, 1) := by decide +kernel
theorem dX11_workOut_39 : decode cX11_workOut 39 = .ok (.invokevirtual 231, 3) := by decide +kernel
theorem dX11_workOut_42 : decode cX11_workOut 42 = .ok (.istore 6, 2) := by decide +kernel
theorem dX11_workOut_44 : decode cX11_workOut 44 = .ok (.iconst 1, 1) := by decide +kernel
theorem dX11_workOut_45 : decode cX11_workOut 45 = .ok (.istore 7, 2) := by decide +kernel
theorem dX11_workOut_47 : decode cX11_workOut 47 = .ok (.aload_n 0, 1) := by decide +kernel
theorem dX11_workOut_48 : decode cX11_workOut 48 = .ok (.bipush 63, 2) := by decide +kernel
theorem dX11_workOut_50 : decode cX11_workOut 50 = .ok (.invokevirtual 210, 3) := by decide +kernel
theorem dX11_workOut_53 : decode cX11_workOut 53 = .ok (.ifCond .eq 21, 3) := by decide +kernel
theorem dX11_workOut_56 : decode cX11_workOut 56 = .ok (.iload 6, 2) := by decide +kernel
theorem dX11_workOut_58 : decode cX11_workOut 58 = .ok (.ifCond .eq 7, 3) := by decide +kernel
theorem dX11_workOut_61 : decode cX11_workOut 61 = .ok (.iconst 1, 1) := by decide +kernel
theorem dX11_workOut_62 : decode cX11_workOut 62 = .ok (.goto 4, 3) := by decide +kernel
theorem dX11_workOut_65 : decode cX11_workOut 65 = .ok (.iconst 0, 1) := by decide +kernel
theorem dX11_workOut_66 : decode cX11_workOut 66 = .ok (.istore 7, 2) := by decide +kernel
theorem dX11_workOut_68 : decode cX11_workOut 68 = .ok (.aload_n 0, 1) := by decide +kernel
theorem dX11_workOut_69 : decode cX11_workOut 69 = .ok (.invokevirtual 231, 3) := by decide +kernel
theorem dX11_workOut_72 : decode cX11_workOut 72 = .ok (.istore 6, 2) := by decide +kernel
theorem dX11_workOut_74 : decode cX11_workOut 74 = .ok (.aload_n 0, 1) := by decide +kernel
theorem dX11_workOut_75 : decode cX11_workOut 75 = .ok (.getfield 200, 3) := by decide +kernel
theorem dX11_workOut_78 : decode cX11_workOut 78 = .ok (.ifCond .ge 18, 3) := by decide +kernel
theorem dX11_workOut_81 : decode cX11_workOut 81 = .ok (.iload 7, 2) := by decide +kernel
theorem dX11_workOut_83 : decode cX11_workOut 83 = .ok (.ifCond .eq 13, 3) := by decide +kernel
theorem dX11_workOut_86 : decode cX11_workOut 86 = .ok (.iload_n 3, 1) := by decide +kernel
theorem dX11_workOut_87 : decode cX11_workOut 87 = .ok (.ifCond .ne 9, 3) := by decide +kernel
theorem dX11_workOut_90 : decode cX11_workOut 90 = .ok (.iconst 1, 1) := by decide +kernel
theorem dX11_workOut_91 : decode cX11_workOut 91 = .ok (.istore_n 3, 1) := by decide +kernel
theorem dX11_workOut_92 : decode cX11_workOut 92 = .ok (.iload 6, 2) := by decide +kernel
theorem dX11_workOut_94 : decode cX11_workOut 94 = .ok (.istore 4, 2) := by decide +kernel
theorem dX11_workOut_96 : decode cX11_workOut 96 = .ok (.aload_n 0, 1) := by decide +kernel
theorem dX11_workOut_97 : decode cX11_workOut 97 = .ok (.bipush 59, 2) := by decide +kernel
theorem dX11_workOut_99 : decode cX11_workOut 99 = .ok (.invokevirtual 210, 3) := by decide +kernel
theorem dX11_workOut_102 : decode cX11_workOut 102 = .ok (.istore 5, 2) := by decide +kernel
theorem dX11_workOut_104 : decode cX11_workOut 104 = .ok (.goto (-71), 3) := by decide +kernel
theorem dX11_workOut_107 : decode cX11_workOut 107 = .ok (.aload_n 0, 1) := by decide +kernel
theorem dX11_workOut_108 : decode cX11_workOut 108 = .ok (.getfield 200, 3) := by decide +kernel
theorem dX11_workOut_111 : decode cX11_workOut 111 = .ok (.ifCond .ge 19, 3) := by decide +kernel
theorem dX11_workOut_114 : decode cX11_workOut 114 = .ok (.aload_n 0, 1) := by decide +kernel
theorem dX11_workOut_115 : decode cX11_workOut 115 = .ok (.getfield 191, 3) := by decide +kernel
theorem dX11_workOut_118 : decode cX11_workOut 118 = .ok (.aload_n 0, 1) := by decide +kernel
theorem dX11_workOut_119 : decode cX11_workOut 119 = .ok (.getfield 194, 3) := by decide +kernel
theorem dX11_workOut_122 : decode cX11_workOut 122 = .ok (.if_icmp .ge 8, 3) := by decide +kernel
theorem dX11_workOut_125 : decode cX11_workOut 125 = .ok (.aload_n 0, 1) := by decide +kernel
theorem dX11_workOut_126 : decode cX11_workOut 126 = .ok (.invokevirtual 228, 3) := by decide +kernel
theorem dX11_workOut_129 : decode cX11_workOut 129 = .ok (.ireturn, 1) := by decide +kernel
theorem dX11_workOut_130 : decode cX11_workOut 130 = .ok (.iload 4, 2) := by decide +kernel
theorem dX11_workOut_132 : decode cX11_workOut 132 = .ok (.ireturn, 1) := by decide +kernel
theorem dX11_law_0 : decode cX11_law 0 = .ok (.aload_n 0, 1) := by decide +kernel
theorem dX11_law_1 : decode cX11_law 1 = .ok (.iconst (-1), 1) := by decide +kernel
theorem dX11_law_2 : decode cX11_law 2 = .ok (.aload_n 0, 1) := by decide +kernel
theorem dX11_law_3 : decode cX11_law 3 = .ok (.getfield 188, 3) := by decide +kernel
theorem dX11_law_6 : decode cX11_law 6 = .ok (.invokevirtual 237, 3) := by decide +kernel
theorem dX11_law_9 : decode cX11_law 9 = .ok (.istore_n 1, 1) := by decide +kernel
theorem dX11_law_10 : decode cX11_law 10 = .ok (.aload_n 0, 1) := by decide +kernel
theorem dX11_law_11 : decode cX11_law 11 = .ok (.getfield 188, 3) := by decide +kernel
theorem dX11_law_14 : decode cX11_law 14 = .ok (.istore_n 2, 1) := by decide +kernel
theorem dX11_law_15 : decode cX11_law 15 = .ok (.aload_n 0, 1) := by decide +kernel
theorem dX11_law_16 : decode cX11_law 16 = .ok (.iconst 0, 1) := by decide +kernel
theorem dX11_law_17 : decode cX11_law 17 = .ok (.putfield 188, 3) := by decide +kernel
theorem dX11_law_20 : decode cX11_law 20 = .ok (.aload_n 0, 1) := by decide +kernel
theorem dX11_law_21 : decode cX11_law 21 = .ok (.getfield 200, 3) := by decide +kernel
theorem dX11_law_24 : decode cX11_law 24 = .ok (.ifCond .lt 11, 3) := by decide +kernel
theorem dX11_law_27 : decode cX11_law 27 = .ok (.bipush (-100), 2) := by decide +kernel
theorem dX11_law_29 : decode cX11_law 29 = .ok (.aload_n 0, 1) := by decide +kernel
theorem dX11_law_30 : decode cX11_law 30 = .ok (.getfield 200, 3) := by decide +kernel
theorem dX11_law_33 : decode cX11_law 33 = .ok (.isub, 1) := by decide +kernel
theorem dX11_law_34 : decode cX11_law 34 = .ok (.ireturn, 1) := by decide +kernel
theorem dX11_law_35 : decode cX11_law 35 = .ok (.iconst 0, 1) := by decide +kernel
theorem dX11_law_36 : decode cX11_law 36 = .ok (.istore_n 3, 1) := by decide +kernel
theorem dX11_law_37 : decode cX11_law 37 = .ok (.iload_n 3, 1) := by decide +kernel
theorem dX11_law_38 : decode cX11_law 38 = .ok (.iload_n 2, 1) := by decide +kernel
theorem dX11_law_39 : decode cX11_law 39 = .ok (.if_icmp .ge 21, 3) := by decide +kernel
theorem dX11_law_42 : decode cX11_law 42 = .ok (.aload_n 0, 1) := by decide +kernel
theorem dX11_law_43 : decode cX11_law 43 = .ok (.getfield 34, 3) := by decide +kernel
theorem dX11_law_46 : decode cX11_law 46 = .ok (.iload_n 3, 1) := by decide +kernel
theorem dX11_law_47 : decode cX11_law 47 = .ok (.aload_n 0, 1) := by decide +kernel
theorem dX11_law_48 : decode cX11_law 48 = .ok (.getfield 31, 3) := by decide +kernel
theorem dX11_law_51 : decode cX11_law 51 = .ok (.iload_n 3, 1) := by decide +kernel
theorem dX11_law_52 : decode cX11_law 52 = .ok (.iaload, 1) := by decide +kernel
theorem dX11_law_53 : decode cX11_law 53 = .ok (.iastore, 1) := by decide +kernel
theorem dX11_law_54 : decode cX11_law 54 = .ok (.iinc 3 1, 3) := by decide +kernel
theorem dX11_law_57 : decode cX11_law 57 = .ok (.goto (-20), 3) := by decide +kernel
theorem dX11_law_60 : decode cX11_law 60 = .ok (.aload_n 0, 1) := by decide +kernel
theorem dX11_law_61 : decode cX11_law 61 = .ok (.iload_n 2, 1) := by decide +kernel
theorem dX11_law_62 : decode cX11_law 62 = .ok (.putfield 77, 3) := by decide +kernel
theorem dX11_law_65 : decode cX11_law 65 = .ok (.iconst 1, 1) := by decide +kernel
theorem dX11_law_66 : decode cX11_law 66 = .ok (.ireturn, 1) := by decide +kernel
theorem dX11_goesBy_0 : decode cX11_goesBy 0 = .ok (.aload_n 0, 1) := by decide +kernel
theorem dX11_goesBy_1 : decode cX11_goesBy 1 = .ok (.getfield 77, 3) := by decide +kernel
theorem dX11_goesBy_4 : decode cX11_goesBy 4 = .ok (.ifCond .ge 28, 3) := by decide +kernel
theorem dX11_goesBy_7 : decode cX11_goesBy 7 = .ok (.iload_n 1, 1) := by decide +kernel
theorem dX11_goesBy_8 : decode cX11_goesBy 8 = .ok (.iload_n 2, 1) := by decide +kernel
theorem dX11_goesBy_9 : decode cX11_goesBy 9 = .ok (.imul, 1) := by decide +kernel
theorem dX11_goesBy_10 : decode cX11_goesBy 10 = .ok (.sipush 288, 3) := by decide +kernel
theorem dX11_goesBy_13 : decode cX11_goesBy 13 = .ok (.iload_n 3, 1) := by decide +kernel
theorem dX11_goesBy_14 : decode cX11_goesBy 14 = .ok (.imul, 1) := by decide +kernel
theorem dX11_goesBy_15 : decode cX11_goesBy 15 = .ok (.aload_n 0, 1) := by decide +kernel
theorem dX11_goesBy_16 : decode cX11_goesBy 16 = .ok (.getfield 11, 3) := by decide +kernel
theorem dX11_goesBy_19 : decode cX11_goesBy 19 = .ok (.bipush 36, 2) := by decide +kernel
theorem dX11_goesBy_21 : decode cX11_goesBy 21 = .ok (.iaload, 1) := by decide +kernel
theorem dX11_goesBy_22 : decode cX11_goesBy 22 = .ok (.imul, 1) := by decide +kernel
theorem dX11_goesBy_23 : decode cX11_goesBy 23 = .ok (.if_icmp .le 7, 3) := by decide +kernel
theorem dX11_goesBy_26 : decode cX11_goesBy 26 = .ok (.iconst 1, 1) := by decide +kernel
theorem dX11_goesBy_27 : decode cX11_goesBy 27 = .ok (.goto 4, 3) := by decide +kernel
theorem dX11_goesBy_30 : decode cX11_goesBy 30 = .ok (.iconst 0, 1) := by decide +kernel
theorem dX11_goesBy_31 : decode cX11_goesBy 31 = .ok (.ireturn, 1) := by decide +kernel
theorem dX11_goesBy_32 : decode cX11_goesBy 32 = .ok (.aload_n 0, 1) := by decide +kernel
theorem dX11_goesBy_33 : decode cX11_goesBy 33 = .ok (.getfield 37, 3) := by decide +kernel
theorem dX11_goesBy_36 : decode cX11_goesBy 36 = .ok (.iconst 0, 1) := by decide +kernel
theorem dX11_goesBy_37 : decode cX11_goesBy 37 = .ok (.iload_n 1, 1) := by decide +kernel
theorem dX11_goesBy_38 : decode cX11_goesBy 38 = .ok (.iastore, 1) := by decide +kernel
theorem dX11_goesBy_39 : decode cX11_goesBy 39 = .ok (.aload_n 0, 1) := by decide +kernel
theorem dX11_goesBy_40 : decode cX11_goesBy 40 = .ok (.getfield 37, 3) := by decide +kernel
theorem dX11_goesBy_43 : decode cX11_goesBy 43 = .ok (.iconst 1, 1) := by decide +kernel
theorem dX11_goesBy_44 : decode cX11_goesBy 44 = .ok (.iload_n 2, 1) := by decide +kernel
theorem dX11_goesBy_45 : decode cX11_goesBy 45 = .ok (.iastore, 1) := by decide +kernel
theorem dX11_goesBy_46 : decode cX11_goesBy 46 = .ok (.aload_n 0, 1) := by decide +kernel
theorem dX11_goesBy_47 : decode cX11_goesBy 47 = .ok (.getfield 37, 3) := by decide +kernel
theorem dX11_goesBy_50 : decode cX11_goesBy 50 = .ok (.iconst 2, 1) := by decide +kernel
theorem dX11_goesBy_51 : decode cX11_goesBy 51 = .ok (.iload_n 3, 1) := by decide +kernel
theorem dX11_goesBy_52 : decode cX11_goesBy 52 = .ok (.iastore, 1) := by decide +kernel
theorem dX11_goesBy_53 : decode cX11_goesBy 53 = .ok (.aload_n 0, 1) := by decide +kernel
theorem dX11_goesBy_54 : decode cX11_goesBy 54 = .ok (.getfield 37, 3) := by decide +kernel
theorem dX11_goesBy_57 : decode cX11_goesBy 57 = .ok (.iconst 3, 1) := by decide +kernel
theorem dX11_goesBy_58 : decode cX11_goesBy 58 = .ok (.aload_n 0, 1) := by decide +kernel
theorem dX11_goesBy_59 : decode cX11_goesBy 59 = .ok (.getfield 11, 3) := by decide +kernel
theorem dX11_goesBy_62 : decode cX11_goesBy 62 = .ok (.bipush 36, 2) := by decide +kernel
theorem dX11_goesBy_64 : decode cX11_goesBy 64 = .ok (.iaload, 1) := by decide +kernel
theorem dX11_goesBy_65 : decode cX11_goesBy 65 = .ok (.iastore, 1) := by decide +kernel
theorem dX11_goesBy_66 : decode cX11_goesBy 66 = .ok (.aload_n 0, 1) := by decide +kernel
theorem dX11_goesBy_67 : decode cX11_goesBy 67 = .ok (.getfield 37, 3) := by decide +kernel
theorem dX11_goesBy_70 : decode cX11_goesBy 70 = .ok (.iconst 4, 1) := by decide +kernel
theorem dX11_goesBy_71 : decode cX11_goesBy 71 = .ok (.aload_n 0, 1) := by decide +kernel
theorem dX11_goesBy_72 : decode cX11_goesBy 72 = .ok (.getfield 143, 3) := by decide +kernel
theorem dX11_goesBy_75 : decode cX11_goesBy 75 = .ok (.iastore, 1) := by decide +kernel
theorem dX11_goesBy_76 : decode cX11_goesBy 76 = .ok (.aload_n 0, 1) := by decide +kernel
theorem dX11_goesBy_77 : decode cX11_goesBy 77 = .ok (.getfield 37, 3) := by decide +kernel
theorem dX11_goesBy_80 : decode cX11_goesBy 80 = .ok (.iconst 5, 1) := by decide +kernel
theorem dX11_goesBy_81 : decode cX11_goesBy 81 = .ok (.iload 4, 2) := by decide +kernel
theorem dX11_goesBy_83 : decode cX11_goesBy 83 = .ok (.iastore, 1) := by decide +kernel
theorem dX11_goesBy_84 : decode cX11_goesBy 84 = .ok (.aload_n 0, 1) := by decide +kernel
theorem dX11_goesBy_85 : decode cX11_goesBy 85 = .ok (.iconst 0, 1) := by decide +kernel
theorem dX11_goesBy_86 : decode cX11_goesBy 86 = .ok (.aload_n 0, 1) := by decide +kernel
theorem dX11_goesBy_87 : decode cX11_goesBy 87 = .ok (.getfield 77, 3) := by decide +kernel
theorem dX11_goesBy_90 : decode cX11_goesBy 90 = .ok (.invokevirtual 237, 3) := by decide +kernel
theorem dX11_goesBy_93 : decode cX11_goesBy 93 = .ok (.ifCond .eq 7, 3) := by decide +kernel
theorem dX11_goesBy_96 : decode cX11_goesBy 96 = .ok (.iconst 1, 1) := by decide +kernel
theorem dX11_goesBy_97 : decode cX11_goesBy 97 = .ok (.goto 4, 3) := by decide +kernel
theorem dX11_goesBy_100 : decode cX11_goesBy 100 = .ok (.iconst 0, 1) := by decide +kernel
theorem dX11_goesBy_101 : decode cX11_goesBy 101 = .ok (.ireturn, 1) := by decide +kernel
theorem dX11_partsOf_0 : decode cX11_partsOf 0 = .ok (.aload_n 0, 1) := by decide +kernel
theorem dX11_partsOf_1 : decode cX11_partsOf 1 = .ok (.iload_n 1, 1) := by decide +kernel
theorem dX11_partsOf_2 : decode cX11_partsOf 2 = .ok (.iload_n 2, 1) := by decide +kernel
theorem dX11_partsOf_3 : decode cX11_partsOf 3 = .ok (.invokevirtual 176, 3) := by decide +kernel
theorem dX11_partsOf_6 : decode cX11_partsOf 6 = .ok (.ifCond .eq 20, 3) := by decide +kernel
theorem dX11_partsOf_9 : decode cX11_partsOf 9 = .ok (.ldc2_w 97, 3) := by decide +kernel
theorem dX11_partsOf_12 : decode cX11_partsOf 12 = .ok (.aload_n 0, 1) := by decide +kernel
theorem dX11_partsOf_13 : decode cX11_partsOf 13 = .ok (.getfield 158, 3) := by decide +kernel
theorem dX11_partsOf_16 : decode cX11_partsOf 16 = .ok (.lmul, 1) := by decide +kernel
theorem dX11_partsOf_17 : decode cX11_partsOf 17 = .ok (.aload_n 0, 1) := by decide +kernel
theorem dX11_partsOf_18 : decode cX11_partsOf 18 = .ok (.getfield 162, 3) := by decide +kernel
theorem dX11_partsOf_21 : decode cX11_partsOf 21 = .ok (.ldiv, 1) := by decide +kernel
theorem dX11_partsOf_22 : decode cX11_partsOf 22 = .ok (.l2i, 1) := by decide +kernel
theorem dX11_partsOf_23 : decode cX11_partsOf 23 = .ok (.goto 4, 3) := by decide +kernel
theorem dX11_partsOf_26 : decode cX11_partsOf 26 = .ok (.iconst 0, 1) := by decide +kernel
theorem dX11_partsOf_27 : decode cX11_partsOf 27 = .ok (.ireturn, 1) := by decide +kernel
theorem dX11_isYards_0 : decode cX11_isYards 0 = .ok (.lload_n 0, 1) := by decide +kernel
theorem dX11_isYards_1 : decode cX11_isYards 1 = .ok (.lconst 0, 1) := by decide +kernel
theorem dX11_isYards_2 : decode cX11_isYards 2 = .ok (.ldc2_w 240, 3) := by decide +kernel
theorem dX11_isYards_5 : decode cX11_isYards 5 = .ok (.invokestatic 93, 3) := by decide +kernel
theorem dX11_isYards_8 : decode cX11_isYards 8 = .ok (.ireturn, 1) := by decide +kernel
theorem dX11_backCosts_0 : decode cX11_backCosts 0 = .ok (.iconst 2, 1) := by decide +kernel
theorem dX11_backCosts_1 : decode cX11_backCosts 1 = .ok (.iload_n 1, 1) := by decide +kernel
theorem dX11_backCosts_2 : decode cX11_backCosts 2 = .ok (.imul, 1) := by decide +kernel
theorem dX11_backCosts_3 : decode cX11_backCosts 3 = .ok (.aload_n 0, 1) := by decide +kernel
theorem dX11_backCosts_4 : decode cX11_backCosts 4 = .ok (.getfield 11, 3) := by decide +kernel
theorem dX11_backCosts_7 : decode cX11_backCosts 7 = .ok (.bipush 36, 2) := by decide +kernel
theorem dX11_backCosts_9 : decode cX11_backCosts 9 = .ok (.iaload, 1) := by decide +kernel
theorem dX11_backCosts_10 : decode cX11_backCosts 10 = .ok (.imul, 1) := by decide +kernel
theorem dX11_backCosts_11 : decode cX11_backCosts 11 = .ok (.ireturn, 1) := by decide +kernel
theorem dX11_isTr_0 : decode cX11_isTr 0 = .ok (.iload_n 1, 1) := by decide +kernel
theorem dX11_isTr_1 : decode cX11_isTr 1 = .ok (.ifCond .lt 27, 3) := by decide +kernel
theorem dX11_isTr_4 : decode cX11_isTr 4 = .ok (.aload_n 0, 1) := by decide +kernel
theorem dX11_isTr_5 : decode cX11_isTr 5 = .ok (.iload_n 1, 1) := by decide +kernel
theorem dX11_isTr_6 : decode cX11_isTr 6 = .ok (.bipush 10, 2) := by decide +kernel
theorem dX11_isTr_8 : decode cX11_isTr 8 = .ok (.idiv, 1) := by decide +kernel
theorem dX11_isTr_9 : decode cX11_isTr 9 = .ok (.i2l, 1) := by decide +kernel
theorem dX11_isTr_10 : decode cX11_isTr 10 = .ok (.invokevirtual 121, 3) := by decide +kernel
theorem dX11_isTr_13 : decode cX11_isTr 13 = .ok (.ifCond .eq 15, 3) := by decide +kernel
theorem dX11_isTr_16 : decode cX11_isTr 16 = .ok (.iload_n 1, 1) := by decide +kernel
theorem dX11_isTr_17 : decode cX11_isTr 17 = .ok (.bipush 10, 2) := by decide +kernel
theorem dX11_isTr_19 : decode cX11_isTr 19 = .ok (.irem, 1) := by decide +kernel
theorem dX11_isTr_20 : decode cX11_isTr 20 = .ok (.iconst 3, 1) := by decide +kernel
theorem dX11_isTr_21 : decode cX11_isTr 21 = .ok (.if_icmp .ge 7, 3) := by decide +kernel
theorem dX11_isTr_24 : decode cX11_isTr 24 = .ok (.iconst 1, 1) := by decide +kernel
theorem dX11_isTr_25 : decode cX11_isTr 25 = .ok (.goto 4, 3) := by decide +kernel
theorem dX11_isTr_28 : decode cX11_isTr 28 = .ok (.iconst 0, 1) := by decide +kernel
theorem dX11_isTr_29 : decode cX11_isTr 29 = .ok (.ireturn, 1) := by decide +kernel
theorem dX11_worthWays_0 : decode cX11_worthWays 0 = .ok (.aload_n 0, 1) := by decide +kernel
theorem dX11_worthWays_1 : decode cX11_worthWays 1 = .ok (.iload_n 1, 1) := by decide +kernel
theorem dX11_worthWays_2 : decode cX11_worthWays 2 = .ok (.bipush 10, 2) := by decide +kernel
theorem dX11_worthWays_4 : decode cX11_worthWays 4 = .ok (.idiv, 1) := by decide +kernel
theorem dX11_worthWays_5 : decode cX11_worthWays 5 = .ok (.iload_n 1, 1) := by decide +kernel
theorem dX11_worthWays_6 : decode cX11_worthWays 6 = .ok (.bipush 10, 2) := by decide +kernel
theorem dX11_worthWays_8 : decode cX11_worthWays 8 = .ok (.irem, 1) := by decide +kernel
theorem dX11_worthWays_9 : decode cX11_worthWays 9 = .ok (.invokevirtual 176, 3) := by decide +kernel
theorem dX11_worthWays_12 : decode cX11_worthWays 12 = .ok (.pop, 1) := by decide +kernel
theorem dX11_worthWays_13 : decode cX11_worthWays 13 = .ok (.aload_n 0, 1) := by decide +kernel
theorem dX11_worthWays_14 : decode cX11_worthWays 14 = .ok (.getfield 158, 3) := by decide +kernel
theorem dX11_worthWays_17 : decode cX11_worthWays 17 = .ok (.aload_n 0, 1) := by decide +kernel
theorem dX11_worthWays_18 : decode cX11_worthWays 18 = .ok (.iload_n 1, 1) := by decide +kernel
theorem dX11_worthWays_19 : decode cX11_worthWays 19 = .ok (.bipush 10, 2) := by decide +kernel
theorem dX11_worthWays_21 : decode cX11_worthWays 21 = .ok (.idiv, 1) := by decide +kernel
theorem dX11_worthWays_22 : decode cX11_worthWays 22 = .ok (.iconst 3, 1) := by decide +kernel
theorem dX11_worthWays_23 : decode cX11_worthWays 23 = .ok (.invokevirtual 149, 3) := by decide +kernel
theorem dX11_worthWays_26 : decode cX11_worthWays 26 = .ok (.i2l, 1) := by decide +kernel
theorem dX11_worthWays_27 : decode cX11_worthWays 27 = .ok (.lmul, 1) := by decide +kernel
theorem dX11_worthWays_28 : decode cX11_worthWays 28 = .ok (.aload_n 0, 1) := by decide +kernel
theorem dX11_worthWays_29 : decode cX11_worthWays 29 = .ok (.iload_n 2, 1) := by decide +kernel
theorem dX11_worthWays_30 : decode cX11_worthWays 30 = .ok (.invokevirtual 242, 3) := by decide +kernel
theorem dX11_worthWays_33 : decode cX11_worthWays 33 = .ok (.i2l, 1) := by decide +kernel
theorem dX11_worthWays_34 : decode cX11_worthWays 34 = .ok (.aload_n 0, 1) := by decide +kernel
theorem dX11_worthWays_35 : decode cX11_worthWays 35 = .ok (.getfield 162, 3) := by decide +kernel
theorem dX11_worthWays_38 : decode cX11_worthWays 38 = .ok (.lmul, 1) := by decide +kernel
theorem dX11_worthWays_39 : decode cX11_worthWays 39 = .ok (.lsub, 1) := by decide +kernel
theorem dX11_worthWays_40 : decode cX11_worthWays 40 = .ok (.lreturn, 1) := by decide +kernel
theorem dX11_pays_0 : decode cX11_pays 0 = .ok (.aload_n 0, 1) := by decide +kernel
theorem dX11_pays_1 : decode cX11_pays 1 = .ok (.iload_n 1, 1) := by decide +kernel
theorem dX11_pays_2 : decode cX11_pays 2 = .ok (.invokevirtual 245, 3) := by decide +kernel
theorem dX11_pays_5 : decode cX11_pays 5 = .ok (.ifCond .eq 11, 3) := by decide +kernel
theorem dX11_pays_8 : decode cX11_pays 8 = .ok (.iload_n 2, 1) := by decide +kernel
theorem dX11_pays_9 : decode cX11_pays 9 = .ok (.i2l, 1) := by decide +kernel
theorem dX11_pays_10 : decode cX11_pays 10 = .ok (.invokestatic 248, 3) := by decide +kernel
theorem dX11_pays_13 : decode cX11_pays 13 = .ok (.ifCond .ne 5, 3) := by decide +kernel
theorem dX11_pays_16 : decode cX11_pays 16 = .ok (.iconst (-1), 1) := by decide +kernel
theorem dX11_pays_17 : decode cX11_pays 17 = .ok (.ireturn, 1) := by decide +kernel
theorem dX11_pays_18 : decode cX11_pays 18 = .ok (.aload_n 0, 1) := by decide +kernel
theorem dX11_pays_19 : decode cX11_pays 19 = .ok (.iload_n 1, 1) := by decide +kernel
theorem dX11_pays_20 : decode cX11_pays 20 = .ok (.iload_n 2, 1) := by decide +kernel
theorem dX11_pays_21 : decode cX11_pays 21 = .ok (.invokevirtual 251, 3) := by decide +kernel
theorem dX11_pays_24 : decode cX11_pays 24 = .ok (.lstore_n 3, 1) := by decide +kernel
theorem dX11_pays_25 : decode cX11_pays 25 = .ok (.aload_n 0, 1) := by decide +kernel
theorem dX11_pays_26 : decode cX11_pays 26 = .ok (.getfield 162, 3) := by decide +kernel
theorem dX11_pays_29 : decode cX11_pays 29 = .ok (.lconst 0, 1) := by decide +kernel
theorem dX11_pays_30 : decode cX11_pays 30 = .ok (.lcmp, 1) := by decide +kernel
theorem dX11_pays_31 : decode cX11_pays 31 = .ok (.ifCond .ne 8, 3) := by decide +kernel
theorem dX11_pays_34 : decode cX11_pays 34 = .ok (.bipush (-2), 2) := by decide +kernel
theorem dX11_pays_36 : decode cX11_pays 36 = .ok (.goto 14, 3) := by decide +kernel
theorem dX11_pays_39 : decode cX11_pays 39 = .ok (.lload_n 3, 1) := by decide +kernel
theorem dX11_pays_40 : decode cX11_pays 40 = .ok (.lconst 0, 1) := by decide +kernel
theorem dX11_pays_41 : decode cX11_pays 41 = .ok (.lcmp, 1) := by decide +kernel
theorem dX11_pays_42 : decode cX11_pays 42 = .ok (.ifCond .le 7, 3) := by decide +kernel
theorem dX11_pays_45 : decode cX11_pays 45 = .ok (.iconst 1, 1) := by decide +kernel
theorem dX11_pays_46 : decode cX11_pays 46 = .ok (.goto 4, 3) := by decide +kernel
theorem dX11_pays_49 : decode cX11_pays 49 = .ok (.iconst 0, 1) := by decide +kernel
theorem dX11_pays_50 : decode cX11_pays 50 = .ok (.ireturn, 1) := by decide +kernel
theorem dX11_worth_0 : decode cX11_worth 0 = .ok (.aload_n 0, 1) := by decide +kernel
theorem dX11_worth_1 : decode cX11_worth 1 = .ok (.iload_n 1, 1) := by decide +kernel
theorem dX11_worth_2 : decode cX11_worth 2 = .ok (.invokevirtual 245, 3) := by decide +kernel
theorem dX11_worth_5 : decode cX11_worth 5 = .ok (.ifCond .eq 18, 3) := by decide +kernel
theorem dX11_worth_8 : decode cX11_worth 8 = .ok (.iload_n 2, 1) := by decide +kernel
theorem dX11_worth_9 : decode cX11_worth 9 = .ok (.i2l, 1) := by decide +kernel
theorem dX11_worth_10 : decode cX11_worth 10 = .ok (.invokestatic 248, 3) := by decide +kernel
theorem dX11_worth_13 : decode cX11_worth 13 = .ok (.ifCond .eq 10, 3) := by decide +kernel
theorem dX11_worth_16 : decode cX11_worth 16 = .ok (.iload_n 3, 1) := by decide +kernel
theorem dX11_worth_17 : decode cX11_worth 17 = .ok (.invokestatic 171, 3) := by decide +kernel
theorem dX11_worth_20 : decode cX11_worth 20 = .ok (.ifCond .ne 7, 3) := by decide +kernel
theorem dX11_worth_23 : decode cX11_worth 23 = .ok (.ldc2_w 174, 3) := by decide +kernel
theorem dX11_worth_26 : decode cX11_worth 26 = .ok (.lreturn, 1) := by decide +kernel
theorem dX11_worth_27 : decode cX11_worth 27 = .ok (.aload_n 0, 1) := by decide +kernel
theorem dX11_worth_28 : decode cX11_worth 28 = .ok (.iload_n 1, 1) := by decide +kernel
theorem dX11_worth_29 : decode cX11_worth 29 = .ok (.iload_n 2, 1) := by decide +kernel
theorem dX11_worth_30 : decode cX11_worth 30 = .ok (.invokevirtual 251, 3) := by decide +kernel
theorem dX11_worth_33 : decode cX11_worth 33 = .ok (.lstore 4, 2) := by decide +kernel
theorem dX11_worth_35 : decode cX11_worth 35 = .ok (.aload_n 0, 1) := by decide +kernel
theorem dX11_worth_36 : decode cX11_worth 36 = .ok (.getfield 162, 3) := by decide +kernel
theorem dX11_worth_39 : decode cX11_worth 39 = .ok (.lconst 0, 1) := by decide +kernel
theorem dX11_worth_40 : decode cX11_worth 40 = .ok (.lcmp, 1) := by decide +kernel
theorem dX11_worth_41 : decode cX11_worth 41 = .ok (.ifCond .ne 9, 3) := by decide +kernel
theorem dX11_worth_44 : decode cX11_worth 44 = .ok (.ldc2_w 184, 3) := by decide +kernel
theorem dX11_worth_47 : decode cX11_worth 47 = .ok (.goto 13, 3) := by decide +kernel
theorem dX11_worth_50 : decode cX11_worth 50 = .ok (.lload 4, 2) := by decide +kernel
theorem dX11_worth_52 : decode cX11_worth 52 = .ok (.aload_n 0, 1) := by decide +kernel
theorem dX11_worth_53 : decode cX11_worth 53 = .ok (.getfield 162, 3) := by decide +kernel
theorem dX11_worth_56 : decode cX11_worth 56 = .ok (.iload_n 3, 1) := by decide +kernel
theorem dX11_worth_57 : decode cX11_worth 57 = .ok (.invokestatic 180, 3) := by decide +kernel
theorem dX11_worth_60 : decode cX11_worth 60 = .ok (.lreturn, 1) := by decide +kernel
theorem dX11_howFar_0 : decode cX11_howFar 0 = .ok (.aload_n 0, 1) := by decide +kernel
theorem dX11_howFar_1 : decode cX11_howFar 1 = .ok (.iload_n 1, 1) := by decide +kernel
theorem dX11_howFar_2 : decode cX11_howFar 2 = .ok (.invokevirtual 245, 3) := by decide +kernel
theorem dX11_howFar_5 : decode cX11_howFar 5 = .ok (.ifCond .ne 5, 3) := by decide +kernel
theorem dX11_howFar_8 : decode cX11_howFar 8 = .ok (.iconst (-1), 1) := by decide +kernel
theorem dX11_howFar_9 : decode cX11_howFar 9 = .ok (.ireturn, 1) := by decide +kernel
theorem dX11_howFar_10 : decode cX11_howFar 10 = .ok (.bipush (-2), 2) := by decide +kernel
theorem dX11_howFar_12 : decode cX11_howFar 12 = .ok (.istore_n 2, 1) := by decide +kernel
theorem dX11_howFar_13 : decode cX11_howFar 13 = .ok (.iconst 0, 1) := by decide +kernel
theorem dX11_howFar_14 : decode cX11_howFar 14 = .ok (.istore_n 3, 1) := by decide +kernel
theorem dX11_howFar_15 : decode cX11_howFar 15 = .ok (.iload_n 3, 1) := by decide +kernel
theorem dX11_howFar_16 : decode cX11_howFar 16 = .ok (.bipush 99, 2) := by decide +kernel
theorem dX11_howFar_18 : decode cX11_howFar 18 = .ok (.if_icmp .gt 39, 3) := by decide +kernel
theorem dX11_howFar_21 : decode cX11_howFar 21 = .ok (.aload_n 0, 1) := by decide +kernel
theorem dX11_howFar_22 : decode cX11_howFar 22 = .ok (.iload_n 1, 1) := by decide +kernel
theorem dX11_howFar_23 : decode cX11_howFar 23 = .ok (.iload_n 3, 1) := by decide +kernel
theorem dX11_howFar_24 : decode cX11_howFar 24 = .ok (.invokevirtual 251, 3) := by decide +kernel
theorem dX11_howFar_27 : decode cX11_howFar 27 = .ok (.lstore 4, 2) := by decide +kernel
theorem dX11_howFar_29 : decode cX11_howFar 29 = .ok (.aload_n 0, 1) := by decide +kernel
theorem dX11_howFar_30 : decode cX11_howFar 30 = .ok (.getfield 162, 3) := by decide +kernel
theorem dX11_howFar_33 : decode cX11_howFar 33 = .ok (.lconst 0, 1) := by decide +kernel
theorem dX11_howFar_34 : decode cX11_howFar 34 = .ok (.lcmp, 1) := by decide +kernel
theorem dX11_howFar_35 : decode cX11_howFar 35 = .ok (.ifCond .le 14, 3) := by decide +kernel
theorem dX11_howFar_38 : decode cX11_howFar 38 = .ok (.lload 4, 2) := by decide +kernel
theorem dX11_howFar_40 : decode cX11_howFar 40 = .ok (.lconst 0, 1) := by decide +kernel
theorem dX11_howFar_41 : decode cX11_howFar 41 = .ok (.lcmp, 1) := by decide +kernel
theorem dX11_howFar_42 : decode cX11_howFar 42 = .ok (.ifCond .le 7, 3) := by decide +kernel
theorem dX11_howFar_45 : decode cX11_howFar 45 = .ok (.iload_n 3, 1) := by decide +kernel
theorem dX11_howFar_46 : decode cX11_howFar 46 = .ok (.goto 4, 3) := by decide +kernel
theorem dX11_howFar_49 : decode cX11_howFar 49 = .ok (.iload_n 2, 1) := by decide +kernel
theorem dX11_howFar_50 : decode cX11_howFar 50 = .ok (.istore_n 2, 1) := by decide +kernel
theorem dX11_howFar_51 : decode cX11_howFar 51 = .ok (.iinc 3 1, 3) := by decide +kernel
theorem dX11_howFar_54 : decode cX11_howFar 54 = .ok (.goto (-39), 3) := by decide +kernel
theorem dX11_howFar_57 : decode cX11_howFar 57 = .ok (.iload_n 2, 1) := by decide +kernel
theorem dX11_howFar_58 : decode cX11_howFar 58 = .ok (.ireturn, 1) := by decide +kernel
theorem dX11_isDr_0 : decode cX11_isDr 0 = .ok (.iload_n 1, 1) := by decide +kernel
theorem dX11_isDr_1 : decode cX11_isDr 1 = .ok (.bipush 64, 2) := by decide +kernel
theorem dX11_isDr_3 : decode cX11_isDr 3 = .ok (.irem, 1) := by decide +kernel
theorem dX11_isDr_4 : decode cX11_isDr 4 = .ok (.istore_n 2, 1) := by decide +kernel
theorem dX11_isDr_5 : decode cX11_isDr 5 = .ok (.iload_n 1, 1) := by decide +kernel
theorem dX11_isDr_6 : decode cX11_isDr 6 = .ok (.ifCond .lt 45, 3) := by decide +kernel
theorem dX11_isDr_9 : decode cX11_isDr 9 = .ok (.iload_n 1, 1) := by decide +kernel
theorem dX11_isDr_10 : decode cX11_isDr 10 = .ok (.bipush 64, 2) := by decide +kernel
theorem dX11_isDr_12 : decode cX11_isDr 12 = .ok (.idiv, 1) := by decide +kernel
theorem dX11_isDr_13 : decode cX11_isDr 13 = .ok (.bipush 64, 2) := by decide +kernel
theorem dX11_isDr_15 : decode cX11_isDr 15 = .ok (.if_icmp .ge 36, 3) := by decide +kernel
theorem dX11_isDr_18 : decode cX11_isDr 18 = .ok (.iload_n 1, 1) := by decide +kernel
theorem dX11_isDr_19 : decode cX11_isDr 19 = .ok (.bipush 64, 2) := by decide +kernel
theorem dX11_isDr_21 : decode cX11_isDr 21 = .ok (.idiv, 1) := by decide +kernel
theorem dX11_isDr_22 : decode cX11_isDr 22 = .ok (.iload_n 2, 1) := by decide +kernel
theorem dX11_isDr_23 : decode cX11_isDr 23 = .ok (.iconst (-1), 1) := by decide +kernel
theorem dX11_isDr_24 : decode cX11_isDr 24 = .ok (.ixor, 1) := by decide +kernel
theorem dX11_isDr_25 : decode cX11_isDr 25 = .ok (.iand, 1) := by decide +kernel
theorem dX11_isDr_26 : decode cX11_isDr 26 = .ok (.ifCond .ne 25, 3) := by decide +kernel
theorem dX11_isDr_29 : decode cX11_isDr 29 = .ok (.iload_n 2, 1) := by decide +kernel
theorem dX11_isDr_30 : decode cX11_isDr 30 = .ok (.iconst 1, 1) := by decide +kernel
theorem dX11_isDr_31 : decode cX11_isDr 31 = .ok (.aload_n 0, 1) := by decide +kernel
theorem dX11_isDr_32 : decode cX11_isDr 32 = .ok (.getfield 90, 3) := by decide +kernel
theorem dX11_isDr_35 : decode cX11_isDr 35 = .ok (.ishl, 1) := by decide +kernel
theorem dX11_isDr_36 : decode cX11_isDr 36 = .ok (.if_icmp .ge 15, 3) := by decide +kernel
theorem dX11_isDr_39 : decode cX11_isDr 39 = .ok (.iload_n 2, 1) := by decide +kernel
theorem dX11_isDr_40 : decode cX11_isDr 40 = .ok (.invokestatic 255, 3) := by decide +kernel
theorem dX11_isDr_43 : decode cX11_isDr 43 = .ok (.iconst 4, 1) := by decide +kernel
theorem dX11_isDr_44 : decode cX11_isDr 44 = .ok (.if_icmp .gt 7, 3) := by decide +kernel
theorem dX11_isDr_47 : decode cX11_isDr 47 = .ok (.iconst 1, 1) := by decide +kernel
theorem dX11_isDr_48 : decode cX11_isDr 48 = .ok (.goto 4, 3) := by decide +kernel
theorem dX11_isDr_51 : decode cX11_isDr 51 = .ok (.iconst 0, 1) := by decide +kernel
theorem dX11_isDr_52 : decode cX11_isDr 52 = .ok (.ireturn, 1) := by decide +kernel
theorem dX11_asksAll_0 : decode cX11_asksAll 0 = .ok (.aload_n 0, 1) := by decide +kernel
theorem dX11_asksAll_1 : decode cX11_asksAll 1 = .ok (.lconst 1, 1) := by decide +kernel
theorem dX11_asksAll_2 : decode cX11_asksAll 2 = .ok (.putfield 258, 3) := by decide +kernel
theorem dX11_asksAll_5 : decode cX11_asksAll 5 = .ok (.iconst 0, 1) := by decide +kernel
theorem dX11_asksAll_6 : decode cX11_asksAll 6 = .ok (.istore_n 2, 1) := by decide +kernel
theorem dX11_asksAll_7 : decode cX11_asksAll 7 = .ok (.iload_n 2, 1) := by decide +kernel
theorem dX11_asksAll_8 : decode cX11_asksAll 8 = .ok (.aload_n 0, 1) := by decide +kernel
theorem dX11_asksAll_9 : decode cX11_asksAll 9 = .ok (.getfield 90, 3) := by decide +kernel
theorem dX11_asksAll_12 : decode cX11_asksAll 12 = .ok (.if_icmp .ge 89, 3) := by decide +kernel
theorem dX11_asksAll_15 : decode cX11_asksAll 15 = .ok (.aload_n 0, 1) := by decide +kernel
theorem dX11_asksAll_16 : decode cX11_asksAll 16 = .ok (.getfield 40, 3) := by decide +kernel
theorem dX11_asksAll_19 : decode cX11_asksAll 19 = .ok (.iload_n 2, 1) := by decide +kernel
theorem dX11_asksAll_20 : decode cX11_asksAll 20 = .ok (.lconst 0, 1) := by decide +kernel
theorem dX11_asksAll_21 : decode cX11_asksAll 21 = .ok (.lastore, 1) := by decide +kernel
theorem dX11_asksAll_22 : decode cX11_asksAll 22 = .ok (.aload_n 0, 1) := by decide +kernel
theorem dX11_asksAll_23 : decode cX11_asksAll 23 = .ok (.getfield 44, 3) := by decide +kernel
theorem dX11_asksAll_26 : decode cX11_asksAll 26 = .ok (.iload_n 2, 1) := by decide +kernel
theorem dX11_asksAll_27 : decode cX11_asksAll 27 = .ok (.lconst 1, 1) := by decide +kernel
theorem dX11_asksAll_28 : decode cX11_asksAll 28 = .ok (.lastore, 1) := by decide +kernel
theorem dX11_asksAll_29 : decode cX11_asksAll 29 = .ok (.iload_n 1, 1) := by decide +kernel
theorem dX11_asksAll_30 : decode cX11_asksAll 30 = .ok (.bipush 64, 2) := by decide +kernel
theorem dX11_asksAll_32 : decode cX11_asksAll 32 = .ok (.irem, 1) := by decide +kernel
theorem dX11_asksAll_33 : decode cX11_asksAll 33 = .ok (.iload_n 2, 1) := by decide +kernel
theorem dX11_asksAll_34 : decode cX11_asksAll 34 = .ok (.invokestatic 261, 3) := by decide +kernel
theorem dX11_asksAll_37 : decode cX11_asksAll 37 = .ok (.ifCond .eq 58, 3) := by decide +kernel
theorem dX11_asksAll_40 : decode cX11_asksAll 40 = .ok (.aload_n 0, 1) := by decide +kernel
theorem dX11_asksAll_41 : decode cX11_asksAll 41 = .ok (.iload_n 2, 1) := by decide +kernel
theorem dX11_asksAll_42 : decode cX11_asksAll 42 = .ok (.iload_n 1, 1) := by decide +kernel
theorem dX11_asksAll_43 : decode cX11_asksAll 43 = .ok (.bipush 64, 2) := by decide +kernel
theorem dX11_asksAll_45 : decode cX11_asksAll 45 = .ok (.idiv, 1) := by decide +kernel
theorem dX11_asksAll_46 : decode cX11_asksAll 46 = .ok (.iload_n 2, 1) := by decide +kernel
theorem dX11_asksAll_47 : decode cX11_asksAll 47 = .ok (.invokestatic 261, 3) := by decide +kernel
theorem dX11_asksAll_50 : decode cX11_asksAll 50 = .ok (.ifCond .eq 7, 3) := by decide +kernel
theorem dX11_asksAll_53 : decode cX11_asksAll 53 = .ok (.iconst 1, 1) := by decide +kernel
theorem dX11_asksAll_54 : decode cX11_asksAll 54 = .ok (.goto 4, 3) := by decide +kernel
theorem dX11_asksAll_57 : decode cX11_asksAll 57 = .ok (.iconst 0, 1) := by decide +kernel
theorem dX11_asksAll_58 : decode cX11_asksAll 58 = .ok (.invokevirtual 176, 3) := by decide +kernel
theorem dX11_asksAll_61 : decode cX11_asksAll 61 = .ok (.pop, 1) := by decide +kernel
theorem dX11_asksAll_62 : decode cX11_asksAll 62 = .ok (.aload_n 0, 1) := by decide +kernel
theorem dX11_asksAll_63 : decode cX11_asksAll 63 = .ok (.getfield 40, 3) := by decide +kernel
theorem dX11_asksAll_66 : decode cX11_asksAll 66 = .ok (.iload_n 2, 1) := by decide +kernel
theorem dX11_asksAll_67 : decode cX11_asksAll 67 = .ok (.aload_n 0, 1) := by decide +kernel
theorem dX11_asksAll_68 : decode cX11_asksAll 68 = .ok (.getfield 158, 3) := by decide +kernel
theorem dX11_asksAll_71 : decode cX11_asksAll 71 = .ok (.lastore, 1) := by decide +kernel
theorem dX11_asksAll_72 : decode cX11_asksAll 72 = .ok (.aload_n 0, 1) := by decide +kernel
theorem dX11_asksAll_73 : decode cX11_asksAll 73 = .ok (.getfield 44, 3) := by decide +kernel
theorem dX11_asksAll_76 : decode cX11_asksAll 76 = .ok (.iload_n 2, 1) := by decide +kernel
theorem dX11_asksAll_77 : decode cX11_asksAll 77 = .ok (.aload_n 0, 1) := by decide +kernel
theorem dX11_asksAll_78 : decode cX11_asksAll 78 = .ok (.getfield 162, 3) := by decide +kernel
theorem dX11_asksAll_81 : decode cX11_asksAll 81 = .ok (.lastore, 1) := by decide +kernel
theorem dX11_asksAll_82 : decode cX11_asksAll 82 = .ok (.aload_n 0, 1) := by decide +kernel
theorem dX11_asksAll_83 : decode cX11_asksAll 83 = .ok (.dup, 1) := by decide +kernel
theorem dX11_asksAll_84 : decode cX11_asksAll 84 = .ok (.getfield 258, 3) := by decide +kernel
theorem dX11_asksAll_87 : decode cX11_asksAll 87 = .ok (.aload_n 0, 1) := by decide +kernel
theorem dX11_asksAll_88 : decode cX11_asksAll 88 = .ok (.getfield 162, 3) := by decide +kernel
theorem dX11_asksAll_91 : decode cX11_asksAll 91 = .ok (.lmul, 1) := by decide +kernel
theorem dX11_asksAll_92 : decode cX11_asksAll 92 = .ok (.putfield 258, 3) := by decide +kernel
theorem dX11_asksAll_95 : decode cX11_asksAll 95 = .ok (.iinc 2 1, 3) := by decide +kernel
theorem dX11_asksAll_98 : decode cX11_asksAll 98 = .ok (.goto (-91), 3) := by decide +kernel
theorem dX11_asksAll_101 : decode cX11_asksAll 101 = .ok (.aload_n 0, 1) := by decide +kernel
theorem dX11_asksAll_102 : decode cX11_asksAll 102 = .ok (.getfield 258, 3) := by decide +kernel
theorem dX11_asksAll_105 : decode cX11_asksAll 105 = .ok (.lconst 0, 1) := by decide +kernel
theorem dX11_asksAll_106 : decode cX11_asksAll 106 = .ok (.lcmp, 1) := by decide +kernel
theorem dX11_asksAll_107 : decode cX11_asksAll 107 = .ok (.ifCond .le 7, 3) := by decide +kernel
theorem dX11_asksAll_110 : decode cX11_asksAll 110 = .ok (.iconst 1, 1) := by decide +kernel
theorem dX11_asksAll_111 : decode cX11_asksAll 111 = .ok (.goto 4, 3) := by decide +kernel
theorem dX11_asksAll_114 : decode cX11_asksAll 114 = .ok (.iconst 0, 1) := by decide +kernel
theorem dX11_asksAll_115 : decode cX11_asksAll 115 = .ok (.ireturn, 1) := by decide +kernel
theorem dX11_staysFor_0 : decode cX11_staysFor 0 = .ok (.lconst 0, 1) := by decide +kernel
theorem dX11_staysFor_1 : decode cX11_staysFor 1 = .ok (.lstore_n 2, 1) := by decide +kernel
theorem dX11_staysFor_2 : decode cX11_staysFor 2 = .ok (.iconst 0, 1) := by decide +kernel
theorem dX11_staysFor_3 : decode cX11_staysFor 3 = .ok (.istore 4, 2) := by decide +kernel
theorem dX11_staysFor_5 : decode cX11_staysFor 5 = .ok (.iload 4, 2) := by decide +kernel
theorem dX11_staysFor_7 : decode cX11_staysFor 7 = .ok (.aload_n 0, 1) := by decide +kernel
theorem dX11_staysFor_8 : decode cX11_staysFor 8 = .ok (.getfield 90, 3) := by decide +kernel
theorem dX11_staysFor_11 : decode cX11_staysFor 11 = .ok (.if_icmp .ge 54, 3) := by decide +kernel
theorem dX11_staysFor_14 : decode cX11_staysFor 14 = .ok (.lload_n 2, 1) := by decide +kernel
theorem dX11_staysFor_15 : decode cX11_staysFor 15 = .ok (.iload_n 1, 1) := by decide +kernel
theorem dX11_staysFor_16 : decode cX11_staysFor 16 = .ok (.iload 4, 2) := by decide +kernel
theorem dX11_staysFor_18 : decode cX11_staysFor 18 = .ok (.invokestatic 261, 3) := by decide +kernel
theorem dX11_staysFor_21 : decode cX11_staysFor 21 = .ok (.ifCond .eq 35, 3) := by decide +kernel
theorem dX11_staysFor_24 : decode cX11_staysFor 24 = .ok (.aload_n 0, 1) := by decide +kernel
theorem dX11_staysFor_25 : decode cX11_staysFor 25 = .ok (.getfield 258, 3) := by decide +kernel
theorem dX11_staysFor_28 : decode cX11_staysFor 28 = .ok (.aload_n 0, 1) := by decide +kernel
theorem dX11_staysFor_29 : decode cX11_staysFor 29 = .ok (.getfield 44, 3) := by decide +kernel
theorem dX11_staysFor_32 : decode cX11_staysFor 32 = .ok (.iload 4, 2) := by decide +kernel
theorem dX11_staysFor_34 : decode cX11_staysFor 34 = .ok (.laload, 1) := by decide +kernel
theorem dX11_staysFor_35 : decode cX11_staysFor 35 = .ok (.ldiv, 1) := by decide +kernel
theorem dX11_staysFor_36 : decode cX11_staysFor 36 = .ok (.aload_n 0, 1) := by decide +kernel
theorem dX11_staysFor_37 : decode cX11_staysFor 37 = .ok (.getfield 40, 3) := by decide +kernel
theorem dX11_staysFor_40 : decode cX11_staysFor 40 = .ok (.iload 4, 2) := by decide +kernel
theorem dX11_staysFor_42 : decode cX11_staysFor 42 = .ok (.laload, 1) := by decide +kernel
theorem dX11_staysFor_43 : decode cX11_staysFor 43 = .ok (.lmul, 1) := by decide +kernel
theorem dX11_staysFor_44 : decode cX11_staysFor 44 = .ok (.aload_n 0, 1) := by decide +kernel
theorem dX11_staysFor_45 : decode cX11_staysFor 45 = .ok (.iload 4, 2) := by decide +kernel
theorem dX11_staysFor_47 : decode cX11_staysFor 47 = .ok (.iconst 3, 1) := by decide +kernel
theorem dX11_staysFor_48 : decode cX11_staysFor 48 = .ok (.invokevirtual 149, 3) := by decide +kernel
theorem dX11_staysFor_51 : decode cX11_staysFor 51 = .ok (.i2l, 1) := by decide +kernel
theorem dX11_staysFor_52 : decode cX11_staysFor 52 = .ok (.lmul, 1) := by decide +kernel
theorem dX11_staysFor_53 : decode cX11_staysFor 53 = .ok (.goto 4, 3) := by decide +kernel
theorem dX11_staysFor_56 : decode cX11_staysFor 56 = .ok (.lconst 0, 1) := by decide +kernel
theorem dX11_staysFor_57 : decode cX11_staysFor 57 = .ok (.ladd, 1) := by decide +kernel
theorem dX11_staysFor_58 : decode cX11_staysFor 58 = .ok (.lstore_n 2, 1) := by decide +kernel
theorem dX11_staysFor_59 : decode cX11_staysFor 59 = .ok (.iinc 4 1, 3) := by decide +kernel
theorem dX11_staysFor_62 : decode cX11_staysFor 62 = .ok (.goto (-57), 3) := by decide +kernel
theorem dX11_staysFor_65 : decode cX11_staysFor 65 = .ok (.lload_n 2, 1) := by decide +kernel
theorem dX11_staysFor_66 : decode cX11_staysFor 66 = .ok (.lreturn, 1) := by decide +kernel
theorem dX11_lesserOf_0 : decode cX11_lesserOf 0 = .ok (.lload_n 0, 1) := by decide +kernel
theorem dX11_lesserOf_1 : decode cX11_lesserOf 1 = .ok (.lload_n 2, 1) := by decide +kernel
theorem dX11_lesserOf_2 : decode cX11_lesserOf 2 = .ok (.lcmp, 1) := by decide +kernel
theorem dX11_lesserOf_3 : decode cX11_lesserOf 3 = .ok (.ifCond .ge 7, 3) := by decide +kernel
theorem dX11_lesserOf_6 : decode cX11_lesserOf 6 = .ok (.lload_n 0, 1) := by decide +kernel
theorem dX11_lesserOf_7 : decode cX11_lesserOf 7 = .ok (.goto 4, 3) := by decide +kernel
theorem dX11_lesserOf_10 : decode cX11_lesserOf 10 = .ok (.lload_n 2, 1) := by decide +kernel
theorem dX11_lesserOf_11 : decode cX11_lesserOf 11 = .ok (.lreturn, 1) := by decide +kernel
theorem dX11_best_0 : decode cX11_best 0 = .ok (.aload_n 0, 1) := by decide +kernel
theorem dX11_best_1 : decode cX11_best 1 = .ok (.iload_n 1, 1) := by decide +kernel
theorem dX11_best_2 : decode cX11_best 2 = .ok (.invokevirtual 264, 3) := by decide +kernel
theorem dX11_best_5 : decode cX11_best 5 = .ok (.ifCond .eq 23, 3) := by decide +kernel
theorem dX11_best_8 : decode cX11_best 8 = .ok (.iload_n 2, 1) := by decide +kernel
theorem dX11_best_9 : decode cX11_best 9 = .ok (.i2l, 1) := by decide +kernel
theorem dX11_best_10 : decode cX11_best 10 = .ok (.invokestatic 248, 3) := by decide +kernel
theorem dX11_best_13 : decode cX11_best 13 = .ok (.ifCond .eq 15, 3) := by decide +kernel
theorem dX11_best_16 : decode cX11_best 16 = .ok (.iload_n 3, 1) := by decide +kernel
theorem dX11_best_17 : decode cX11_best 17 = .ok (.i2l, 1) := by decide +kernel
theorem dX11_best_18 : decode cX11_best 18 = .ok (.lconst 0, 1) := by decide +kernel
theorem dX11_best_19 : decode cX11_best 19 = .ok (.ldc2_w 169, 3) := by decide +kernel
theorem dX11_best_22 : decode cX11_best 22 = .ok (.invokestatic 93, 3) := by decide +kernel
theorem dX11_best_25 : decode cX11_best 25 = .ok (.ifCond .ne 7, 3) := by decide +kernel
theorem dX11_best_28 : decode cX11_best 28 = .ok (.ldc2_w 174, 3) := by decide +kernel
theorem dX11_best_31 : decode cX11_best 31 = .ok (.lreturn, 1) := by decide +kernel
theorem dX11_best_32 : decode cX11_best 32 = .ok (.aload_n 0, 1) := by decide +kernel
theorem dX11_best_33 : decode cX11_best 33 = .ok (.iload_n 1, 1) := by decide +kernel
theorem dX11_best_34 : decode cX11_best 34 = .ok (.invokevirtual 267, 3) := by decide +kernel
theorem dX11_best_37 : decode cX11_best 37 = .ok (.ifCond .ne 7, 3) := by decide +kernel
theorem dX11_best_40 : decode cX11_best 40 = .ok (.ldc2_w 184, 3) := by decide +kernel
theorem dX11_best_43 : decode cX11_best 43 = .ok (.lreturn, 1) := by decide +kernel
theorem dX11_best_44 : decode cX11_best 44 = .ok (.iload_n 1, 1) := by decide +kernel
theorem dX11_best_45 : decode cX11_best 45 = .ok (.bipush 64, 2) := by decide +kernel
theorem dX11_best_47 : decode cX11_best 47 = .ok (.irem, 1) := by decide +kernel
theorem dX11_best_48 : decode cX11_best 48 = .ok (.istore 4, 2) := by decide +kernel
theorem dX11_best_50 : decode cX11_best 50 = .ok (.iconst 0, 1) := by decide +kernel
theorem dX11_best_51 : decode cX11_best 51 = .ok (.istore 5, 2) := by decide +kernel
theorem dX11_best_53 : decode cX11_best 53 = .ok (.aload_n 0, 1) := by decide +kernel
theorem dX11_best_54 : decode cX11_best 54 = .ok (.iload 4, 2) := by decide +kernel
theorem dX11_best_56 : decode cX11_best 56 = .ok (.invokevirtual 270, 3) := by decide +kernel
theorem dX11_best_59 : decode cX11_best 59 = .ok (.lstore 6, 2) := by decide +kernel
theorem dX11_best_61 : decode cX11_best 61 = .ok (.iconst 1, 1) := by decide +kernel
theorem dX11_best_62 : decode cX11_best 62 = .ok (.istore 8, 2) := by decide +kernel
theorem dX11_best_64 : decode cX11_best 64 = .ok (.iload 8, 2) := by decide +kernel
theorem dX11_best_66 : decode cX11_best 66 = .ok (.iload 4, 2) := by decide +kernel
theorem dX11_best_68 : decode cX11_best 68 = .ok (.if_icmp .gt 90, 3) := by decide +kernel
theorem dX11_best_71 : decode cX11_best 71 = .ok (.iload 8, 2) := by decide +kernel
theorem dX11_best_73 : decode cX11_best 73 = .ok (.iload 4, 2) := by decide +kernel
theorem dX11_best_75 : decode cX11_best 75 = .ok (.iconst (-1), 1) := by decide +kernel
theorem dX11_best_76 : decode cX11_best 76 = .ok (.ixor, 1) := by decide +kernel
theorem dX11_best_77 : decode cX11_best 77 = .ok (.iand, 1) := by decide +kernel
theorem dX11_best_78 : decode cX11_best 78 = .ok (.ifCond .eq 9, 3) := by decide +kernel
theorem dX11_best_81 : decode cX11_best 81 = .ok (.ldc2_w 274, 3) := by decide +kernel
theorem dX11_best_84 : decode cX11_best 84 = .ok (.goto 40, 3) := by decide +kernel
theorem dX11_best_87 : decode cX11_best 87 = .ok (.aload_n 0, 1) := by decide +kernel
theorem dX11_best_88 : decode cX11_best 88 = .ok (.iload_n 2, 1) := by decide +kernel
theorem dX11_best_89 : decode cX11_best 89 = .ok (.invokevirtual 242, 3) := by decide +kernel
theorem dX11_best_92 : decode cX11_best 92 = .ok (.aload_n 0, 1) := by decide +kernel
theorem dX11_best_93 : decode cX11_best 93 = .ok (.getfield 11, 3) := by decide +kernel
theorem dX11_best_96 : decode cX11_best 96 = .ok (.bipush 37, 2) := by decide +kernel
theorem dX11_best_98 : decode cX11_best 98 = .ok (.iaload, 1) := by decide +kernel
theorem dX11_best_99 : decode cX11_best 99 = .ok (.iload 8, 2) := by decide +kernel
theorem dX11_best_101 : decode cX11_best 101 = .ok (.invokestatic 255, 3) := by decide +kernel
theorem dX11_best_104 : decode cX11_best 104 = .ok (.imul, 1) := by decide +kernel
theorem dX11_best_105 : decode cX11_best 105 = .ok (.iadd, 1) := by decide +kernel
theorem dX11_best_106 : decode cX11_best 106 = .ok (.i2l, 1) := by decide +kernel
theorem dX11_best_107 : decode cX11_best 107 = .ok (.aload_n 0, 1) := by decide +kernel
theorem dX11_best_108 : decode cX11_best 108 = .ok (.getfield 258, 3) := by decide +kernel
theorem dX11_best_111 : decode cX11_best 111 = .ok (.lmul, 1) := by decide +kernel
theorem dX11_best_112 : decode cX11_best 112 = .ok (.aload_n 0, 1) := by decide +kernel
theorem dX11_best_113 : decode cX11_best 113 = .ok (.iload 4, 2) := by decide +kernel
theorem dX11_best_115 : decode cX11_best 115 = .ok (.iload 8, 2) := by decide +kernel
theorem dX11_best_117 : decode cX11_best 117 = .ok (.iconst (-1), 1) := by decide +kernel
theorem dX11_best_118 : decode cX11_best 118 = .ok (.ixor, 1) := by decide +kernel
theorem dX11_best_119 : decode cX11_best 119 = .ok (.iand, 1) := by decide +kernel
theorem dX11_best_120 : decode cX11_best 120 = .ok (.invokevirtual 270, 3) := by decide +kernel
theorem dX11_best_123 : decode cX11_best 123 = .ok (.ladd, 1) := by decide +kernel
theorem dX11_best_124 : decode cX11_best 124 = .ok (.lstore 9, 2) := by decide +kernel
theorem dX11_best_126 : decode cX11_best 126 = .ok (.lload 9, 2) := by decide +kernel
theorem dX11_best_128 : decode cX11_best 128 = .ok (.lload 6, 2) := by decide +kernel
theorem dX11_best_130 : decode cX11_best 130 = .ok (.lcmp, 1) := by decide +kernel
theorem dX11_best_131 : decode cX11_best 131 = .ok (.ifCond .ge 8, 3) := by decide +kernel
theorem dX11_best_134 : decode cX11_best 134 = .ok (.iload 8, 2) := by decide +kernel
theorem dX11_best_136 : decode cX11_best 136 = .ok (.goto 5, 3) := by decide +kernel
theorem dX11_best_139 : decode cX11_best 139 = .ok (.iload 5, 2) := by decide +kernel
theorem dX11_best_141 : decode cX11_best 141 = .ok (.istore 5, 2) := by decide +kernel
theorem dX11_best_143 : decode cX11_best 143 = .ok (.lload 9, 2) := by decide +kernel
theorem dX11_best_145 : decode cX11_best 145 = .ok (.lload 6, 2) := by decide +kernel
theorem dX11_best_147 : decode cX11_best 147 = .ok (.invokestatic 276, 3) := by decide +kernel
theorem dX11_best_150 : decode cX11_best 150 = .ok (.lstore 6, 2) := by decide +kernel
theorem dX11_best_152 : decode cX11_best 152 = .ok (.iinc 8 1, 3) := by decide +kernel
theorem dX11_best_155 : decode cX11_best 155 = .ok (.goto (-91), 3) := by decide +kernel
theorem dX11_best_158 : decode cX11_best 158 = .ok (.iload_n 3, 1) := by decide +kernel
theorem dX11_best_159 : decode cX11_best 159 = .ok (.iconst 2, 1) := by decide +kernel
theorem dX11_best_160 : decode cX11_best 160 = .ok (.if_icmp .ne 9, 3) := by decide +kernel
theorem dX11_best_163 : decode cX11_best 163 = .ok (.iload 5, 2) := by decide +kernel
theorem dX11_best_165 : decode cX11_best 165 = .ok (.i2l, 1) := by decide +kernel
theorem dX11_best_166 : decode cX11_best 166 = .ok (.goto 13, 3) := by decide +kernel
theorem dX11_best_169 : decode cX11_best 169 = .ok (.lload 6, 2) := by decide +kernel
theorem dX11_best_171 : decode cX11_best 171 = .ok (.aload_n 0, 1) := by decide +kernel
theorem dX11_best_172 : decode cX11_best 172 = .ok (.getfield 258, 3) := by decide +kernel
theorem dX11_best_175 : decode cX11_best 175 = .ok (.iload_n 3, 1) := by decide +kernel
theorem dX11_best_176 : decode cX11_best 176 = .ok (.invokestatic 180, 3) := by decide +kernel
theorem dX11_best_179 : decode cX11_best 179 = .ok (.lreturn, 1) := by decide +kernel
theorem dX11_gone_0 : decode cX11_gone 0 = .ok (.aload_n 0, 1) := by decide +kernel
theorem dX11_gone_1 : decode cX11_gone 1 = .ok (.iload_n 1, 1) := by decide +kernel
theorem dX11_gone_2 : decode cX11_gone 2 = .ok (.invokevirtual 264, 3) := by decide +kernel
theorem dX11_gone_5 : decode cX11_gone 5 = .ok (.ifCond .eq 11, 3) := by decide +kernel
theorem dX11_gone_8 : decode cX11_gone 8 = .ok (.iload_n 2, 1) := by decide +kernel
theorem dX11_gone_9 : decode cX11_gone 9 = .ok (.i2l, 1) := by decide +kernel
theorem dX11_gone_10 : decode cX11_gone 10 = .ok (.invokestatic 248, 3) := by decide +kernel
theorem dX11_gone_13 : decode cX11_gone 13 = .ok (.ifCond .ne 5, 3) := by decide +kernel
theorem dX11_gone_16 : decode cX11_gone 16 = .ok (.iconst (-1), 1) := by decide +kernel
theorem dX11_gone_17 : decode cX11_gone 17 = .ok (.ireturn, 1) := by decide +kernel
theorem dX11_gone_18 : decode cX11_gone 18 = .ok (.aload_n 0, 1) := by decide +kernel
theorem dX11_gone_19 : decode cX11_gone 19 = .ok (.iload_n 1, 1) := by decide +kernel
theorem dX11_gone_20 : decode cX11_gone 20 = .ok (.invokevirtual 267, 3) := by decide +kernel
theorem dX11_gone_23 : decode cX11_gone 23 = .ok (.ifCond .ne 6, 3) := by decide +kernel
theorem dX11_gone_26 : decode cX11_gone 26 = .ok (.bipush (-2), 2) := by decide +kernel
theorem dX11_gone_28 : decode cX11_gone 28 = .ok (.ireturn, 1) := by decide +kernel
theorem dX11_gone_29 : decode cX11_gone 29 = .ok (.iconst (-1), 1) := by decide +kernel
theorem dX11_gone_30 : decode cX11_gone 30 = .ok (.istore_n 3, 1) := by decide +kernel
theorem dX11_gone_31 : decode cX11_gone 31 = .ok (.iconst (-1), 1) := by decide +kernel
theorem dX11_gone_32 : decode cX11_gone 32 = .ok (.istore 4, 2) := by decide +kernel
theorem dX11_gone_34 : decode cX11_gone 34 = .ok (.iconst 0, 1) := by decide +kernel
theorem dX11_gone_35 : decode cX11_gone 35 = .ok (.istore 5, 2) := by decide +kernel
theorem dX11_gone_37 : decode cX11_gone 37 = .ok (.iload 5, 2) := by decide +kernel
theorem dX11_gone_39 : decode cX11_gone 39 = .ok (.aload_n 0, 1) := by decide +kernel
theorem dX11_gone_40 : decode cX11_gone 40 = .ok (.getfield 90, 3) := by decide +kernel
theorem dX11_gone_43 : decode cX11_gone 43 = .ok (.if_icmp .ge 89, 3) := by decide +kernel
theorem dX11_gone_46 : decode cX11_gone 46 = .ok (.iload_n 1, 1) := by decide +kernel
theorem dX11_gone_47 : decode cX11_gone 47 = .ok (.bipush 64, 2) := by decide +kernel
theorem dX11_gone_49 : decode cX11_gone 49 = .ok (.irem, 1) := by decide +kernel
theorem dX11_gone_50 : decode cX11_gone 50 = .ok (.iload 5, 2) := by decide +kernel
theorem dX11_gone_52 : decode cX11_gone 52 = .ok (.invokestatic 261, 3) := by decide +kernel
theorem dX11_gone_55 : decode cX11_gone 55 = .ok (.ifCond .eq 26, 3) := by decide +kernel
theorem dX11_gone_58 : decode cX11_gone 58 = .ok (.ldc2_w 97, 3) := by decide +kernel
theorem dX11_gone_61 : decode cX11_gone 61 = .ok (.aload_n 0, 1) := by decide +kernel
theorem dX11_gone_62 : decode cX11_gone 62 = .ok (.getfield 40, 3) := by decide +kernel
theorem dX11_gone_65 : decode cX11_gone 65 = .ok (.iload 5, 2) := by decide +kernel
theorem dX11_gone_67 : decode cX11_gone 67 = .ok (.laload, 1) := by decide +kernel
theorem dX11_gone_68 : decode cX11_gone 68 = .ok (.lmul, 1) := by decide +kernel
theorem dX11_gone_69 : decode cX11_gone 69 = .ok (.aload_n 0, 1) := by decide +kernel
theorem dX11_gone_70 : decode cX11_gone 70 = .ok (.getfield 44, 3) := by decide +kernel
theorem dX11_gone_73 : decode cX11_gone 73 = .ok (.iload 5, 2) := by decide +kernel
theorem dX11_gone_75 : decode cX11_gone 75 = .ok (.laload, 1) := by decide +kernel
theorem dX11_gone_76 : decode cX11_gone 76 = .ok (.ldiv, 1) := by decide +kernel
theorem dX11_gone_77 : decode cX11_gone 77 = .ok (.l2i, 1) := by decide +kernel
theorem dX11_gone_78 : decode cX11_gone 78 = .ok (.goto 4, 3) := by decide +kernel
theorem dX11_gone_81 : decode cX11_gone 81 = .ok (.iconst 0, 1) := by decide +kernel
theorem dX11_gone_82 : decode cX11_gone 82 = .ok (.istore 6, 2) := by decide +kernel
theorem dX11_gone_84 : decode cX11_gone 84 = .ok (.iload_n 1, 1) := by decide +kernel
theorem dX11_gone_85 : decode cX11_gone 85 = .ok (.bipush 64, 2) := by decide +kernel
theorem dX11_gone_87 : decode cX11_gone 87 = .ok (.irem, 1) := by decide +kernel
theorem dX11_gone_88 : decode cX11_gone 88 = .ok (.iload 5, 2) := by decide +kernel
theorem dX11_gone_90 : decode cX11_gone 90 = .ok (.invokestatic 261, 3) := by decide +kernel
theorem dX11_gone_93 : decode cX11_gone 93 = .ok (.ifCond .eq 33, 3) := by decide +kernel
theorem dX11_gone_96 : decode cX11_gone 96 = .ok (.iload 6, 2) := by decide +kernel
theorem dX11_gone_98 : decode cX11_gone 98 = .ok (.aload_n 0, 1) := by decide +kernel
theorem dX11_gone_99 : decode cX11_gone 99 = .ok (.iload 5, 2) := by decide +kernel
theorem dX11_gone_101 : decode cX11_gone 101 = .ok (.iconst 3, 1) := by decide +kernel
theorem dX11_gone_102 : decode cX11_gone 102 = .ok (.invokevirtual 149, 3) := by decide +kernel
theorem dX11_gone_105 : decode cX11_gone 105 = .ok (.imul, 1) := by decide +kernel
theorem dX11_gone_106 : decode cX11_gone 106 = .ok (.iload 4, 2) := by decide +kernel
theorem dX11_gone_108 : decode cX11_gone 108 = .ok (.if_icmp .le 18, 3) := by decide +kernel
theorem dX11_gone_111 : decode cX11_gone 111 = .ok (.iload 5, 2) := by decide +kernel
theorem dX11_gone_113 : decode cX11_gone 113 = .ok (.istore_n 3, 1) := by decide +kernel
theorem dX11_gone_114 : decode cX11_gone 114 = .ok (.iload 6, 2) := by decide +kernel
theorem dX11_gone_116 : decode cX11_gone 116 = .ok (.aload_n 0, 1) := by decide +kernel
theorem dX11_gone_117 : decode cX11_gone 117 = .ok (.iload 5, 2) := by decide +kernel
theorem dX11_gone_119 : decode cX11_gone 119 = .ok (.iconst 3, 1) := by decide +kernel
theorem dX11_gone_120 : decode cX11_gone 120 = .ok (.invokevirtual 149, 3) := by decide +kernel
theorem dX11_gone_123 : decode cX11_gone 123 = .ok (.imul, 1) := by decide +kernel
theorem dX11_gone_124 : decode cX11_gone 124 = .ok (.istore 4, 2) := by decide +kernel
theorem dX11_gone_126 : decode cX11_gone 126 = .ok (.iinc 5 1, 3) := by decide +kernel
theorem dX11_gone_129 : decode cX11_gone 129 = .ok (.goto (-92), 3) := by decide +kernel
theorem dX11_gone_132 : decode cX11_gone 132 = .ok (.iload_n 3, 1) := by decide +kernel
theorem dX11_gone_133 : decode cX11_gone 133 = .ok (.ifCond .ge 5, 3) := by decide +kernel
theorem dX11_gone_136 : decode cX11_gone 136 = .ok (.iconst 0, 1) := by decide +kernel
theorem dX11_gone_137 : decode cX11_gone 137 = .ok (.ireturn, 1) := by decide +kernel
theorem dX11_gone_138 : decode cX11_gone 138 = .ok (.aload_n 0, 1) := by decide +kernel
theorem dX11_gone_139 : decode cX11_gone 139 = .ok (.ldc2_w 97, 3) := by decide +kernel
theorem dX11_gone_142 : decode cX11_gone 142 = .ok (.aload_n 0, 1) := by decide +kernel
theorem dX11_gone_143 : decode cX11_gone 143 = .ok (.getfield 40, 3) := by decide +kernel
theorem dX11_gone_146 : decode cX11_gone 146 = .ok (.iload_n 3, 1) := by decide +kernel
theorem dX11_gone_147 : decode cX11_gone 147 = .ok (.laload, 1) := by decide +kernel
theorem dX11_gone_148 : decode cX11_gone 148 = .ok (.lmul, 1) := by decide +kernel
theorem dX11_gone_149 : decode cX11_gone 149 = .ok (.aload_n 0, 1) := by decide +kernel
theorem dX11_gone_150 : decode cX11_gone 150 = .ok (.getfield 44, 3) := by decide +kernel
theorem dX11_gone_153 : decode cX11_gone 153 = .ok (.iload_n 3, 1) := by decide +kernel
theorem dX11_gone_154 : decode cX11_gone 154 = .ok (.laload, 1) := by decide +kernel
theorem dX11_gone_155 : decode cX11_gone 155 = .ok (.ldiv, 1) := by decide +kernel
theorem dX11_gone_156 : decode cX11_gone 156 = .ok (.l2i, 1) := by decide +kernel
theorem dX11_gone_157 : decode cX11_gone 157 = .ok (.aload_n 0, 1) := by decide +kernel
theorem dX11_gone_158 : decode cX11_gone 158 = .ok (.iload_n 3, 1) := by decide +kernel
theorem dX11_gone_159 : decode cX11_gone 159 = .ok (.iconst 3, 1) := by decide +kernel
theorem dX11_gone_160 : decode cX11_gone 160 = .ok (.invokevirtual 149, 3) := by decide +kernel
theorem dX11_gone_163 : decode cX11_gone 163 = .ok (.iload_n 2, 1) := by decide +kernel
theorem dX11_gone_164 : decode cX11_gone 164 = .ok (.iload_n 1, 1) := by decide +kernel
theorem dX11_gone_165 : decode cX11_gone 165 = .ok (.bipush 64, 2) := by decide +kernel
theorem dX11_gone_167 : decode cX11_gone 167 = .ok (.irem, 1) := by decide +kernel
theorem dX11_gone_168 : decode cX11_gone 168 = .ok (.invokestatic 255, 3) := by decide +kernel
theorem dX11_gone_171 : decode cX11_gone 171 = .ok (.invokevirtual 279, 3) := by decide +kernel
theorem dX11_gone_174 : decode cX11_gone 174 = .ok (.ifCond .eq 7, 3) := by decide +kernel
theorem dX11_gone_177 : decode cX11_gone 177 = .ok (.iconst 1, 1) := by decide +kernel
theorem dX11_gone_178 : decode cX11_gone 178 = .ok (.goto 4, 3) := by decide +kernel
theorem dX11_gone_181 : decode cX11_gone 181 = .ok (.iconst 0, 1) := by decide +kernel
theorem dX11_gone_182 : decode cX11_gone 182 = .ok (.ireturn, 1) := by decide +kernel
theorem dX11_ringCosts_0 : decode cX11_ringCosts 0 = .ok (.aload_n 0, 1) := by decide +kernel
theorem dX11_ringCosts_1 : decode cX11_ringCosts 1 = .ok (.iload_n 3, 1) := by decide +kernel
theorem dX11_ringCosts_2 : decode cX11_ringCosts 2 = .ok (.invokevirtual 242, 3) := by decide +kernel
theorem dX11_ringCosts_5 : decode cX11_ringCosts 5 = .ok (.i2l, 1) := by decide +kernel
theorem dX11_ringCosts_6 : decode cX11_ringCosts 6 = .ok (.aload_n 0, 1) := by decide +kernel
theorem dX11_ringCosts_7 : decode cX11_ringCosts 7 = .ok (.getfield 258, 3) := by decide +kernel
theorem dX11_ringCosts_10 : decode cX11_ringCosts 10 = .ok (.lmul, 1) := by decide +kernel
theorem dX11_ringCosts_11 : decode cX11_ringCosts 11 = .ok (.lstore 4, 2) := by decide +kernel
theorem dX11_ringCosts_13 : decode cX11_ringCosts 13 = .ok (.aload_n 0, 1) := by decide +kernel
theorem dX11_ringCosts_14 : decode cX11_ringCosts 14 = .ok (.iload_n 1, 1) := by decide +kernel
theorem dX11_ringCosts_15 : decode cX11_ringCosts 15 = .ok (.invokevirtual 270, 3) := by decide +kernel
theorem dX11_ringCosts_18 : decode cX11_ringCosts 18 = .ok (.lstore 6, 2) := by decide +kernel
theorem dX11_ringCosts_20 : decode cX11_ringCosts 20 = .ok (.aload_n 0, 1) := by decide +kernel
theorem dX11_ringCosts_21 : decode cX11_ringCosts 21 = .ok (.getfield 258, 3) := by decide +kernel
theorem dX11_ringCosts_24 : decode cX11_ringCosts 24 = .ok (.lstore 8, 2) := by decide +kernel
theorem dX11_ringCosts_26 : decode cX11_ringCosts 26 = .ok (.iconst 0, 1) := by decide +kernel
theorem dX11_ringCosts_27 : decode cX11_ringCosts 27 = .ok (.istore 10, 2) := by decide +kernel
theorem dX11_ringCosts_29 : decode cX11_ringCosts 29 = .ok (.iload 10, 2) := by decide +kernel
theorem dX11_ringCosts_31 : decode cX11_ringCosts 31 = .ok (.aload_n 0, 1) := by decide +kernel
theorem dX11_ringCosts_32 : decode cX11_ringCosts 32 = .ok (.getfield 90, 3) := by decide +kernel
theorem dX11_ringCosts_35 : decode cX11_ringCosts 35 = .ok (.if_icmp .ge 53, 3) := by decide +kernel
theorem dX11_ringCosts_38 : decode cX11_ringCosts 38 = .ok (.iload_n 1, 1) := by decide +kernel
theorem dX11_ringCosts_39 : decode cX11_ringCosts 39 = .ok (.iload_n 2, 1) := by decide +kernel
theorem dX11_ringCosts_40 : decode cX11_ringCosts 40 = .ok (.iand, 1) := by decide +kernel
theorem dX11_ringCosts_41 : decode cX11_ringCosts 41 = .ok (.iload 10, 2) := by decide +kernel
theorem dX11_ringCosts_43 : decode cX11_ringCosts 43 = .ok (.invokestatic 261, 3) := by decide +kernel
theorem dX11_ringCosts_46 : decode cX11_ringCosts 46 = .ok (.ifCond .eq 32, 3) := by decide +kernel
theorem dX11_ringCosts_49 : decode cX11_ringCosts 49 = .ok (.lload 8, 2) := by decide +kernel
theorem dX11_ringCosts_51 : decode cX11_ringCosts 51 = .ok (.aload_n 0, 1) := by decide +kernel
theorem dX11_ringCosts_52 : decode cX11_ringCosts 52 = .ok (.getfield 44, 3) := by decide +kernel
theorem dX11_ringCosts_55 : decode cX11_ringCosts 55 = .ok (.iload 10, 2) := by decide +kernel
theorem dX11_ringCosts_57 : decode cX11_ringCosts 57 = .ok (.laload, 1) := by decide +kernel
theorem dX11_ringCosts_58 : decode cX11_ringCosts 58 = .ok (.ldiv, 1) := by decide +kernel
theorem dX11_ringCosts_59 : decode cX11_ringCosts 59 = .ok (.aload_n 0, 1) := by decide +kernel
theorem dX11_ringCosts_60 : decode cX11_ringCosts 60 = .ok (.getfield 44, 3) := by decide +kernel
theorem dX11_ringCosts_63 : decode cX11_ringCosts 63 = .ok (.iload 10, 2) := by decide +kernel
theorem dX11_ringCosts_65 : decode cX11_ringCosts 65 = .ok (.laload, 1) := by decide +kernel
theorem dX11_ringCosts_66 : decode cX11_ringCosts 66 = .ok (.aload_n 0, 1) := by decide +kernel
theorem dX11_ringCosts_67 : decode cX11_ringCosts 67 = .ok (.getfield 40, 3) := by decide +kernel
theorem dX11_ringCosts_70 : decode cX11_ringCosts 70 = .ok (.iload 10, 2) := by decide +kernel
theorem dX11_ringCosts_72 : decode cX11_ringCosts 72 = .ok (.laload, 1) := by decide +kernel
theorem dX11_ringCosts_73 : decode cX11_ringCosts 73 = .ok (.lsub, 1) := by decide +kernel
theorem dX11_ringCosts_74 : decode cX11_ringCosts 74 = .ok (.lmul, 1) := by decide +kernel
theorem dX11_ringCosts_75 : decode cX11_ringCosts 75 = .ok (.goto 5, 3) := by decide +kernel
theorem dX11_ringCosts_78 : decode cX11_ringCosts 78 = .ok (.lload 8, 2) := by decide +kernel
theorem dX11_ringCosts_80 : decode cX11_ringCosts 80 = .ok (.lstore 8, 2) := by decide +kernel
theorem dX11_ringCosts_82 : decode cX11_ringCosts 82 = .ok (.iinc 10 1, 3) := by decide +kernel
theorem dX11_ringCosts_85 : decode cX11_ringCosts 85 = .ok (.goto (-56), 3) := by decide +kernel
theorem dX11_ringCosts_88 : decode cX11_ringCosts 88 = .ok (.lconst 0, 1) := by decide +kernel
theorem dX11_ringCosts_89 : decode cX11_ringCosts 89 = .ok (.lstore 10, 2) := by decide +kernel
theorem dX11_ringCosts_91 : decode cX11_ringCosts 91 = .ok (.iconst 0, 1) := by decide +kernel
theorem dX11_ringCosts_92 : decode cX11_ringCosts 92 = .ok (.istore 12, 2) := by decide +kernel
theorem dX11_ringCosts_94 : decode cX11_ringCosts 94 = .ok (.iload 12, 2) := by decide +kernel
theorem dX11_ringCosts_96 : decode cX11_ringCosts 96 = .ok (.aload_n 0, 1) := by decide +kernel
theorem dX11_ringCosts_97 : decode cX11_ringCosts 97 = .ok (.getfield 90, 3) := by decide +kernel
theorem dX11_ringCosts_100 : decode cX11_ringCosts 100 = .ok (.if_icmp .ge 58, 3) := by decide +kernel
theorem dX11_ringCosts_103 : decode cX11_ringCosts 103 = .ok (.lload 10, 2) := by decide +kernel
theorem dX11_ringCosts_105 : decode cX11_ringCosts 105 = .ok (.iload_n 1, 1) := by decide +kernel
theorem dX11_ringCosts_106 : decode cX11_ringCosts 106 = .ok (.iload_n 2, 1) := by decide +kernel
theorem dX11_ringCosts_107 : decode cX11_ringCosts 107 = .ok (.iconst (-1), 1) := by decide +kernel
theorem dX11_ringCosts_108 : decode cX11_ringCosts 108 = .ok (.ixor, 1) := by decide +kernel
theorem dX11_ringCosts_109 : decode cX11_ringCosts 109 = .ok (.iand, 1) := by decide +kernel
theorem dX11_ringCosts_110 : decode cX11_ringCosts 110 = .ok (.iload 12, 2) := by decide +kernel
theorem dX11_ringCosts_112 : decode cX11_ringCosts 112 = .ok (.invokestatic 261, 3) := by decide +kernel
theorem dX11_ringCosts_115 : decode cX11_ringCosts 115 = .ok (.ifCond .eq 33, 3) := by decide +kernel
theorem dX11_ringCosts_118 : decode cX11_ringCosts 118 = .ok (.lload 8, 2) := by decide +kernel
theorem dX11_ringCosts_120 : decode cX11_ringCosts 120 = .ok (.aload_n 0, 1) := by decide +kernel
theorem dX11_ringCosts_121 : decode cX11_ringCosts 121 = .ok (.getfield 44, 3) := by decide +kernel
theorem dX11_ringCosts_124 : decode cX11_ringCosts 124 = .ok (.iload 12, 2) := by decide +kernel
theorem dX11_ringCosts_126 : decode cX11_ringCosts 126 = .ok (.laload, 1) := by decide +kernel
theorem dX11_ringCosts_127 : decode cX11_ringCosts 127 = .ok (.ldiv, 1) := by decide +kernel
theorem dX11_ringCosts_128 : decode cX11_ringCosts 128 = .ok (.aload_n 0, 1) := by decide +kernel
theorem dX11_ringCosts_129 : decode cX11_ringCosts 129 = .ok (.getfield 40, 3) := by decide +kernel
theorem dX11_ringCosts_132 : decode cX11_ringCosts 132 = .ok (.iload 12, 2) := by decide +kernel
theorem dX11_ringCosts_134 : decode cX11_ringCosts 134 = .ok (.laload, 1) := by decide +kernel
theorem dX11_ringCosts_135 : decode cX11_ringCosts 135 = .ok (.lmul, 1) := by decide +kernel
theorem dX11_ringCosts_136 : decode cX11_ringCosts 136 = .ok (.aload_n 0, 1) := by decide +kernel
theorem dX11_ringCosts_137 : decode cX11_ringCosts 137 = .ok (.iload 12, 2) := by decide +kernel
theorem dX11_ringCosts_139 : decode cX11_ringCosts 139 = .ok (.iconst 3, 1) := by decide +kernel
theorem dX11_ringCosts_140 : decode cX11_ringCosts 140 = .ok (.invokevirtual 149, 3) := by decide +kernel
theorem dX11_ringCosts_143 : decode cX11_ringCosts 143 = .ok (.i2l, 1) := by decide +kernel
theorem dX11_ringCosts_144 : decode cX11_ringCosts 144 = .ok (.lmul, 1) := by decide +kernel
theorem dX11_ringCosts_145 : decode cX11_ringCosts 145 = .ok (.goto 4, 3) := by decide +kernel
theorem dX11_ringCosts_148 : decode cX11_ringCosts 148 = .ok (.lconst 0, 1) := by decide +kernel
theorem dX11_ringCosts_149 : decode cX11_ringCosts 149 = .ok (.ladd, 1) := by decide +kernel
theorem dX11_ringCosts_150 : decode cX11_ringCosts 150 = .ok (.lstore 10, 2) := by decide +kernel
theorem dX11_ringCosts_152 : decode cX11_ringCosts 152 = .ok (.iinc 12 1, 3) := by decide +kernel
theorem dX11_ringCosts_155 : decode cX11_ringCosts 155 = .ok (.goto (-61), 3) := by decide +kernel
theorem dX11_ringCosts_158 : decode cX11_ringCosts 158 = .ok (.aload_n 0, 1) := by decide +kernel
theorem dX11_ringCosts_159 : decode cX11_ringCosts 159 = .ok (.iload_n 3, 1) := by decide +kernel
theorem dX11_ringCosts_160 : decode cX11_ringCosts 160 = .ok (.invokevirtual 242, 3) := by decide +kernel
theorem dX11_ringCosts_163 : decode cX11_ringCosts 163 = .ok (.i2l, 1) := by decide +kernel
theorem dX11_ringCosts_164 : decode cX11_ringCosts 164 = .ok (.aload_n 0, 1) := by decide +kernel
theorem dX11_ringCosts_165 : decode cX11_ringCosts 165 = .ok (.getfield 258, 3) := by decide +kernel
theorem dX11_ringCosts_168 : decode cX11_ringCosts 168 = .ok (.lload 8, 2) := by decide +kernel
theorem dX11_ringCosts_170 : decode cX11_ringCosts 170 = .ok (.lsub, 1) := by decide +kernel
theorem dX11_ringCosts_171 : decode cX11_ringCosts 171 = .ok (.lmul, 1) := by decide +kernel
theorem dX11_ringCosts_172 : decode cX11_ringCosts 172 = .ok (.lload 10, 2) := by decide +kernel
theorem dX11_ringCosts_174 : decode cX11_ringCosts 174 = .ok (.ladd, 1) := by decide +kernel
theorem dX11_ringCosts_175 : decode cX11_ringCosts 175 = .ok (.lstore 12, 2) := by decide +kernel
theorem dX11_ringCosts_177 : decode cX11_ringCosts 177 = .ok (.bipush 12, 2) := by decide +kernel
theorem dX11_ringCosts_179 : decode cX11_ringCosts 179 = .ok (.aload_n 0, 1) := by decide +kernel
theorem dX11_ringCosts_180 : decode cX11_ringCosts 180 = .ok (.getfield 11, 3) := by decide +kernel
theorem dX11_ringCosts_183 : decode cX11_ringCosts 183 = .ok (.bipush 38, 2) := by decide +kernel
theorem dX11_ringCosts_185 : decode cX11_ringCosts 185 = .ok (.iaload, 1) := by decide +kernel
theorem dX11_ringCosts_186 : decode cX11_ringCosts 186 = .ok (.imul, 1) := by decide +kernel
theorem dX11_ringCosts_187 : decode cX11_ringCosts 187 = .ok (.i2l, 1) := by decide +kernel
theorem dX11_ringCosts_188 : decode cX11_ringCosts 188 = .ok (.aload_n 0, 1) := by decide +kernel
theorem dX11_ringCosts_189 : decode cX11_ringCosts 189 = .ok (.getfield 258, 3) := by decide +kernel
theorem dX11_ringCosts_192 : decode cX11_ringCosts 192 = .ok (.lmul, 1) := by decide +kernel
theorem dX11_ringCosts_193 : decode cX11_ringCosts 193 = .ok (.bipush 12, 2) := by decide +kernel
theorem dX11_ringCosts_195 : decode cX11_ringCosts 195 = .ok (.aload_n 0, 1) := by decide +kernel
theorem dX11_ringCosts_196 : decode cX11_ringCosts 196 = .ok (.getfield 146, 3) := by decide +kernel
theorem dX11_ringCosts_199 : decode cX11_ringCosts 199 = .ok (.isub, 1) := by decide +kernel
theorem dX11_ringCosts_200 : decode cX11_ringCosts 200 = .ok (.i2l, 1) := by decide +kernel
theorem dX11_ringCosts_201 : decode cX11_ringCosts 201 = .ok (.lload 12, 2) := by decide +kernel
theorem dX11_ringCosts_203 : decode cX11_ringCosts 203 = .ok (.lmul, 1) := by decide +kernel
theorem dX11_ringCosts_204 : decode cX11_ringCosts 204 = .ok (.ladd, 1) := by decide +kernel
theorem dX11_ringCosts_205 : decode cX11_ringCosts 205 = .ok (.aload_n 0, 1) := by decide +kernel
theorem dX11_ringCosts_206 : decode cX11_ringCosts 206 = .ok (.getfield 146, 3) := by decide +kernel
theorem dX11_ringCosts_209 : decode cX11_ringCosts 209 = .ok (.i2l, 1) := by decide +kernel
theorem dX11_ringCosts_210 : decode cX11_ringCosts 210 = .ok (.lload 4, 2) := by decide +kernel
theorem dX11_ringCosts_212 : decode cX11_ringCosts 212 = .ok (.lload 6, 2) := by decide +kernel
theorem dX11_ringCosts_214 : decode cX11_ringCosts 214 = .ok (.invokestatic 276, 3) := by decide +kernel
theorem dX11_ringCosts_217 : decode cX11_ringCosts 217 = .ok (.lmul, 1) := by decide +kernel
theorem dX11_ringCosts_218 : decode cX11_ringCosts 218 = .ok (.ladd, 1) := by decide +kernel
theorem dX11_ringCosts_219 : decode cX11_ringCosts 219 = .ok (.lreturn, 1) := by decide +kernel
theorem dX11_plan_0 : decode cX11_plan 0 = .ok (.aload_n 0, 1) := by decide +kernel
theorem dX11_plan_1 : decode cX11_plan 1 = .ok (.iload_n 1, 1) := by decide +kernel
theorem dX11_plan_2 : decode cX11_plan 2 = .ok (.invokevirtual 264, 3) := by decide +kernel
theorem dX11_plan_5 : decode cX11_plan 5 = .ok (.ifCond .eq 43, 3) := by decide +kernel
theorem dX11_plan_8 : decode cX11_plan 8 = .ok (.iload_n 2, 1) := by decide +kernel
theorem dX11_plan_9 : decode cX11_plan 9 = .ok (.ifCond .lt 39, 3) := by decide +kernel
theorem dX11_plan_12 : decode cX11_plan 12 = .ok (.iload_n 2, 1) := by decide +kernel
theorem dX11_plan_13 : decode cX11_plan 13 = .ok (.bipush 64, 2) := by decide +kernel
theorem dX11_plan_15 : decode cX11_plan 15 = .ok (.idiv, 1) := by decide +kernel
theorem dX11_plan_16 : decode cX11_plan 16 = .ok (.i2l, 1) := by decide +kernel
theorem dX11_plan_17 : decode cX11_plan 17 = .ok (.invokestatic 248, 3) := by decide +kernel
theorem dX11_plan_20 : decode cX11_plan 20 = .ok (.ifCond .eq 28, 3) := by decide +kernel
theorem dX11_plan_23 : decode cX11_plan 23 = .ok (.iload_n 2, 1) := by decide +kernel
theorem dX11_plan_24 : decode cX11_plan 24 = .ok (.bipush 64, 2) := by decide +kernel
theorem dX11_plan_26 : decode cX11_plan 26 = .ok (.irem, 1) := by decide +kernel
theorem dX11_plan_27 : decode cX11_plan 27 = .ok (.iconst 1, 1) := by decide +kernel
theorem dX11_plan_28 : decode cX11_plan 28 = .ok (.aload_n 0, 1) := by decide +kernel
theorem dX11_plan_29 : decode cX11_plan 29 = .ok (.getfield 90, 3) := by decide +kernel
theorem dX11_plan_32 : decode cX11_plan 32 = .ok (.ishl, 1) := by decide +kernel
theorem dX11_plan_33 : decode cX11_plan 33 = .ok (.if_icmp .ge 15, 3) := by decide +kernel
theorem dX11_plan_36 : decode cX11_plan 36 = .ok (.iload_n 3, 1) := by decide +kernel
theorem dX11_plan_37 : decode cX11_plan 37 = .ok (.i2l, 1) := by decide +kernel
theorem dX11_plan_38 : decode cX11_plan 38 = .ok (.lconst 0, 1) := by decide +kernel
theorem dX11_plan_39 : decode cX11_plan 39 = .ok (.ldc2_w 169, 3) := by decide +kernel
theorem dX11_plan_42 : decode cX11_plan 42 = .ok (.invokestatic 93, 3) := by decide +kernel
theorem dX11_plan_45 : decode cX11_plan 45 = .ok (.ifCond .ne 7, 3) := by decide +kernel
theorem dX11_plan_48 : decode cX11_plan 48 = .ok (.ldc2_w 174, 3) := by decide +kernel
theorem dX11_plan_51 : decode cX11_plan 51 = .ok (.lreturn, 1) := by decide +kernel
theorem dX11_plan_52 : decode cX11_plan 52 = .ok (.aload_n 0, 1) := by decide +kernel
theorem dX11_plan_53 : decode cX11_plan 53 = .ok (.iload_n 1, 1) := by decide +kernel
theorem dX11_plan_54 : decode cX11_plan 54 = .ok (.invokevirtual 267, 3) := by decide +kernel
theorem dX11_plan_57 : decode cX11_plan 57 = .ok (.ifCond .ne 7, 3) := by decide +kernel
theorem dX11_plan_60 : decode cX11_plan 60 = .ok (.ldc2_w 184, 3) := by decide +kernel
theorem dX11_plan_63 : decode cX11_plan 63 = .ok (.lreturn, 1) := by decide +kernel
theorem dX11_plan_64 : decode cX11_plan 64 = .ok (.iload_n 2, 1) := by decide +kernel
theorem dX11_plan_65 : decode cX11_plan 65 = .ok (.bipush 64, 2) := by decide +kernel
theorem dX11_plan_67 : decode cX11_plan 67 = .ok (.idiv, 1) := by decide +kernel
theorem dX11_plan_68 : decode cX11_plan 68 = .ok (.istore 4, 2) := by decide +kernel
theorem dX11_plan_70 : decode cX11_plan 70 = .ok (.ldc2_w 113, 3) := by decide +kernel
theorem dX11_plan_73 : decode cX11_plan 73 = .ok (.aload_n 0, 1) := by decide +kernel
theorem dX11_plan_74 : decode cX11_plan 74 = .ok (.iload_n 1, 1) := by decide +kernel
theorem dX11_plan_75 : decode cX11_plan 75 = .ok (.bipush 64, 2) := by decide +kernel
theorem dX11_plan_77 : decode cX11_plan 77 = .ok (.irem, 1) := by decide +kernel
theorem dX11_plan_78 : decode cX11_plan 78 = .ok (.invokevirtual 270, 3) := by decide +kernel
theorem dX11_plan_81 : decode cX11_plan 81 = .ok (.lmul, 1) := by decide +kernel
theorem dX11_plan_82 : decode cX11_plan 82 = .ok (.lstore 5, 2) := by decide +kernel
theorem dX11_plan_84 : decode cX11_plan 84 = .ok (.bipush 12, 2) := by decide +kernel
theorem dX11_plan_86 : decode cX11_plan 86 = .ok (.aload_n 0, 1) := by decide +kernel
theorem dX11_plan_87 : decode cX11_plan 87 = .ok (.iload 4, 2) := by decide +kernel
theorem dX11_plan_89 : decode cX11_plan 89 = .ok (.invokevirtual 242, 3) := by decide +kernel
theorem dX11_plan_92 : decode cX11_plan 92 = .ok (.imul, 1) := by decide +kernel
theorem dX11_plan_93 : decode cX11_plan 93 = .ok (.i2l, 1) := by decide +kernel
theorem dX11_plan_94 : decode cX11_plan 94 = .ok (.aload_n 0, 1) := by decide +kernel
theorem dX11_plan_95 : decode cX11_plan 95 = .ok (.getfield 258, 3) := by decide +kernel
theorem dX11_plan_98 : decode cX11_plan 98 = .ok (.lmul, 1) := by decide +kernel
theorem dX11_plan_99 : decode cX11_plan 99 = .ok (.lstore 7, 2) := by decide +kernel
theorem dX11_plan_101 : decode cX11_plan 101 = .ok (.aload_n 0, 1) := by decide +kernel
theorem dX11_plan_102 : decode cX11_plan 102 = .ok (.iload_n 1, 1) := by decide +kernel
theorem dX11_plan_103 : decode cX11_plan 103 = .ok (.bipush 64, 2) := by decide +kernel
theorem dX11_plan_105 : decode cX11_plan 105 = .ok (.irem, 1) := by decide +kernel
theorem dX11_plan_106 : decode cX11_plan 106 = .ok (.iload_n 2, 1) := by decide +kernel
theorem dX11_plan_107 : decode cX11_plan 107 = .ok (.bipush 64, 2) := by decide +kernel
theorem dX11_plan_109 : decode cX11_plan 109 = .ok (.irem, 1) := by decide +kernel
theorem dX11_plan_110 : decode cX11_plan 110 = .ok (.iload 4, 2) := by decide +kernel
theorem dX11_plan_112 : decode cX11_plan 112 = .ok (.invokevirtual 283, 3) := by decide +kernel
theorem dX11_plan_115 : decode cX11_plan 115 = .ok (.lstore 9, 2) := by decide +kernel
theorem dX11_plan_117 : decode cX11_plan 117 = .ok (.lload 7, 2) := by decide +kernel
theorem dX11_plan_119 : decode cX11_plan 119 = .ok (.lload 5, 2) := by decide +kernel
theorem dX11_plan_121 : decode cX11_plan 121 = .ok (.lcmp, 1) := by decide +kernel
theorem dX11_plan_122 : decode cX11_plan 122 = .ok (.ifCond .ge 7, 3) := by decide +kernel
theorem dX11_plan_125 : decode cX11_plan 125 = .ok (.iconst 1, 1) := by decide +kernel
theorem dX11_plan_126 : decode cX11_plan 126 = .ok (.goto 4, 3) := by decide +kernel
theorem dX11_plan_129 : decode cX11_plan 129 = .ok (.iconst 0, 1) := by decide +kernel
theorem dX11_plan_130 : decode cX11_plan 130 = .ok (.istore 11, 2) := by decide +kernel
theorem dX11_plan_132 : decode cX11_plan 132 = .ok (.lload 5, 2) := by decide +kernel
theorem dX11_plan_134 : decode cX11_plan 134 = .ok (.lload 7, 2) := by decide +kernel
theorem dX11_plan_136 : decode cX11_plan 136 = .ok (.invokestatic 276, 3) := by decide +kernel
theorem dX11_plan_139 : decode cX11_plan 139 = .ok (.lstore 12, 2) := by decide +kernel
theorem dX11_plan_141 : decode cX11_plan 141 = .ok (.lload 9, 2) := by decide +kernel
theorem dX11_plan_143 : decode cX11_plan 143 = .ok (.lload 12, 2) := by decide +kernel
theorem dX11_plan_145 : decode cX11_plan 145 = .ok (.lcmp, 1) := by decide +kernel
theorem dX11_plan_146 : decode cX11_plan 146 = .ok (.ifCond .ge 7, 3) := by decide +kernel
theorem dX11_plan_149 : decode cX11_plan 149 = .ok (.iconst 2, 1) := by decide +kernel
theorem dX11_plan_150 : decode cX11_plan 150 = .ok (.goto 5, 3) := by decide +kernel
theorem dX11_plan_153 : decode cX11_plan 153 = .ok (.iload 11, 2) := by decide +kernel
theorem dX11_plan_155 : decode cX11_plan 155 = .ok (.istore 11, 2) := by decide +kernel
theorem dX11_plan_157 : decode cX11_plan 157 = .ok (.lload 9, 2) := by decide +kernel
theorem dX11_plan_159 : decode cX11_plan 159 = .ok (.lload 12, 2) := by decide +kernel
theorem dX11_plan_161 : decode cX11_plan 161 = .ok (.invokestatic 276, 3) := by decide +kernel
theorem dX11_plan_164 : decode cX11_plan 164 = .ok (.lstore 12, 2) := by decide +kernel
theorem dX11_plan_166 : decode cX11_plan 166 = .ok (.iload_n 3, 1) := by decide +kernel
theorem dX11_plan_167 : decode cX11_plan 167 = .ok (.iconst 2, 1) := by decide +kernel
theorem dX11_plan_168 : decode cX11_plan 168 = .ok (.if_icmp .ne 9, 3) := by decide +kernel
theorem dX11_plan_171 : decode cX11_plan 171 = .ok (.iload 11, 2) := by decide +kernel
theorem dX11_plan_173 : decode cX11_plan 173 = .ok (.i2l, 1) := by decide +kernel
theorem dX11_plan_174 : decode cX11_plan 174 = .ok (.goto 17, 3) := by decide +kernel
theorem dX11_plan_177 : decode cX11_plan 177 = .ok (.lload 12, 2) := by decide +kernel
theorem dX11_plan_179 : decode cX11_plan 179 = .ok (.ldc2_w 113, 3) := by decide +kernel
theorem dX11_plan_182 : decode cX11_plan 182 = .ok (.aload_n 0, 1) := by decide +kernel
theorem dX11_plan_183 : decode cX11_plan 183 = .ok (.getfield 258, 3) := by decide +kernel
theorem dX11_plan_186 : decode cX11_plan 186 = .ok (.lmul, 1) := by decide +kernel
theorem dX11_plan_187 : decode cX11_plan 187 = .ok (.iload_n 3, 1) := by decide +kernel
theorem dX11_plan_188 : decode cX11_plan 188 = .ok (.invokestatic 180, 3) := by decide +kernel
theorem dX11_plan_191 : decode cX11_plan 191 = .ok (.lreturn, 1) := by decide +kernel
theorem dX11_rung_0 : decode cX11_rung 0 = .ok (.aload_n 0, 1) := by decide +kernel
theorem dX11_rung_1 : decode cX11_rung 1 = .ok (.dup, 1) := by decide +kernel
theorem dX11_rung_2 : decode cX11_rung 2 = .ok (.getfield 146, 3) := by decide +kernel
theorem dX11_rung_5 : decode cX11_rung 5 = .ok (.aload_n 0, 1) := by decide +kernel
theorem dX11_rung_6 : decode cX11_rung 6 = .ok (.getfield 146, 3) := by decide +kernel
theorem dX11_rung_9 : decode cX11_rung 9 = .ok (.bipush 12, 2) := by decide +kernel
theorem dX11_rung_11 : decode cX11_rung 11 = .ok (.if_icmp .ge 7, 3) := by decide +kernel
theorem dX11_rung_14 : decode cX11_rung 14 = .ok (.iconst 1, 1) := by decide +kernel
theorem dX11_rung_15 : decode cX11_rung 15 = .ok (.goto 4, 3) := by decide +kernel
theorem dX11_rung_18 : decode cX11_rung 18 = .ok (.iconst 0, 1) := by decide +kernel
theorem dX11_rung_19 : decode cX11_rung 19 = .ok (.iadd, 1) := by decide +kernel
theorem dX11_rung_20 : decode cX11_rung 20 = .ok (.putfield 146, 3) := by decide +kernel
theorem dX11_rung_23 : decode cX11_rung 23 = .ok (.aload_n 0, 1) := by decide +kernel
theorem dX11_rung_24 : decode cX11_rung 24 = .ok (.getfield 146, 3) := by decide +kernel
theorem dX11_rung_27 : decode cX11_rung 27 = .ok (.ireturn, 1) := by decide +kernel
theorem dX11_camera_0 : decode cX11_camera 0 = .ok (.aload_n 0, 1) := by decide +kernel
theorem dX11_camera_1 : decode cX11_camera 1 = .ok (.iload_n 1, 1) := by decide +kernel
theorem dX11_camera_2 : decode cX11_camera 2 = .ok (.invokevirtual 264, 3) := by decide +kernel
theorem dX11_camera_5 : decode cX11_camera 5 = .ok (.ifCond .eq 23, 3) := by decide +kernel
theorem dX11_camera_8 : decode cX11_camera 8 = .ok (.iload_n 2, 1) := by decide +kernel
theorem dX11_camera_9 : decode cX11_camera 9 = .ok (.i2l, 1) := by decide +kernel
theorem dX11_camera_10 : decode cX11_camera 10 = .ok (.invokestatic 248, 3) := by decide +kernel
theorem dX11_camera_13 : decode cX11_camera 13 = .ok (.ifCond .eq 15, 3) := by decide +kernel
theorem dX11_camera_16 : decode cX11_camera 16 = .ok (.iload_n 3, 1) := by decide +kernel
theorem dX11_camera_17 : decode cX11_camera 17 = .ok (.i2l, 1) := by decide +kernel
theorem dX11_camera_18 : decode cX11_camera 18 = .ok (.lconst 0, 1) := by decide +kernel
theorem dX11_camera_19 : decode cX11_camera 19 = .ok (.ldc2_w 169, 3) := by decide +kernel
theorem dX11_camera_22 : decode cX11_camera 22 = .ok (.invokestatic 93, 3) := by decide +kernel
theorem dX11_camera_25 : decode cX11_camera 25 = .ok (.ifCond .ne 7, 3) := by decide +kernel
theorem dX11_camera_28 : decode cX11_camera 28 = .ok (.ldc2_w 174, 3) := by decide +kernel
theorem dX11_camera_31 : decode cX11_camera 31 = .ok (.lreturn, 1) := by decide +kernel
theorem dX11_camera_32 : decode cX11_camera 32 = .ok (.iload_n 1, 1) := by decide +kernel
theorem dX11_camera_33 : decode cX11_camera 33 = .ok (.bipush 64, 2) := by decide +kernel
theorem dX11_camera_35 : decode cX11_camera 35 = .ok (.irem, 1) := by decide +kernel
theorem dX11_camera_36 : decode cX11_camera 36 = .ok (.istore 4, 2) := by decide +kernel
theorem dX11_camera_38 : decode cX11_camera 38 = .ok (.aload_n 0, 1) := by decide +kernel
theorem dX11_camera_39 : decode cX11_camera 39 = .ok (.iload_n 1, 1) := by decide +kernel
theorem dX11_camera_40 : decode cX11_camera 40 = .ok (.invokevirtual 267, 3) := by decide +kernel
theorem dX11_camera_43 : decode cX11_camera 43 = .ok (.ifCond .eq 8, 3) := by decide +kernel
theorem dX11_camera_46 : decode cX11_camera 46 = .ok (.iload 4, 2) := by decide +kernel
theorem dX11_camera_48 : decode cX11_camera 48 = .ok (.ifCond .ne 7, 3) := by decide +kernel
theorem dX11_camera_51 : decode cX11_camera 51 = .ok (.ldc2_w 184, 3) := by decide +kernel
theorem dX11_camera_54 : decode cX11_camera 54 = .ok (.lreturn, 1) := by decide +kernel
theorem dX11_camera_55 : decode cX11_camera 55 = .ok (.aload_n 0, 1) := by decide +kernel
theorem dX11_camera_56 : decode cX11_camera 56 = .ok (.iload_n 2, 1) := by decide +kernel
theorem dX11_camera_57 : decode cX11_camera 57 = .ok (.invokevirtual 242, 3) := by decide +kernel
theorem dX11_camera_60 : decode cX11_camera 60 = .ok (.i2l, 1) := by decide +kernel
theorem dX11_camera_61 : decode cX11_camera 61 = .ok (.aload_n 0, 1) := by decide +kernel
theorem dX11_camera_62 : decode cX11_camera 62 = .ok (.getfield 258, 3) := by decide +kernel
theorem dX11_camera_65 : decode cX11_camera 65 = .ok (.lmul, 1) := by decide +kernel
theorem dX11_camera_66 : decode cX11_camera 66 = .ok (.lstore 5, 2) := by decide +kernel
theorem dX11_camera_68 : decode cX11_camera 68 = .ok (.lload 5, 2) := by decide +kernel
theorem dX11_camera_70 : decode cX11_camera 70 = .ok (.aload_n 0, 1) := by decide +kernel
theorem dX11_camera_71 : decode cX11_camera 71 = .ok (.iload 4, 2) := by decide +kernel
theorem dX11_camera_73 : decode cX11_camera 73 = .ok (.invokevirtual 270, 3) := by decide +kernel
theorem dX11_camera_76 : decode cX11_camera 76 = .ok (.invokestatic 276, 3) := by decide +kernel
theorem dX11_camera_79 : decode cX11_camera 79 = .ok (.lstore 7, 2) := by decide +kernel
theorem dX11_camera_81 : decode cX11_camera 81 = .ok (.iconst (-1), 1) := by decide +kernel
theorem dX11_camera_82 : decode cX11_camera 82 = .ok (.istore 9, 2) := by decide +kernel
theorem dX11_camera_84 : decode cX11_camera 84 = .ok (.lconst 0, 1) := by decide +kernel
theorem dX11_camera_85 : decode cX11_camera 85 = .ok (.lstore 10, 2) := by decide +kernel
theorem dX11_camera_87 : decode cX11_camera 87 = .ok (.iconst 0, 1) := by decide +kernel
theorem dX11_camera_88 : decode cX11_camera 88 = .ok (.istore 12, 2) := by decide +kernel
theorem dX11_camera_90 : decode cX11_camera 90 = .ok (.iload 12, 2) := by decide +kernel
theorem dX11_camera_92 : decode cX11_camera 92 = .ok (.aload_n 0, 1) := by decide +kernel
theorem dX11_camera_93 : decode cX11_camera 93 = .ok (.getfield 90, 3) := by decide +kernel
theorem dX11_camera_96 : decode cX11_camera 96 = .ok (.if_icmp .ge 154, 3) := by decide +kernel
theorem dX11_camera_99 : decode cX11_camera 99 = .ok (.iload 4, 2) := by decide +kernel
theorem dX11_camera_101 : decode cX11_camera 101 = .ok (.iload 12, 2) := by decide +kernel
theorem dX11_camera_103 : decode cX11_camera 103 = .ok (.invokestatic 261, 3) := by decide +kernel
theorem dX11_camera_106 : decode cX11_camera 106 = .ok (.ifCond .eq 138, 3) := by decide +kernel
theorem dX11_camera_109 : decode cX11_camera 109 = .ok (.aload_n 0, 1) := by decide +kernel
theorem dX11_camera_110 : decode cX11_camera 110 = .ok (.iload 4, 2) := by decide +kernel
theorem dX11_camera_112 : decode cX11_camera 112 = .ok (.iconst 1, 1) := by decide +kernel
theorem dX11_camera_113 : decode cX11_camera 113 = .ok (.iload 12, 2) := by decide +kernel
theorem dX11_camera_115 : decode cX11_camera 115 = .ok (.ishl, 1) := by decide +kernel
theorem dX11_camera_116 : decode cX11_camera 116 = .ok (.iconst (-1), 1) := by decide +kernel
theorem dX11_camera_117 : decode cX11_camera 117 = .ok (.ixor, 1) := by decide +kernel
theorem dX11_camera_118 : decode cX11_camera 118 = .ok (.iand, 1) := by decide +kernel
theorem dX11_camera_119 : decode cX11_camera 119 = .ok (.invokevirtual 270, 3) := by decide +kernel
theorem dX11_camera_122 : decode cX11_camera 122 = .ok (.lstore 13, 2) := by decide +kernel
theorem dX11_camera_124 : decode cX11_camera 124 = .ok (.lload 5, 2) := by decide +kernel
theorem dX11_camera_126 : decode cX11_camera 126 = .ok (.aload_n 0, 1) := by decide +kernel
theorem dX11_camera_127 : decode cX11_camera 127 = .ok (.iload 12, 2) := by decide +kernel
theorem dX11_camera_129 : decode cX11_camera 129 = .ok (.iconst 3, 1) := by decide +kernel
theorem dX11_camera_130 : decode cX11_camera 130 = .ok (.invokevirtual 149, 3) := by decide +kernel
theorem dX11_camera_133 : decode cX11_camera 133 = .ok (.i2l, 1) := by decide +kernel
theorem dX11_camera_134 : decode cX11_camera 134 = .ok (.aload_n 0, 1) := by decide +kernel
theorem dX11_camera_135 : decode cX11_camera 135 = .ok (.getfield 258, 3) := by decide +kernel
theorem dX11_camera_138 : decode cX11_camera 138 = .ok (.lmul, 1) := by decide +kernel
theorem dX11_camera_139 : decode cX11_camera 139 = .ok (.lload 13, 2) := by decide +kernel
theorem dX11_camera_141 : decode cX11_camera 141 = .ok (.ladd, 1) := by decide +kernel
theorem dX11_camera_142 : decode cX11_camera 142 = .ok (.invokestatic 276, 3) := by decide +kernel
theorem dX11_camera_145 : decode cX11_camera 145 = .ok (.aload_n 0, 1) := by decide +kernel
theorem dX11_camera_146 : decode cX11_camera 146 = .ok (.getfield 44, 3) := by decide +kernel
theorem dX11_camera_149 : decode cX11_camera 149 = .ok (.iload 12, 2) := by decide +kernel
theorem dX11_camera_151 : decode cX11_camera 151 = .ok (.laload, 1) := by decide +kernel
theorem dX11_camera_152 : decode cX11_camera 152 = .ok (.ldiv, 1) := by decide +kernel
theorem dX11_camera_153 : decode cX11_camera 153 = .ok (.lstore 15, 2) := by decide +kernel
theorem dX11_camera_155 : decode cX11_camera 155 = .ok (.lload 5, 2) := by decide +kernel
theorem dX11_camera_157 : decode cX11_camera 157 = .ok (.lload 13, 2) := by decide +kernel
theorem dX11_camera_159 : decode cX11_camera 159 = .ok (.invokestatic 276, 3) := by decide +kernel
theorem dX11_camera_162 : decode cX11_camera 162 = .ok (.aload_n 0, 1) := by decide +kernel
theorem dX11_camera_163 : decode cX11_camera 163 = .ok (.getfield 44, 3) := by decide +kernel
theorem dX11_camera_166 : decode cX11_camera 166 = .ok (.iload 12, 2) := by decide +kernel
theorem dX11_camera_168 : decode cX11_camera 168 = .ok (.laload, 1) := by decide +kernel
theorem dX11_camera_169 : decode cX11_camera 169 = .ok (.ldiv, 1) := by decide +kernel
theorem dX11_camera_170 : decode cX11_camera 170 = .ok (.lstore 17, 2) := by decide +kernel
theorem dX11_camera_172 : decode cX11_camera 172 = .ok (.lload 7, 2) := by decide +kernel
theorem dX11_camera_174 : decode cX11_camera 174 = .ok (.aload_n 0, 1) := by decide +kernel
theorem dX11_camera_175 : decode cX11_camera 175 = .ok (.getfield 40, 3) := by decide +kernel
theorem dX11_camera_178 : decode cX11_camera 178 = .ok (.iload 12, 2) := by decide +kernel
theorem dX11_camera_180 : decode cX11_camera 180 = .ok (.laload, 1) := by decide +kernel
theorem dX11_camera_181 : decode cX11_camera 181 = .ok (.lload 15, 2) := by decide +kernel
theorem dX11_camera_183 : decode cX11_camera 183 = .ok (.lmul, 1) := by decide +kernel
theorem dX11_camera_184 : decode cX11_camera 184 = .ok (.lsub, 1) := by decide +kernel
theorem dX11_camera_185 : decode cX11_camera 185 = .ok (.aload_n 0, 1) := by decide +kernel
theorem dX11_camera_186 : decode cX11_camera 186 = .ok (.getfield 44, 3) := by decide +kernel
theorem dX11_camera_189 : decode cX11_camera 189 = .ok (.iload 12, 2) := by decide +kernel
theorem dX11_camera_191 : decode cX11_camera 191 = .ok (.laload, 1) := by decide +kernel
theorem dX11_camera_192 : decode cX11_camera 192 = .ok (.aload_n 0, 1) := by decide +kernel
theorem dX11_camera_193 : decode cX11_camera 193 = .ok (.getfield 40, 3) := by decide +kernel
theorem dX11_camera_196 : decode cX11_camera 196 = .ok (.iload 12, 2) := by decide +kernel
theorem dX11_camera_198 : decode cX11_camera 198 = .ok (.laload, 1) := by decide +kernel
theorem dX11_camera_199 : decode cX11_camera 199 = .ok (.lsub, 1) := by decide +kernel
theorem dX11_camera_200 : decode cX11_camera 200 = .ok (.lload 17, 2) := by decide +kernel
theorem dX11_camera_202 : decode cX11_camera 202 = .ok (.lmul, 1) := by decide +kernel
theorem dX11_camera_203 : decode cX11_camera 203 = .ok (.lsub, 1) := by decide +kernel
theorem dX11_camera_204 : decode cX11_camera 204 = .ok (.lstore 19, 2) := by decide +kernel
theorem dX11_camera_206 : decode cX11_camera 206 = .ok (.iload 9, 2) := by decide +kernel
theorem dX11_camera_208 : decode cX11_camera 208 = .ok (.ifCond .lt 11, 3) := by decide +kernel
theorem dX11_camera_211 : decode cX11_camera 211 = .ok (.lload 19, 2) := by decide +kernel
theorem dX11_camera_213 : decode cX11_camera 213 = .ok (.lload 10, 2) := by decide +kernel
theorem dX11_camera_215 : decode cX11_camera 215 = .ok (.lcmp, 1) := by decide +kernel
theorem dX11_camera_216 : decode cX11_camera 216 = .ok (.ifCond .le 8, 3) := by decide +kernel
theorem dX11_camera_219 : decode cX11_camera 219 = .ok (.iload 12, 2) := by decide +kernel
theorem dX11_camera_221 : decode cX11_camera 221 = .ok (.goto 5, 3) := by decide +kernel
theorem dX11_camera_224 : decode cX11_camera 224 = .ok (.iload 9, 2) := by decide +kernel
theorem dX11_camera_226 : decode cX11_camera 226 = .ok (.istore 9, 2) := by decide +kernel
theorem dX11_camera_228 : decode cX11_camera 228 = .ok (.iload 9, 2) := by decide +kernel
theorem dX11_camera_230 : decode cX11_camera 230 = .ok (.iload 12, 2) := by decide +kernel
theorem dX11_camera_232 : decode cX11_camera 232 = .ok (.if_icmp .ne 8, 3) := by decide +kernel
theorem dX11_camera_235 : decode cX11_camera 235 = .ok (.lload 19, 2) := by decide +kernel
theorem dX11_camera_237 : decode cX11_camera 237 = .ok (.goto 5, 3) := by decide +kernel
theorem dX11_camera_240 : decode cX11_camera 240 = .ok (.lload 10, 2) := by decide +kernel
theorem dX11_camera_242 : decode cX11_camera 242 = .ok (.lstore 10, 2) := by decide +kernel
theorem dX11_camera_244 : decode cX11_camera 244 = .ok (.iinc 12 1, 3) := by decide +kernel
theorem dX11_camera_247 : decode cX11_camera 247 = .ok (.goto (-157), 3) := by decide +kernel
theorem dX11_camera_250 : decode cX11_camera 250 = .ok (.iload_n 3, 1) := by decide +kernel
theorem dX11_camera_251 : decode cX11_camera 251 = .ok (.iconst 2, 1) := by decide +kernel
theorem dX11_camera_252 : decode cX11_camera 252 = .ok (.if_icmp .ne 9, 3) := by decide +kernel
theorem dX11_camera_255 : decode cX11_camera 255 = .ok (.iload 9, 2) := by decide +kernel
theorem dX11_camera_257 : decode cX11_camera 257 = .ok (.i2l, 1) := by decide +kernel
theorem dX11_camera_258 : decode cX11_camera 258 = .ok (.goto 13, 3) := by decide +kernel
theorem dX11_camera_261 : decode cX11_camera 261 = .ok (.lload 10, 2) := by decide +kernel
theorem dX11_camera_263 : decode cX11_camera 263 = .ok (.aload_n 0, 1) := by decide +kernel
theorem dX11_camera_264 : decode cX11_camera 264 = .ok (.getfield 258, 3) := by decide +kernel
theorem dX11_camera_267 : decode cX11_camera 267 = .ok (.iload_n 3, 1) := by decide +kernel
theorem dX11_camera_268 : decode cX11_camera 268 = .ok (.invokestatic 180, 3) := by decide +kernel
theorem dX11_camera_271 : decode cX11_camera 271 = .ok (.lreturn, 1) := by decide +kernel
theorem dX11_two_0 : decode cX11_two 0 = .ok (.iload_n 1, 1) := by decide +kernel
theorem dX11_two_1 : decode cX11_two 1 = .ok (.bipush 100, 2) := by decide +kernel
theorem dX11_two_3 : decode cX11_two 3 = .ok (.idiv, 1) := by decide +kernel
theorem dX11_two_4 : decode cX11_two 4 = .ok (.istore 4, 2) := by decide +kernel
theorem dX11_two_6 : decode cX11_two 6 = .ok (.iload_n 1, 1) := by decide +kernel
theorem dX11_two_7 : decode cX11_two 7 = .ok (.bipush 100, 2) := by decide +kernel
theorem dX11_two_9 : decode cX11_two 9 = .ok (.irem, 1) := by decide +kernel
theorem dX11_two_10 : decode cX11_two 10 = .ok (.istore 5, 2) := by decide +kernel
theorem dX11_two_12 : decode cX11_two 12 = .ok (.iload_n 1, 1) := by decide +kernel
theorem dX11_two_13 : decode cX11_two 13 = .ok (.ifCond .lt 36, 3) := by decide +kernel
theorem dX11_two_16 : decode cX11_two 16 = .ok (.iload 4, 2) := by decide +kernel
theorem dX11_two_18 : decode cX11_two 18 = .ok (.bipush 12, 2) := by decide +kernel
theorem dX11_two_20 : decode cX11_two 20 = .ok (.if_icmp .gt 29, 3) := by decide +kernel
theorem dX11_two_23 : decode cX11_two 23 = .ok (.iload 5, 2) := by decide +kernel
theorem dX11_two_25 : decode cX11_two 25 = .ok (.bipush 12, 2) := by decide +kernel
theorem dX11_two_27 : decode cX11_two 27 = .ok (.if_icmp .gt 22, 3) := by decide +kernel
theorem dX11_two_30 : decode cX11_two 30 = .ok (.iload_n 2, 1) := by decide +kernel
theorem dX11_two_31 : decode cX11_two 31 = .ok (.i2l, 1) := by decide +kernel
theorem dX11_two_32 : decode cX11_two 32 = .ok (.lconst 0, 1) := by decide +kernel
theorem dX11_two_33 : decode cX11_two 33 = .ok (.ldc2_w 287, 3) := by decide +kernel
theorem dX11_two_36 : decode cX11_two 36 = .ok (.invokestatic 93, 3) := by decide +kernel
theorem dX11_two_39 : decode cX11_two 39 = .ok (.ifCond .eq 10, 3) := by decide +kernel
theorem dX11_two_42 : decode cX11_two 42 = .ok (.iload_n 3, 1) := by decide +kernel
theorem dX11_two_43 : decode cX11_two 43 = .ok (.invokestatic 171, 3) := by decide +kernel
theorem dX11_two_46 : decode cX11_two 46 = .ok (.ifCond .ne 7, 3) := by decide +kernel
theorem dX11_two_49 : decode cX11_two 49 = .ok (.ldc2_w 174, 3) := by decide +kernel
theorem dX11_two_52 : decode cX11_two 52 = .ok (.lreturn, 1) := by decide +kernel
theorem dX11_two_53 : decode cX11_two 53 = .ok (.bipush 12, 2) := by decide +kernel
theorem dX11_two_55 : decode cX11_two 55 = .ok (.iload 4, 2) := by decide +kernel
theorem dX11_two_57 : decode cX11_two 57 = .ok (.isub, 1) := by decide +kernel
theorem dX11_two_58 : decode cX11_two 58 = .ok (.bipush 12, 2) := by decide +kernel
theorem dX11_two_60 : decode cX11_two 60 = .ok (.iload 5, 2) := by decide +kernel
theorem dX11_two_62 : decode cX11_two 62 = .ok (.isub, 1) := by decide +kernel
theorem dX11_two_63 : decode cX11_two 63 = .ok (.imul, 1) := by decide +kernel
theorem dX11_two_64 : decode cX11_two 64 = .ok (.istore 6, 2) := by decide +kernel
theorem dX11_two_66 : decode cX11_two 66 = .ok (.iload 4, 2) := by decide +kernel
theorem dX11_two_68 : decode cX11_two 68 = .ok (.iload 5, 2) := by decide +kernel
theorem dX11_two_70 : decode cX11_two 70 = .ok (.imul, 1) := by decide +kernel
theorem dX11_two_71 : decode cX11_two 71 = .ok (.istore 7, 2) := by decide +kernel
theorem dX11_two_73 : decode cX11_two 73 = .ok (.iload_n 2, 1) := by decide +kernel
theorem dX11_two_74 : decode cX11_two 74 = .ok (.ifCond .ne 8, 3) := by decide +kernel
theorem dX11_two_77 : decode cX11_two 77 = .ok (.iload 6, 2) := by decide +kernel
theorem dX11_two_79 : decode cX11_two 79 = .ok (.goto 35, 3) := by decide +kernel
theorem dX11_two_82 : decode cX11_two 82 = .ok (.iload_n 2, 1) := by decide +kernel
theorem dX11_two_83 : decode cX11_two 83 = .ok (.iconst 1, 1) := by decide +kernel
theorem dX11_two_84 : decode cX11_two 84 = .ok (.if_icmp .ne 15, 3) := by decide +kernel
theorem dX11_two_87 : decode cX11_two 87 = .ok (.sipush 144, 3) := by decide +kernel
theorem dX11_two_90 : decode cX11_two 90 = .ok (.iload 6, 2) := by decide +kernel
theorem dX11_two_92 : decode cX11_two 92 = .ok (.isub, 1) := by decide +kernel
theorem dX11_two_93 : decode cX11_two 93 = .ok (.iload 7, 2) := by decide +kernel
theorem dX11_two_95 : decode cX11_two 95 = .ok (.isub, 1) := by decide +kernel
theorem dX11_two_96 : decode cX11_two 96 = .ok (.goto 18, 3) := by decide +kernel
theorem dX11_two_99 : decode cX11_two 99 = .ok (.iload_n 2, 1) := by decide +kernel
theorem dX11_two_100 : decode cX11_two 100 = .ok (.iconst 2, 1) := by decide +kernel
theorem dX11_two_101 : decode cX11_two 101 = .ok (.if_icmp .ne 8, 3) := by decide +kernel
theorem dX11_two_104 : decode cX11_two 104 = .ok (.iload 7, 2) := by decide +kernel
theorem dX11_two_106 : decode cX11_two 106 = .ok (.goto 8, 3) := by decide +kernel
theorem dX11_two_109 : decode cX11_two 109 = .ok (.iload 6, 2) := by decide +kernel
theorem dX11_two_111 : decode cX11_two 111 = .ok (.iload 7, 2) := by decide +kernel
theorem dX11_two_113 : decode cX11_two 113 = .ok (.iadd, 1) := by decide +kernel
theorem dX11_two_114 : decode cX11_two 114 = .ok (.istore 8, 2) := by decide +kernel
theorem dX11_two_116 : decode cX11_two 116 = .ok (.iload 8, 2) := by decide +kernel
theorem dX11_two_118 : decode cX11_two 118 = .ok (.i2l, 1) := by decide +kernel
theorem dX11_two_119 : decode cX11_two 119 = .ok (.ldc2_w 97, 3) := by decide +kernel
theorem dX11_two_122 : decode cX11_two 122 = .ok (.iload_n 3, 1) := by decide +kernel
theorem dX11_two_123 : decode cX11_two 123 = .ok (.invokestatic 180, 3) := by decide +kernel
theorem dX11_two_126 : decode cX11_two 126 = .ok (.lreturn, 1) := by decide +kernel
theorem dX11_yardsOf_0 : decode cX11_yardsOf 0 = .ok (.iload_n 1, 1) := by decide +kernel
theorem dX11_yardsOf_1 : decode cX11_yardsOf 1 = .ok (.iload_n 2, 1) := by decide +kernel
theorem dX11_yardsOf_2 : decode cX11_yardsOf 2 = .ok (.if_icmp .ne 7, 3) := by decide +kernel
theorem dX11_yardsOf_5 : decode cX11_yardsOf 5 = .ok (.iconst 0, 1) := by decide +kernel
theorem dX11_yardsOf_6 : decode cX11_yardsOf 6 = .ok (.goto 13, 3) := by decide +kernel
theorem dX11_yardsOf_9 : decode cX11_yardsOf 9 = .ok (.aload_n 0, 1) := by decide +kernel
theorem dX11_yardsOf_10 : decode cX11_yardsOf 10 = .ok (.getfield 11, 3) := by decide +kernel
theorem dX11_yardsOf_13 : decode cX11_yardsOf 13 = .ok (.iload_n 1, 1) := by decide +kernel
theorem dX11_yardsOf_14 : decode cX11_yardsOf 14 = .ok (.iload_n 2, 1) := by decide +kernel
theorem dX11_yardsOf_15 : decode cX11_yardsOf 15 = .ok (.invokestatic 129, 3) := by decide +kernel
theorem dX11_yardsOf_18 : decode cX11_yardsOf 18 = .ok (.iaload, 1) := by decide +kernel
theorem dX11_yardsOf_19 : decode cX11_yardsOf 19 = .ok (.ireturn, 1) := by decide +kernel
theorem dX11_ordersOn_0 : decode cX11_ordersOn 0 = .ok (.iload_n 3, 1) := by decide +kernel
theorem dX11_ordersOn_1 : decode cX11_ordersOn 1 = .ok (.ifCond .ne 67, 3) := by decide +kernel
theorem dX11_ordersOn_4 : decode cX11_ordersOn 4 = .ok (.iload 5, 2) := by decide +kernel
theorem dX11_ordersOn_6 : decode cX11_ordersOn 6 = .ok (.aload_n 0, 1) := by decide +kernel
theorem dX11_ordersOn_7 : decode cX11_ordersOn 7 = .ok (.iload_n 1, 1) := by decide +kernel
theorem dX11_ordersOn_8 : decode cX11_ordersOn 8 = .ok (.iload_n 2, 1) := by decide +kernel
theorem dX11_ordersOn_9 : decode cX11_ordersOn 9 = .ok (.invokevirtual 289, 3) := by decide +kernel
theorem dX11_ordersOn_12 : decode cX11_ordersOn 12 = .ok (.iadd, 1) := by decide +kernel
theorem dX11_ordersOn_13 : decode cX11_ordersOn 13 = .ok (.istore 6, 2) := by decide +kernel
theorem dX11_ordersOn_15 : decode cX11_ordersOn 15 = .ok (.aload_n 0, 1) := by decide +kernel
theorem dX11_ordersOn_16 : decode cX11_ordersOn 16 = .ok (.getfield 292, 3) := by decide +kernel
theorem dX11_ordersOn_19 : decode cX11_ordersOn 19 = .ok (.ifCond .lt 12, 3) := by decide +kernel
theorem dX11_ordersOn_22 : decode cX11_ordersOn 22 = .ok (.iload 6, 2) := by decide +kernel
theorem dX11_ordersOn_24 : decode cX11_ordersOn 24 = .ok (.aload_n 0, 1) := by decide +kernel
theorem dX11_ordersOn_25 : decode cX11_ordersOn 25 = .ok (.getfield 292, 3) := by decide +kernel
theorem dX11_ordersOn_28 : decode cX11_ordersOn 28 = .ok (.if_icmp .ge 39, 3) := by decide +kernel
theorem dX11_ordersOn_31 : decode cX11_ordersOn 31 = .ok (.aload_n 0, 1) := by decide +kernel
theorem dX11_ordersOn_32 : decode cX11_ordersOn 32 = .ok (.iload 6, 2) := by decide +kernel
theorem dX11_ordersOn_34 : decode cX11_ordersOn 34 = .ok (.putfield 292, 3) := by decide +kernel
theorem dX11_ordersOn_37 : decode cX11_ordersOn 37 = .ok (.iconst 0, 1) := by decide +kernel
theorem dX11_ordersOn_38 : decode cX11_ordersOn 38 = .ok (.istore 7, 2) := by decide +kernel
theorem dX11_ordersOn_40 : decode cX11_ordersOn 40 = .ok (.iload 7, 2) := by decide +kernel
theorem dX11_ordersOn_42 : decode cX11_ordersOn 42 = .ok (.iload 4, 2) := by decide +kernel
theorem dX11_ordersOn_44 : decode cX11_ordersOn 44 = .ok (.if_icmp .ge 23, 3) := by decide +kernel
theorem dX11_ordersOn_47 : decode cX11_ordersOn 47 = .ok (.aload_n 0, 1) := by decide +kernel
theorem dX11_ordersOn_48 : decode cX11_ordersOn 48 = .ok (.getfield 50, 3) := by decide +kernel
theorem dX11_ordersOn_51 : decode cX11_ordersOn 51 = .ok (.iload 7, 2) := by decide +kernel
theorem dX11_ordersOn_53 : decode cX11_ordersOn 53 = .ok (.aload_n 0, 1) := by decide +kernel
theorem dX11_ordersOn_54 : decode cX11_ordersOn 54 = .ok (.getfield 47, 3) := by decide +kernel
theorem dX11_ordersOn_57 : decode cX11_ordersOn 57 = .ok (.iload 7, 2) := by decide +kernel
theorem dX11_ordersOn_59 : decode cX11_ordersOn 59 = .ok (.iaload, 1) := by decide +kernel
theorem dX11_ordersOn_60 : decode cX11_ordersOn 60 = .ok (.iastore, 1) := by decide +kernel
theorem dX11_ordersOn_61 : decode cX11_ordersOn 61 = .ok (.iinc 7 1, 3) := by decide +kernel
theorem dX11_ordersOn_64 : decode cX11_ordersOn 64 = .ok (.goto (-24), 3) := by decide +kernel
theorem dX11_ordersOn_67 : decode cX11_ordersOn 67 = .ok (.return_, 1) := by decide +kernel
theorem dX11_ordersOn_68 : decode cX11_ordersOn 68 = .ok (.iconst 0, 1) := by decide +kernel
theorem dX11_ordersOn_69 : decode cX11_ordersOn 69 = .ok (.istore 6, 2) := by decide +kernel
theorem dX11_ordersOn_71 : decode cX11_ordersOn 71 = .ok (.iload 6, 2) := by decide +kernel
theorem dX11_ordersOn_73 : decode cX11_ordersOn 73 = .ok (.bipush 6, 2) := by decide +kernel
theorem dX11_ordersOn_75 : decode cX11_ordersOn 75 = .ok (.if_icmp .ge 56, 3) := by decide +kernel
theorem dX11_ordersOn_78 : decode cX11_ordersOn 78 = .ok (.iload_n 3, 1) := by decide +kernel
theorem dX11_ordersOn_79 : decode cX11_ordersOn 79 = .ok (.iload 6, 2) := by decide +kernel
theorem dX11_ordersOn_81 : decode cX11_ordersOn 81 = .ok (.invokestatic 261, 3) := by decide +kernel
theorem dX11_ordersOn_84 : decode cX11_ordersOn 84 = .ok (.ifCond .eq 41, 3) := by decide +kernel
theorem dX11_ordersOn_87 : decode cX11_ordersOn 87 = .ok (.aload_n 0, 1) := by decide +kernel
theorem dX11_ordersOn_88 : decode cX11_ordersOn 88 = .ok (.getfield 47, 3) := by decide +kernel
theorem dX11_ordersOn_91 : decode cX11_ordersOn 91 = .ok (.iload 4, 2) := by decide +kernel
theorem dX11_ordersOn_93 : decode cX11_ordersOn 93 = .ok (.iload 6, 2) := by decide +kernel
theorem dX11_ordersOn_95 : decode cX11_ordersOn 95 = .ok (.iastore, 1) := by decide +kernel
theorem dX11_ordersOn_96 : decode cX11_ordersOn 96 = .ok (.aload_n 0, 1) := by decide +kernel
theorem dX11_ordersOn_97 : decode cX11_ordersOn 97 = .ok (.iload 6, 2) := by decide +kernel
theorem dX11_ordersOn_99 : decode cX11_ordersOn 99 = .ok (.iload_n 2, 1) := by decide +kernel
theorem dX11_ordersOn_100 : decode cX11_ordersOn 100 = .ok (.iload_n 3, 1) := by decide +kernel
theorem dX11_ordersOn_101 : decode cX11_ordersOn 101 = .ok (.iconst 1, 1) := by decide +kernel
theorem dX11_ordersOn_102 : decode cX11_ordersOn 102 = .ok (.iload 6, 2) := by decide +kernel
theorem dX11_ordersOn_104 : decode cX11_ordersOn 104 = .ok (.ishl, 1) := by decide +kernel
theorem dX11_ordersOn_105 : decode cX11_ordersOn 105 = .ok (.iconst (-1), 1) := by decide +kernel
theorem dX11_ordersOn_106 : decode cX11_ordersOn 106 = .ok (.ixor, 1) := by decide +kernel
theorem dX11_ordersOn_107 : decode cX11_ordersOn 107 = .ok (.iand, 1) := by decide +kernel
theorem dX11_ordersOn_108 : decode cX11_ordersOn 108 = .ok (.iload 4, 2) := by decide +kernel
theorem dX11_ordersOn_110 : decode cX11_ordersOn 110 = .ok (.iconst 1, 1) := by decide +kernel
theorem dX11_ordersOn_111 : decode cX11_ordersOn 111 = .ok (.iadd, 1) := by decide +kernel
theorem dX11_ordersOn_112 : decode cX11_ordersOn 112 = .ok (.iload 5, 2) := by decide +kernel
theorem dX11_ordersOn_114 : decode cX11_ordersOn 114 = .ok (.aload_n 0, 1) := by decide +kernel
theorem dX11_ordersOn_115 : decode cX11_ordersOn 115 = .ok (.iload_n 1, 1) := by decide +kernel
theorem dX11_ordersOn_116 : decode cX11_ordersOn 116 = .ok (.iload 6, 2) := by decide +kernel
theorem dX11_ordersOn_118 : decode cX11_ordersOn 118 = .ok (.invokevirtual 289, 3) := by decide +kernel
theorem dX11_ordersOn_121 : decode cX11_ordersOn 121 = .ok (.iadd, 1) := by decide +kernel
theorem dX11_ordersOn_122 : decode cX11_ordersOn 122 = .ok (.invokevirtual 295, 3) := by decide +kernel
theorem dX11_ordersOn_125 : decode cX11_ordersOn 125 = .ok (.iinc 6 1, 3) := by decide +kernel
theorem dX11_ordersOn_128 : decode cX11_ordersOn 128 = .ok (.goto (-57), 3) := by decide +kernel
theorem dX11_ordersOn_131 : decode cX11_ordersOn 131 = .ok (.return_, 1) := by decide +kernel
theorem dX11_shortestOf_0 : decode cX11_shortestOf 0 = .ok (.aload_n 0, 1) := by decide +kernel
theorem dX11_shortestOf_1 : decode cX11_shortestOf 1 = .ok (.iconst (-1), 1) := by decide +kernel
theorem dX11_shortestOf_2 : decode cX11_shortestOf 2 = .ok (.putfield 292, 3) := by decide +kernel
theorem dX11_shortestOf_5 : decode cX11_shortestOf 5 = .ok (.aload_n 0, 1) := by decide +kernel
theorem dX11_shortestOf_6 : decode cX11_shortestOf 6 = .ok (.iload_n 1, 1) := by decide +kernel
theorem dX11_shortestOf_7 : decode cX11_shortestOf 7 = .ok (.iload_n 2, 1) := by decide +kernel
theorem dX11_shortestOf_8 : decode cX11_shortestOf 8 = .ok (.iload_n 3, 1) := by decide +kernel
theorem dX11_shortestOf_9 : decode cX11_shortestOf 9 = .ok (.iconst 1, 1) := by decide +kernel
theorem dX11_shortestOf_10 : decode cX11_shortestOf 10 = .ok (.iload_n 1, 1) := by decide +kernel
theorem dX11_shortestOf_11 : decode cX11_shortestOf 11 = .ok (.ishl, 1) := by decide +kernel
theorem dX11_shortestOf_12 : decode cX11_shortestOf 12 = .ok (.iconst 1, 1) := by decide +kernel
theorem dX11_shortestOf_13 : decode cX11_shortestOf 13 = .ok (.iload_n 2, 1) := by decide +kernel
theorem dX11_shortestOf_14 : decode cX11_shortestOf 14 = .ok (.ishl, 1) := by decide +kernel
theorem dX11_shortestOf_15 : decode cX11_shortestOf 15 = .ok (.ior, 1) := by decide +kernel
theorem dX11_shortestOf_16 : decode cX11_shortestOf 16 = .ok (.iconst (-1), 1) := by decide +kernel
theorem dX11_shortestOf_17 : decode cX11_shortestOf 17 = .ok (.ixor, 1) := by decide +kernel
theorem dX11_shortestOf_18 : decode cX11_shortestOf 18 = .ok (.iand, 1) := by decide +kernel
theorem dX11_shortestOf_19 : decode cX11_shortestOf 19 = .ok (.iconst 0, 1) := by decide +kernel
theorem dX11_shortestOf_20 : decode cX11_shortestOf 20 = .ok (.iconst 0, 1) := by decide +kernel
theorem dX11_shortestOf_21 : decode cX11_shortestOf 21 = .ok (.invokevirtual 295, 3) := by decide +kernel
theorem dX11_shortestOf_24 : decode cX11_shortestOf 24 = .ok (.aload_n 0, 1) := by decide +kernel
theorem dX11_shortestOf_25 : decode cX11_shortestOf 25 = .ok (.getfield 292, 3) := by decide +kernel
theorem dX11_shortestOf_28 : decode cX11_shortestOf 28 = .ok (.ireturn, 1) := by decide +kernel
theorem dX11_shortest_0 : decode cX11_shortest 0 = .ok (.iload_n 1, 1) := by decide +kernel
theorem dX11_shortest_1 : decode cX11_shortest 1 = .ok (.ifCond .lt 42, 3) := by decide +kernel
theorem dX11_shortest_4 : decode cX11_shortest 4 = .ok (.iload_n 1, 1) := by decide +kernel
theorem dX11_shortest_5 : decode cX11_shortest 5 = .ok (.bipush 10, 2) := by decide +kernel
theorem dX11_shortest_7 : decode cX11_shortest 7 = .ok (.idiv, 1) := by decide +kernel
theorem dX11_shortest_8 : decode cX11_shortest 8 = .ok (.i2l, 1) := by decide +kernel
theorem dX11_shortest_9 : decode cX11_shortest 9 = .ok (.invokestatic 117, 3) := by decide +kernel
theorem dX11_shortest_12 : decode cX11_shortest 12 = .ok (.ifCond .eq 31, 3) := by decide +kernel
theorem dX11_shortest_15 : decode cX11_shortest 15 = .ok (.iload_n 1, 1) := by decide +kernel
theorem dX11_shortest_16 : decode cX11_shortest 16 = .ok (.bipush 10, 2) := by decide +kernel
theorem dX11_shortest_18 : decode cX11_shortest 18 = .ok (.irem, 1) := by decide +kernel
theorem dX11_shortest_19 : decode cX11_shortest 19 = .ok (.i2l, 1) := by decide +kernel
theorem dX11_shortest_20 : decode cX11_shortest 20 = .ok (.invokestatic 117, 3) := by decide +kernel
theorem dX11_shortest_23 : decode cX11_shortest 23 = .ok (.ifCond .eq 20, 3) := by decide +kernel
theorem dX11_shortest_26 : decode cX11_shortest 26 = .ok (.iload_n 2, 1) := by decide +kernel
theorem dX11_shortest_27 : decode cX11_shortest 27 = .ok (.i2l, 1) := by decide +kernel
theorem dX11_shortest_28 : decode cX11_shortest 28 = .ok (.lconst 0, 1) := by decide +kernel
theorem dX11_shortest_29 : decode cX11_shortest 29 = .ok (.ldc2_w 299, 3) := by decide +kernel
theorem dX11_shortest_32 : decode cX11_shortest 32 = .ok (.invokestatic 93, 3) := by decide +kernel
theorem dX11_shortest_35 : decode cX11_shortest 35 = .ok (.ifCond .eq 8, 3) := by decide +kernel
theorem dX11_shortest_38 : decode cX11_shortest 38 = .ok (.iload_n 3, 1) := by decide +kernel
theorem dX11_shortest_39 : decode cX11_shortest 39 = .ok (.iconst (-1), 1) := by decide +kernel
theorem dX11_shortest_40 : decode cX11_shortest 40 = .ok (.if_icmp .ge 5, 3) := by decide +kernel
theorem dX11_shortest_43 : decode cX11_shortest 43 = .ok (.iconst (-1), 1) := by decide +kernel
theorem dX11_shortest_44 : decode cX11_shortest 44 = .ok (.ireturn, 1) := by decide +kernel
theorem dX11_shortest_45 : decode cX11_shortest 45 = .ok (.aload_n 0, 1) := by decide +kernel
theorem dX11_shortest_46 : decode cX11_shortest 46 = .ok (.iload_n 1, 1) := by decide +kernel
theorem dX11_shortest_47 : decode cX11_shortest 47 = .ok (.bipush 10, 2) := by decide +kernel
theorem dX11_shortest_49 : decode cX11_shortest 49 = .ok (.idiv, 1) := by decide +kernel
theorem dX11_shortest_50 : decode cX11_shortest 50 = .ok (.iload_n 1, 1) := by decide +kernel
theorem dX11_shortest_51 : decode cX11_shortest 51 = .ok (.bipush 10, 2) := by decide +kernel
theorem dX11_shortest_53 : decode cX11_shortest 53 = .ok (.irem, 1) := by decide +kernel
theorem dX11_shortest_54 : decode cX11_shortest 54 = .ok (.iload_n 2, 1) := by decide +kernel
theorem dX11_shortest_55 : decode cX11_shortest 55 = .ok (.invokevirtual 301, 3) := by decide +kernel
theorem dX11_shortest_58 : decode cX11_shortest 58 = .ok (.istore 4, 2) := by decide +kernel
theorem dX11_shortest_60 : decode cX11_shortest 60 = .ok (.iload_n 2, 1) := by decide +kernel
theorem dX11_shortest_61 : decode cX11_shortest 61 = .ok (.iconst 1, 1) := by decide +kernel
theorem dX11_shortest_62 : decode cX11_shortest 62 = .ok (.iload_n 1, 1) := by decide +kernel
theorem dX11_shortest_63 : decode cX11_shortest 63 = .ok (.bipush 10, 2) := by decide +kernel
theorem dX11_shortest_65 : decode cX11_shortest 65 = .ok (.idiv, 1) := by decide +kernel
theorem dX11_shortest_66 : decode cX11_shortest 66 = .ok (.ishl, 1) := by decide +kernel
theorem dX11_shortest_67 : decode cX11_shortest 67 = .ok (.iconst 1, 1) := by decide +kernel
theorem dX11_shortest_68 : decode cX11_shortest 68 = .ok (.iload_n 1, 1) := by decide +kernel
theorem dX11_shortest_69 : decode cX11_shortest 69 = .ok (.bipush 10, 2) := by decide +kernel
theorem dX11_shortest_71 : decode cX11_shortest 71 = .ok (.irem, 1) := by decide +kernel
theorem dX11_shortest_72 : decode cX11_shortest 72 = .ok (.ishl, 1) := by decide +kernel
theorem dX11_shortest_73 : decode cX11_shortest 73 = .ok (.ior, 1) := by decide +kernel
theorem dX11_shortest_74 : decode cX11_shortest 74 = .ok (.iconst (-1), 1) := by decide +kernel
theorem dX11_shortest_75 : decode cX11_shortest 75 = .ok (.ixor, 1) := by decide +kernel
theorem dX11_shortest_76 : decode cX11_shortest 76 = .ok (.iand, 1) := by decide +kernel
theorem dX11_shortest_77 : decode cX11_shortest 77 = .ok (.invokestatic 255, 3) := by decide +kernel
theorem dX11_shortest_80 : decode cX11_shortest 80 = .ok (.istore 5, 2) := by decide +kernel
theorem dX11_shortest_82 : decode cX11_shortest 82 = .ok (.iload_n 3, 1) := by decide +kernel
theorem dX11_shortest_83 : decode cX11_shortest 83 = .ok (.ifCond .ge 6, 3) := by decide +kernel
theorem dX11_shortest_86 : decode cX11_shortest 86 = .ok (.iload 4, 2) := by decide +kernel
theorem dX11_shortest_88 : decode cX11_shortest 88 = .ok (.ireturn, 1) := by decide +kernel
theorem dX11_shortest_89 : decode cX11_shortest 89 = .ok (.iload_n 3, 1) := by decide +kernel
theorem dX11_shortest_90 : decode cX11_shortest 90 = .ok (.ifCond .ne 10, 3) := by decide +kernel
theorem dX11_shortest_93 : decode cX11_shortest 93 = .ok (.iload_n 1, 1) := by decide +kernel
theorem dX11_shortest_94 : decode cX11_shortest 94 = .ok (.bipush 10, 2) := by decide +kernel
theorem dX11_shortest_96 : decode cX11_shortest 96 = .ok (.idiv, 1) := by decide +kernel
theorem dX11_shortest_97 : decode cX11_shortest 97 = .ok (.goto 37, 3) := by decide +kernel
theorem dX11_shortest_100 : decode cX11_shortest 100 = .ok (.iload_n 3, 1) := by decide +kernel
theorem dX11_shortest_101 : decode cX11_shortest 101 = .ok (.iload 5, 2) := by decide +kernel
theorem dX11_shortest_103 : decode cX11_shortest 103 = .ok (.if_icmp .gt 14, 3) := by decide +kernel
theorem dX11_shortest_106 : decode cX11_shortest 106 = .ok (.aload_n 0, 1) := by decide +kernel
theorem dX11_shortest_107 : decode cX11_shortest 107 = .ok (.getfield 50, 3) := by decide +kernel
theorem dX11_shortest_110 : decode cX11_shortest 110 = .ok (.iload_n 3, 1) := by decide +kernel
theorem dX11_shortest_111 : decode cX11_shortest 111 = .ok (.iconst 1, 1) := by decide +kernel
theorem dX11_shortest_112 : decode cX11_shortest 112 = .ok (.isub, 1) := by decide +kernel
theorem dX11_shortest_113 : decode cX11_shortest 113 = .ok (.iaload, 1) := by decide +kernel
theorem dX11_shortest_114 : decode cX11_shortest 114 = .ok (.goto 20, 3) := by decide +kernel
theorem dX11_shortest_117 : decode cX11_shortest 117 = .ok (.iload_n 3, 1) := by decide +kernel
theorem dX11_shortest_118 : decode cX11_shortest 118 = .ok (.iload 5, 2) := by decide +kernel
theorem dX11_shortest_120 : decode cX11_shortest 120 = .ok (.iconst 1, 1) := by decide +kernel
theorem dX11_shortest_121 : decode cX11_shortest 121 = .ok (.iadd, 1) := by decide +kernel
theorem dX11_shortest_122 : decode cX11_shortest 122 = .ok (.if_icmp .ne 10, 3) := by decide +kernel
theorem dX11_shortest_125 : decode cX11_shortest 125 = .ok (.iload_n 1, 1) := by decide +kernel
theorem dX11_shortest_126 : decode cX11_shortest 126 = .ok (.bipush 10, 2) := by decide +kernel
theorem dX11_shortest_128 : decode cX11_shortest 128 = .ok (.irem, 1) := by decide +kernel
theorem dX11_shortest_129 : decode cX11_shortest 129 = .ok (.goto 5, 3) := by decide +kernel
theorem dX11_shortest_132 : decode cX11_shortest 132 = .ok (.bipush (-2), 2) := by decide +kernel
theorem dX11_shortest_134 : decode cX11_shortest 134 = .ok (.ireturn, 1) := by decide +kernel
theorem dX11_bytesIs_0 : decode cX11_bytesIs 0 = .ok (.iload_n 1, 1) := by decide +kernel
theorem dX11_bytesIs_1 : decode cX11_bytesIs 1 = .ok (.invokestatic 105, 3) := by decide +kernel
theorem dX11_bytesIs_4 : decode cX11_bytesIs 4 = .ok (.ifCond .ne 7, 3) := by decide +kernel
theorem dX11_bytesIs_7 : decode cX11_bytesIs 7 = .ok (.iconst (-1), 1) := by decide +kernel
theorem dX11_bytesIs_8 : decode cX11_bytesIs 8 = .ok (.goto 34, 3) := by decide +kernel
theorem dX11_bytesIs_11 : decode cX11_bytesIs 11 = .ok (.aload_n 0, 1) := by decide +kernel
theorem dX11_bytesIs_12 : decode cX11_bytesIs 12 = .ok (.getfield 65, 3) := by decide +kernel
theorem dX11_bytesIs_15 : decode cX11_bytesIs 15 = .ok (.iload_n 1, 1) := by decide +kernel
theorem dX11_bytesIs_16 : decode cX11_bytesIs 16 = .ok (.iaload, 1) := by decide +kernel
theorem dX11_bytesIs_17 : decode cX11_bytesIs 17 = .ok (.ifCond .ge 8, 3) := by decide +kernel
theorem dX11_bytesIs_20 : decode cX11_bytesIs 20 = .ok (.bipush (-11), 2) := by decide +kernel
theorem dX11_bytesIs_22 : decode cX11_bytesIs 22 = .ok (.goto 20, 3) := by decide +kernel
theorem dX11_bytesIs_25 : decode cX11_bytesIs 25 = .ok (.aload_n 0, 1) := by decide +kernel
theorem dX11_bytesIs_26 : decode cX11_bytesIs 26 = .ok (.getfield 65, 3) := by decide +kernel
theorem dX11_bytesIs_29 : decode cX11_bytesIs 29 = .ok (.iload_n 1, 1) := by decide +kernel
theorem dX11_bytesIs_30 : decode cX11_bytesIs 30 = .ok (.iaload, 1) := by decide +kernel
theorem dX11_bytesIs_31 : decode cX11_bytesIs 31 = .ok (.bipush 50, 2) := by decide +kernel
theorem dX11_bytesIs_33 : decode cX11_bytesIs 33 = .ok (.if_icmp .ne 7, 3) := by decide +kernel
theorem dX11_bytesIs_36 : decode cX11_bytesIs 36 = .ok (.iconst 1, 1) := by decide +kernel
theorem dX11_bytesIs_37 : decode cX11_bytesIs 37 = .ok (.goto 5, 3) := by decide +kernel
theorem dX11_bytesIs_40 : decode cX11_bytesIs 40 = .ok (.bipush (-12), 2) := by decide +kernel
theorem dX11_bytesIs_42 : decode cX11_bytesIs 42 = .ok (.ireturn, 1) := by decide +kernel
theorem dX11_length_0 : decode cX11_length 0 = .ok (.aload_n 0, 1) := by decide +kernel
theorem dX11_length_1 : decode cX11_length 1 = .ok (.iload_n 1, 1) := by decide +kernel
theorem dX11_length_2 : decode cX11_length 2 = .ok (.invokevirtual 305, 3) := by decide +kernel
theorem dX11_length_5 : decode cX11_length 5 = .ok (.iconst (-1), 1) := by decide +kernel
theorem dX11_length_6 : decode cX11_length 6 = .ok (.if_icmp .eq 13, 3) := by decide +kernel
theorem dX11_length_9 : decode cX11_length 9 = .ok (.iload_n 2, 1) := by decide +kernel
theorem dX11_length_10 : decode cX11_length 10 = .ok (.i2l, 1) := by decide +kernel
theorem dX11_length_11 : decode cX11_length 11 = .ok (.lconst 0, 1) := by decide +kernel
theorem dX11_length_12 : decode cX11_length 12 = .ok (.lconst 1, 1) := by decide +kernel
theorem dX11_length_13 : decode cX11_length 13 = .ok (.invokestatic 93, 3) := by decide +kernel
theorem dX11_length_16 : decode cX11_length 16 = .ok (.ifCond .ne 5, 3) := by decide +kernel
theorem dX11_length_19 : decode cX11_length 19 = .ok (.iconst (-1), 1) := by decide +kernel
theorem dX11_length_20 : decode cX11_length 20 = .ok (.ireturn, 1) := by decide +kernel
theorem dX11_length_21 : decode cX11_length 21 = .ok (.aload_n 0, 1) := by decide +kernel
theorem dX11_length_22 : decode cX11_length 22 = .ok (.iload_n 1, 1) := by decide +kernel
theorem dX11_length_23 : decode cX11_length 23 = .ok (.invokevirtual 305, 3) := by decide +kernel
theorem dX11_length_26 : decode cX11_length 26 = .ok (.ifCond .ge 9, 3) := by decide +kernel
theorem dX11_length_29 : decode cX11_length 29 = .ok (.aload_n 0, 1) := by decide +kernel
theorem dX11_length_30 : decode cX11_length 30 = .ok (.iload_n 1, 1) := by decide +kernel
theorem dX11_length_31 : decode cX11_length 31 = .ok (.invokevirtual 305, 3) := by decide +kernel
theorem dX11_length_34 : decode cX11_length 34 = .ok (.ireturn, 1) := by decide +kernel
theorem dX11_length_35 : decode cX11_length 35 = .ok (.iconst 0, 1) := by decide +kernel
theorem dX11_length_36 : decode cX11_length 36 = .ok (.istore_n 3, 1) := by decide +kernel
theorem dX11_length_37 : decode cX11_length 37 = .ok (.iconst 0, 1) := by decide +kernel
theorem dX11_length_38 : decode cX11_length 38 = .ok (.istore 4, 2) := by decide +kernel
theorem dX11_length_40 : decode cX11_length 40 = .ok (.iconst 0, 1) := by decide +kernel
theorem dX11_length_41 : decode cX11_length 41 = .ok (.istore 5, 2) := by decide +kernel
theorem dX11_length_43 : decode cX11_length 43 = .ok (.iload 5, 2) := by decide +kernel
theorem dX11_length_45 : decode cX11_length 45 = .ok (.aload_n 0, 1) := by decide +kernel
theorem dX11_length_46 : decode cX11_length 46 = .ok (.getfield 68, 3) := by decide +kernel
theorem dX11_length_49 : decode cX11_length 49 = .ok (.iload_n 1, 1) := by decide +kernel
theorem dX11_length_50 : decode cX11_length 50 = .ok (.iaload, 1) := by decide +kernel
theorem dX11_length_51 : decode cX11_length 51 = .ok (.if_icmp .ge 78, 3) := by decide +kernel
theorem dX11_length_54 : decode cX11_length 54 = .ok (.aload_n 0, 1) := by decide +kernel
theorem dX11_length_55 : decode cX11_length 55 = .ok (.getfield 71, 3) := by decide +kernel
theorem dX11_length_58 : decode cX11_length 58 = .ok (.bipush 60, 2) := by decide +kernel
theorem dX11_length_60 : decode cX11_length 60 = .ok (.iload_n 1, 1) := by decide +kernel
theorem dX11_length_61 : decode cX11_length 61 = .ok (.imul, 1) := by decide +kernel
theorem dX11_length_62 : decode cX11_length 62 = .ok (.iload 5, 2) := by decide +kernel
theorem dX11_length_64 : decode cX11_length 64 = .ok (.iadd, 1) := by decide +kernel
theorem dX11_length_65 : decode cX11_length 65 = .ok (.laload, 1) := by decide +kernel
theorem dX11_length_66 : decode cX11_length 66 = .ok (.lstore 6, 2) := by decide +kernel
theorem dX11_length_68 : decode cX11_length 68 = .ok (.lload 6, 2) := by decide +kernel
theorem dX11_length_70 : decode cX11_length 70 = .ok (.invokestatic 117, 3) := by decide +kernel
theorem dX11_length_73 : decode cX11_length 73 = .ok (.ifCond .ne 6, 3) := by decide +kernel
theorem dX11_length_76 : decode cX11_length 76 = .ok (.bipush (-5), 2) := by decide +kernel
theorem dX11_length_78 : decode cX11_length 78 = .ok (.ireturn, 1) := by decide +kernel
theorem dX11_length_79 : decode cX11_length 79 = .ok (.iload_n 3, 1) := by decide +kernel
theorem dX11_length_80 : decode cX11_length 80 = .ok (.iconst 1, 1) := by decide +kernel
theorem dX11_length_81 : decode cX11_length 81 = .ok (.lload 6, 2) := by decide +kernel
theorem dX11_length_83 : decode cX11_length 83 = .ok (.l2i, 1) := by decide +kernel
theorem dX11_length_84 : decode cX11_length 84 = .ok (.ishl, 1) := by decide +kernel
theorem dX11_length_85 : decode cX11_length 85 = .ok (.ior, 1) := by decide +kernel
theorem dX11_length_86 : decode cX11_length 86 = .ok (.istore_n 3, 1) := by decide +kernel
theorem dX11_length_87 : decode cX11_length 87 = .ok (.iload 4, 2) := by decide +kernel
theorem dX11_length_89 : decode cX11_length 89 = .ok (.iload 5, 2) := by decide +kernel
theorem dX11_length_91 : decode cX11_length 91 = .ok (.ifCond .le 28, 3) := by decide +kernel
theorem dX11_length_94 : decode cX11_length 94 = .ok (.aload_n 0, 1) := by decide +kernel
theorem dX11_length_95 : decode cX11_length 95 = .ok (.aload_n 0, 1) := by decide +kernel
theorem dX11_length_96 : decode cX11_length 96 = .ok (.getfield 71, 3) := by decide +kernel
theorem dX11_length_99 : decode cX11_length 99 = .ok (.bipush 60, 2) := by decide +kernel
theorem dX11_length_101 : decode cX11_length 101 = .ok (.iload_n 1, 1) := by decide +kernel
theorem dX11_length_102 : decode cX11_length 102 = .ok (.imul, 1) := by decide +kernel
theorem dX11_length_103 : decode cX11_length 103 = .ok (.iload 5, 2) := by decide +kernel
theorem dX11_length_105 : decode cX11_length 105 = .ok (.iadd, 1) := by decide +kernel
theorem dX11_length_106 : decode cX11_length 106 = .ok (.iconst 1, 1) := by decide +kernel
theorem dX11_length_107 : decode cX11_length 107 = .ok (.isub, 1) := by decide +kernel
theorem dX11_length_108 : decode cX11_length 108 = .ok (.laload, 1) := by decide +kernel
theorem dX11_length_109 : decode cX11_length 109 = .ok (.l2i, 1) := by decide +kernel
theorem dX11_length_110 : decode cX11_length 110 = .ok (.lload 6, 2) := by decide +kernel
theorem dX11_length_112 : decode cX11_length 112 = .ok (.l2i, 1) := by decide +kernel
theorem dX11_length_113 : decode cX11_length 113 = .ok (.invokevirtual 289, 3) := by decide +kernel
theorem dX11_length_116 : decode cX11_length 116 = .ok (.goto 4, 3) := by decide +kernel
theorem dX11_length_119 : decode cX11_length 119 = .ok (.iconst 0, 1) := by decide +kernel
theorem dX11_length_120 : decode cX11_length 120 = .ok (.iadd, 1) := by decide +kernel
theorem dX11_length_121 : decode cX11_length 121 = .ok (.istore 4, 2) := by decide +kernel
theorem dX11_length_123 : decode cX11_length 123 = .ok (.iinc 5 1, 3) := by decide +kernel
theorem dX11_length_126 : decode cX11_length 126 = .ok (.goto (-83), 3) := by decide +kernel
theorem dX11_length_129 : decode cX11_length 129 = .ok (.aload_n 0, 1) := by decide +kernel
theorem dX11_length_130 : decode cX11_length 130 = .ok (.getfield 68, 3) := by decide +kernel
theorem dX11_length_133 : decode cX11_length 133 = .ok (.iload_n 1, 1) := by decide +kernel
theorem dX11_length_134 : decode cX11_length 134 = .ok (.iaload, 1) := by decide +kernel
theorem dX11_length_135 : decode cX11_length 135 = .ok (.ifCond .ne 6, 3) := by decide +kernel
theorem dX11_length_138 : decode cX11_length 138 = .ok (.bipush (-5), 2) := by decide +kernel
theorem dX11_length_140 : decode cX11_length 140 = .ok (.ireturn, 1) := by decide +kernel
theorem dX11_length_141 : decode cX11_length 141 = .ok (.iload_n 2, 1) := by decide +kernel
theorem dX11_length_142 : decode cX11_length 142 = .ok (.ifCond .ne 8, 3) := by decide +kernel
theorem dX11_length_145 : decode cX11_length 145 = .ok (.iload 4, 2) := by decide +kernel
theorem dX11_length_147 : decode cX11_length 147 = .ok (.goto 40, 3) := by decide +kernel
theorem dX11_length_150 : decode cX11_length 150 = .ok (.iload 4, 2) := by decide +kernel
theorem dX11_length_152 : decode cX11_length 152 = .ok (.aload_n 0, 1) := by decide +kernel
theorem dX11_length_153 : decode cX11_length 153 = .ok (.aload_n 0, 1) := by decide +kernel
theorem dX11_length_154 : decode cX11_length 154 = .ok (.getfield 71, 3) := by decide +kernel
theorem dX11_length_157 : decode cX11_length 157 = .ok (.bipush 60, 2) := by decide +kernel
theorem dX11_length_159 : decode cX11_length 159 = .ok (.iload_n 1, 1) := by decide +kernel
theorem dX11_length_160 : decode cX11_length 160 = .ok (.imul, 1) := by decide +kernel
theorem dX11_length_161 : decode cX11_length 161 = .ok (.laload, 1) := by decide +kernel
theorem dX11_length_162 : decode cX11_length 162 = .ok (.l2i, 1) := by decide +kernel
theorem dX11_length_163 : decode cX11_length 163 = .ok (.aload_n 0, 1) := by decide +kernel
theorem dX11_length_164 : decode cX11_length 164 = .ok (.getfield 71, 3) := by decide +kernel
theorem dX11_length_167 : decode cX11_length 167 = .ok (.bipush 60, 2) := by decide +kernel
theorem dX11_length_169 : decode cX11_length 169 = .ok (.iload_n 1, 1) := by decide +kernel
theorem dX11_length_170 : decode cX11_length 170 = .ok (.imul, 1) := by decide +kernel
theorem dX11_length_171 : decode cX11_length 171 = .ok (.aload_n 0, 1) := by decide +kernel
theorem dX11_length_172 : decode cX11_length 172 = .ok (.getfield 68, 3) := by decide +kernel
theorem dX11_length_175 : decode cX11_length 175 = .ok (.iload_n 1, 1) := by decide +kernel
theorem dX11_length_176 : decode cX11_length 176 = .ok (.iaload, 1) := by decide +kernel
theorem dX11_length_177 : decode cX11_length 177 = .ok (.iadd, 1) := by decide +kernel
theorem dX11_length_178 : decode cX11_length 178 = .ok (.iconst 1, 1) := by decide +kernel
theorem dX11_length_179 : decode cX11_length 179 = .ok (.isub, 1) := by decide +kernel
theorem dX11_length_180 : decode cX11_length 180 = .ok (.laload, 1) := by decide +kernel
theorem dX11_length_181 : decode cX11_length 181 = .ok (.l2i, 1) := by decide +kernel
theorem dX11_length_182 : decode cX11_length 182 = .ok (.iload_n 3, 1) := by decide +kernel
theorem dX11_length_183 : decode cX11_length 183 = .ok (.invokevirtual 301, 3) := by decide +kernel
theorem dX11_length_186 : decode cX11_length 186 = .ok (.isub, 1) := by decide +kernel
theorem dX11_length_187 : decode cX11_length 187 = .ok (.ireturn, 1) := by decide +kernel
theorem dX11_list_0 : decode cX11_list 0 = .ok (.iload_n 1, 1) := by decide +kernel
theorem dX11_list_1 : decode cX11_list 1 = .ok (.ifCond .lt 31, 3) := by decide +kernel
theorem dX11_list_4 : decode cX11_list 4 = .ok (.aload_n 0, 1) := by decide +kernel
theorem dX11_list_5 : decode cX11_list 5 = .ok (.iload_n 1, 1) := by decide +kernel
theorem dX11_list_6 : decode cX11_list 6 = .ok (.bipush 100, 2) := by decide +kernel
theorem dX11_list_8 : decode cX11_list 8 = .ok (.idiv, 1) := by decide +kernel
theorem dX11_list_9 : decode cX11_list 9 = .ok (.i2l, 1) := by decide +kernel
theorem dX11_list_10 : decode cX11_list 10 = .ok (.invokevirtual 121, 3) := by decide +kernel
theorem dX11_list_13 : decode cX11_list 13 = .ok (.ifCond .eq 19, 3) := by decide +kernel
theorem dX11_list_16 : decode cX11_list 16 = .ok (.iload_n 1, 1) := by decide +kernel
theorem dX11_list_17 : decode cX11_list 17 = .ok (.bipush 100, 2) := by decide +kernel
theorem dX11_list_19 : decode cX11_list 19 = .ok (.irem, 1) := by decide +kernel
theorem dX11_list_20 : decode cX11_list 20 = .ok (.bipush 12, 2) := by decide +kernel
theorem dX11_list_22 : decode cX11_list 22 = .ok (.if_icmp .gt 10, 3) := by decide +kernel
theorem dX11_list_25 : decode cX11_list 25 = .ok (.iload_n 2, 1) := by decide +kernel
theorem dX11_list_26 : decode cX11_list 26 = .ok (.invokestatic 171, 3) := by decide +kernel
theorem dX11_list_29 : decode cX11_list 29 = .ok (.ifCond .ne 7, 3) := by decide +kernel
theorem dX11_list_32 : decode cX11_list 32 = .ok (.ldc2_w 174, 3) := by decide +kernel
theorem dX11_list_35 : decode cX11_list 35 = .ok (.lreturn, 1) := by decide +kernel
theorem dX11_list_36 : decode cX11_list 36 = .ok (.aload_n 0, 1) := by decide +kernel
theorem dX11_list_37 : decode cX11_list 37 = .ok (.iload_n 1, 1) := by decide +kernel
theorem dX11_list_38 : decode cX11_list 38 = .ok (.bipush 100, 2) := by decide +kernel
theorem dX11_list_40 : decode cX11_list 40 = .ok (.idiv, 1) := by decide +kernel
theorem dX11_list_41 : decode cX11_list 41 = .ok (.iconst 0, 1) := by decide +kernel
theorem dX11_list_42 : decode cX11_list 42 = .ok (.invokevirtual 149, 3) := by decide +kernel
theorem dX11_list_45 : decode cX11_list 45 = .ok (.istore_n 3, 1) := by decide +kernel
theorem dX11_list_46 : decode cX11_list 46 = .ok (.iload_n 3, 1) := by decide +kernel
theorem dX11_list_47 : decode cX11_list 47 = .ok (.i2l, 1) := by decide +kernel
theorem dX11_list_48 : decode cX11_list 48 = .ok (.iload_n 1, 1) := by decide +kernel
theorem dX11_list_49 : decode cX11_list 49 = .ok (.bipush 100, 2) := by decide +kernel
theorem dX11_list_51 : decode cX11_list 51 = .ok (.irem, 1) := by decide +kernel
theorem dX11_list_52 : decode cX11_list 52 = .ok (.i2l, 1) := by decide +kernel
theorem dX11_list_53 : decode cX11_list 53 = .ok (.lmul, 1) := by decide +kernel
theorem dX11_list_54 : decode cX11_list 54 = .ok (.lstore 4, 2) := by decide +kernel
theorem dX11_list_56 : decode cX11_list 56 = .ok (.lload 4, 2) := by decide +kernel
theorem dX11_list_58 : decode cX11_list 58 = .ok (.sipush 144, 3) := by decide +kernel
theorem dX11_list_61 : decode cX11_list 61 = .ok (.iload_n 3, 1) := by decide +kernel
theorem dX11_list_62 : decode cX11_list 62 = .ok (.isub, 1) := by decide +kernel
theorem dX11_list_63 : decode cX11_list 63 = .ok (.i2l, 1) := by decide +kernel
theorem dX11_list_64 : decode cX11_list 64 = .ok (.ldc2_w 113, 3) := by decide +kernel
theorem dX11_list_67 : decode cX11_list 67 = .ok (.lmul, 1) := by decide +kernel
theorem dX11_list_68 : decode cX11_list 68 = .ok (.ladd, 1) := by decide +kernel
theorem dX11_list_69 : decode cX11_list 69 = .ok (.lstore 6, 2) := by decide +kernel
theorem dX11_list_71 : decode cX11_list 71 = .ok (.lload 6, 2) := by decide +kernel
theorem dX11_list_73 : decode cX11_list 73 = .ok (.lconst 0, 1) := by decide +kernel
theorem dX11_list_74 : decode cX11_list 74 = .ok (.lcmp, 1) := by decide +kernel
theorem dX11_list_75 : decode cX11_list 75 = .ok (.ifCond .ne 9, 3) := by decide +kernel
theorem dX11_list_78 : decode cX11_list 78 = .ok (.ldc2_w 184, 3) := by decide +kernel
theorem dX11_list_81 : decode cX11_list 81 = .ok (.goto 11, 3) := by decide +kernel
theorem dX11_list_84 : decode cX11_list 84 = .ok (.lload 4, 2) := by decide +kernel
theorem dX11_list_86 : decode cX11_list 86 = .ok (.lload 6, 2) := by decide +kernel
theorem dX11_list_88 : decode cX11_list 88 = .ok (.iload_n 2, 1) := by decide +kernel
theorem dX11_list_89 : decode cX11_list 89 = .ok (.invokestatic 180, 3) := by decide +kernel
theorem dX11_list_92 : decode cX11_list 92 = .ok (.lreturn, 1) := by decide +kernel
theorem dX11_ever_0 : decode cX11_ever 0 = .ok (.aload_n 0, 1) := by decide +kernel
theorem dX11_ever_1 : decode cX11_ever 1 = .ok (.iload_n 1, 1) := by decide +kernel
theorem dX11_ever_2 : decode cX11_ever 2 = .ok (.i2l, 1) := by decide +kernel
theorem dX11_ever_3 : decode cX11_ever 3 = .ok (.invokevirtual 121, 3) := by decide +kernel
theorem dX11_ever_6 : decode cX11_ever 6 = .ok (.ifCond .eq 22, 3) := by decide +kernel
theorem dX11_ever_9 : decode cX11_ever 9 = .ok (.iload_n 2, 1) := by decide +kernel
theorem dX11_ever_10 : decode cX11_ever 10 = .ok (.i2l, 1) := by decide +kernel
theorem dX11_ever_11 : decode cX11_ever 11 = .ok (.lconst 0, 1) := by decide +kernel
theorem dX11_ever_12 : decode cX11_ever 12 = .ok (.ldc2_w 308, 3) := by decide +kernel
theorem dX11_ever_15 : decode cX11_ever 15 = .ok (.invokestatic 93, 3) := by decide +kernel
theorem dX11_ever_18 : decode cX11_ever 18 = .ok (.ifCond .eq 10, 3) := by decide +kernel
theorem dX11_ever_21 : decode cX11_ever 21 = .ok (.iload_n 3, 1) := by decide +kernel
theorem dX11_ever_22 : decode cX11_ever 22 = .ok (.invokestatic 171, 3) := by decide +kernel
theorem dX11_ever_25 : decode cX11_ever 25 = .ok (.ifCond .ne 7, 3) := by decide +kernel
theorem dX11_ever_28 : decode cX11_ever 28 = .ok (.ldc2_w 174, 3) := by decide +kernel
theorem dX11_ever_31 : decode cX11_ever 31 = .ok (.lreturn, 1) := by decide +kernel
theorem dX11_ever_32 : decode cX11_ever 32 = .ok (.lconst 1, 1) := by decide +kernel
theorem dX11_ever_33 : decode cX11_ever 33 = .ok (.lstore 4, 2) := by decide +kernel
theorem dX11_ever_35 : decode cX11_ever 35 = .ok (.lconst 1, 1) := by decide +kernel
theorem dX11_ever_36 : decode cX11_ever 36 = .ok (.lstore 6, 2) := by decide +kernel
theorem dX11_ever_38 : decode cX11_ever 38 = .ok (.iconst 0, 1) := by decide +kernel
theorem dX11_ever_39 : decode cX11_ever 39 = .ok (.istore 8, 2) := by decide +kernel
theorem dX11_ever_41 : decode cX11_ever 41 = .ok (.iload 8, 2) := by decide +kernel
theorem dX11_ever_43 : decode cX11_ever 43 = .ok (.iload_n 2, 1) := by decide +kernel
theorem dX11_ever_44 : decode cX11_ever 44 = .ok (.if_icmp .ge 33, 3) := by decide +kernel
theorem dX11_ever_47 : decode cX11_ever 47 = .ok (.lload 4, 2) := by decide +kernel
theorem dX11_ever_49 : decode cX11_ever 49 = .ok (.sipush 144, 3) := by decide +kernel
theorem dX11_ever_52 : decode cX11_ever 52 = .ok (.aload_n 0, 1) := by decide +kernel
theorem dX11_ever_53 : decode cX11_ever 53 = .ok (.iload_n 1, 1) := by decide +kernel
theorem dX11_ever_54 : decode cX11_ever 54 = .ok (.iconst 0, 1) := by decide +kernel
theorem dX11_ever_55 : decode cX11_ever 55 = .ok (.invokevirtual 149, 3) := by decide +kernel
theorem dX11_ever_58 : decode cX11_ever 58 = .ok (.isub, 1) := by decide +kernel
theorem dX11_ever_59 : decode cX11_ever 59 = .ok (.i2l, 1) := by decide +kernel
theorem dX11_ever_60 : decode cX11_ever 60 = .ok (.lmul, 1) := by decide +kernel
theorem dX11_ever_61 : decode cX11_ever 61 = .ok (.lstore 4, 2) := by decide +kernel
theorem dX11_ever_63 : decode cX11_ever 63 = .ok (.lload 6, 2) := by decide +kernel
theorem dX11_ever_65 : decode cX11_ever 65 = .ok (.ldc2_w 97, 3) := by decide +kernel
theorem dX11_ever_68 : decode cX11_ever 68 = .ok (.lmul, 1) := by decide +kernel
theorem dX11_ever_69 : decode cX11_ever 69 = .ok (.lstore 6, 2) := by decide +kernel
theorem dX11_ever_71 : decode cX11_ever 71 = .ok (.iinc 8 1, 3) := by decide +kernel
theorem dX11_ever_74 : decode cX11_ever 74 = .ok (.goto (-33), 3) := by decide +kernel
theorem dX11_ever_77 : decode cX11_ever 77 = .ok (.lload 6, 2) := by decide +kernel
theorem dX11_ever_79 : decode cX11_ever 79 = .ok (.lload 4, 2) := by decide +kernel
theorem dX11_ever_81 : decode cX11_ever 81 = .ok (.lsub, 1) := by decide +kernel
theorem dX11_ever_82 : decode cX11_ever 82 = .ok (.lload 6, 2) := by decide +kernel
theorem dX11_ever_84 : decode cX11_ever 84 = .ok (.iload_n 3, 1) := by decide +kernel
theorem dX11_ever_85 : decode cX11_ever 85 = .ok (.invokestatic 180, 3) := by decide +kernel
theorem dX11_ever_88 : decode cX11_ever 88 = .ok (.lreturn, 1) := by decide +kernel
theorem dX11_draws_0 : decode cX11_draws 0 = .ok (.aload_n 0, 1) := by decide +kernel
theorem dX11_draws_1 : decode cX11_draws 1 = .ok (.aload_n 0, 1) := by decide +kernel
theorem dX11_draws_2 : decode cX11_draws 2 = .ok (.getfield 310, 3) := by decide +kernel
theorem dX11_draws_5 : decode cX11_draws 5 = .ok (.ldc_w 313, 3) := by decide +kernel
theorem dX11_draws_8 : decode cX11_draws 8 = .ok (.imul, 1) := by decide +kernel
theorem dX11_draws_9 : decode cX11_draws 9 = .ok (.sipush 12345, 3) := by decide +kernel
theorem dX11_draws_12 : decode cX11_draws 12 = .ok (.iadd, 1) := by decide +kernel
theorem dX11_draws_13 : decode cX11_draws 13 = .ok (.putfield 310, 3) := by decide +kernel
theorem dX11_draws_16 : decode cX11_draws 16 = .ok (.aload_n 0, 1) := by decide +kernel
theorem dX11_draws_17 : decode cX11_draws 17 = .ok (.getfield 310, 3) := by decide +kernel
theorem dX11_draws_20 : decode cX11_draws 20 = .ok (.bipush 8, 2) := by decide +kernel
theorem dX11_draws_22 : decode cX11_draws 22 = .ok (.iushr, 1) := by decide +kernel
theorem dX11_draws_23 : decode cX11_draws 23 = .ok (.iload_n 1, 1) := by decide +kernel
theorem dX11_draws_24 : decode cX11_draws 24 = .ok (.irem, 1) := by decide +kernel
theorem dX11_draws_25 : decode cX11_draws 25 = .ok (.ireturn, 1) := by decide +kernel
theorem dX11_goesBack_0 : decode cX11_goesBack 0 = .ok (.iload_n 1, 1) := by decide +kernel
theorem dX11_goesBack_1 : decode cX11_goesBack 1 = .ok (.tableswitch 77 0 3 #[31, 33, 35, 45], 31) := by decide +kernel
theorem dX11_goesBack_32 : decode cX11_goesBack 32 = .ok (.iconst 0, 1) := by decide +kernel
theorem dX11_goesBack_33 : decode cX11_goesBack 33 = .ok (.ireturn, 1) := by decide +kernel
theorem dX11_goesBack_34 : decode cX11_goesBack 34 = .ok (.iconst 1, 1) := by decide +kernel
theorem dX11_goesBack_35 : decode cX11_goesBack 35 = .ok (.ireturn, 1) := by decide +kernel
theorem dX11_goesBack_36 : decode cX11_goesBack 36 = .ok (.iload_n 3, 1) := by decide +kernel
theorem dX11_goesBack_37 : decode cX11_goesBack 37 = .ok (.ifCond .ne 7, 3) := by decide +kernel
theorem dX11_goesBack_40 : decode cX11_goesBack 40 = .ok (.iconst 1, 1) := by decide +kernel
theorem dX11_goesBack_41 : decode cX11_goesBack 41 = .ok (.goto 4, 3) := by decide +kernel
theorem dX11_goesBack_44 : decode cX11_goesBack 44 = .ok (.iconst 0, 1) := by decide +kernel
theorem dX11_goesBack_45 : decode cX11_goesBack 45 = .ok (.ireturn, 1) := by decide +kernel
theorem dX11_goesBack_46 : decode cX11_goesBack 46 = .ok (.aload_n 0, 1) := by decide +kernel
theorem dX11_goesBack_47 : decode cX11_goesBack 47 = .ok (.bipush 10, 2) := by decide +kernel
theorem dX11_goesBack_49 : decode cX11_goesBack 49 = .ok (.iload_n 2, 1) := by decide +kernel
theorem dX11_goesBack_50 : decode cX11_goesBack 50 = .ok (.imul, 1) := by decide +kernel
theorem dX11_goesBack_51 : decode cX11_goesBack 51 = .ok (.iload_n 3, 1) := by decide +kernel
theorem dX11_goesBack_52 : decode cX11_goesBack 52 = .ok (.iadd, 1) := by decide +kernel
theorem dX11_goesBack_53 : decode cX11_goesBack 53 = .ok (.iload 4, 2) := by decide +kernel
theorem dX11_goesBack_55 : decode cX11_goesBack 55 = .ok (.invokevirtual 251, 3) := by decide +kernel
theorem dX11_goesBack_58 : decode cX11_goesBack 58 = .ok (.lconst 0, 1) := by decide +kernel
theorem dX11_goesBack_59 : decode cX11_goesBack 59 = .ok (.lcmp, 1) := by decide +kernel
theorem dX11_goesBack_60 : decode cX11_goesBack 60 = .ok (.ifCond .le 16, 3) := by decide +kernel
theorem dX11_goesBack_63 : decode cX11_goesBack 63 = .ok (.aload_n 0, 1) := by decide +kernel
theorem dX11_goesBack_64 : decode cX11_goesBack 64 = .ok (.getfield 162, 3) := by decide +kernel
theorem dX11_goesBack_67 : decode cX11_goesBack 67 = .ok (.lconst 0, 1) := by decide +kernel
theorem dX11_goesBack_68 : decode cX11_goesBack 68 = .ok (.lcmp, 1) := by decide +kernel
theorem dX11_goesBack_69 : decode cX11_goesBack 69 = .ok (.ifCond .le 7, 3) := by decide +kernel
theorem dX11_goesBack_72 : decode cX11_goesBack 72 = .ok (.iconst 1, 1) := by decide +kernel
theorem dX11_goesBack_73 : decode cX11_goesBack 73 = .ok (.goto 4, 3) := by decide +kernel
theorem dX11_goesBack_76 : decode cX11_goesBack 76 = .ok (.iconst 0, 1) := by decide +kernel
theorem dX11_goesBack_77 : decode cX11_goesBack 77 = .ok (.ireturn, 1) := by decide +kernel
theorem dX11_goesBack_78 : decode cX11_goesBack 78 = .ok (.aload_n 0, 1) := by decide +kernel
theorem dX11_goesBack_79 : decode cX11_goesBack 79 = .ok (.aload_n 0, 1) := by decide +kernel
theorem dX11_goesBack_80 : decode cX11_goesBack 80 = .ok (.iload_n 2, 1) := by decide +kernel
theorem dX11_goesBack_81 : decode cX11_goesBack 81 = .ok (.iload_n 3, 1) := by decide +kernel
theorem dX11_goesBack_82 : decode cX11_goesBack 82 = .ok (.invokevirtual 314, 3) := by decide +kernel
theorem dX11_goesBack_85 : decode cX11_goesBack 85 = .ok (.aload_n 0, 1) := by decide +kernel
theorem dX11_goesBack_86 : decode cX11_goesBack 86 = .ok (.iload_n 2, 1) := by decide +kernel
theorem dX11_goesBack_87 : decode cX11_goesBack 87 = .ok (.iconst 3, 1) := by decide +kernel
theorem dX11_goesBack_88 : decode cX11_goesBack 88 = .ok (.invokevirtual 149, 3) := by decide +kernel
theorem dX11_goesBack_91 : decode cX11_goesBack 91 = .ok (.iload 4, 2) := by decide +kernel
theorem dX11_goesBack_93 : decode cX11_goesBack 93 = .ok (.iconst 1, 1) := by decide +kernel
theorem dX11_goesBack_94 : decode cX11_goesBack 94 = .ok (.invokevirtual 279, 3) := by decide +kernel
theorem dX11_goesBack_97 : decode cX11_goesBack 97 = .ok (.ireturn, 1) := by decide +kernel
theorem dX11_drawn_0 : decode cX11_drawn 0 = .ok (.iload_n 2, 1) := by decide +kernel
theorem dX11_drawn_1 : decode cX11_drawn 1 = .ok (.i2l, 1) := by decide +kernel
theorem dX11_drawn_2 : decode cX11_drawn 2 = .ok (.lconst 1, 1) := by decide +kernel
theorem dX11_drawn_3 : decode cX11_drawn 3 = .ok (.ldc2_w 317, 3) := by decide +kernel
theorem dX11_drawn_6 : decode cX11_drawn 6 = .ok (.invokestatic 93, 3) := by decide +kernel
theorem dX11_drawn_9 : decode cX11_drawn 9 = .ok (.ifCond .eq 39, 3) := by decide +kernel
theorem dX11_drawn_12 : decode cX11_drawn 12 = .ok (.iload_n 3, 1) := by decide +kernel
theorem dX11_drawn_13 : decode cX11_drawn 13 = .ok (.ifCond .lt 35, 3) := by decide +kernel
theorem dX11_drawn_16 : decode cX11_drawn 16 = .ok (.aload_n 0, 1) := by decide +kernel
theorem dX11_drawn_17 : decode cX11_drawn 17 = .ok (.iload_n 3, 1) := by decide +kernel
theorem dX11_drawn_18 : decode cX11_drawn 18 = .ok (.sipush 1000, 3) := by decide +kernel
theorem dX11_drawn_21 : decode cX11_drawn 21 = .ok (.idiv, 1) := by decide +kernel
theorem dX11_drawn_22 : decode cX11_drawn 22 = .ok (.i2l, 1) := by decide +kernel
theorem dX11_drawn_23 : decode cX11_drawn 23 = .ok (.invokevirtual 121, 3) := by decide +kernel
theorem dX11_drawn_26 : decode cX11_drawn 26 = .ok (.ifCond .eq 22, 3) := by decide +kernel
theorem dX11_drawn_29 : decode cX11_drawn 29 = .ok (.iload_n 3, 1) := by decide +kernel
theorem dX11_drawn_30 : decode cX11_drawn 30 = .ok (.bipush 10, 2) := by decide +kernel
theorem dX11_drawn_32 : decode cX11_drawn 32 = .ok (.irem, 1) := by decide +kernel
theorem dX11_drawn_33 : decode cX11_drawn 33 = .ok (.iconst 4, 1) := by decide +kernel
theorem dX11_drawn_34 : decode cX11_drawn 34 = .ok (.if_icmp .gt 14, 3) := by decide +kernel
theorem dX11_drawn_37 : decode cX11_drawn 37 = .ok (.iload 4, 2) := by decide +kernel
theorem dX11_drawn_39 : decode cX11_drawn 39 = .ok (.i2l, 1) := by decide +kernel
theorem dX11_drawn_40 : decode cX11_drawn 40 = .ok (.lconst 0, 1) := by decide +kernel
theorem dX11_drawn_41 : decode cX11_drawn 41 = .ok (.lconst 1, 1) := by decide +kernel
theorem dX11_drawn_42 : decode cX11_drawn 42 = .ok (.invokestatic 93, 3) := by decide +kernel
theorem dX11_drawn_45 : decode cX11_drawn 45 = .ok (.ifCond .ne 5, 3) := by decide +kernel
theorem dX11_drawn_48 : decode cX11_drawn 48 = .ok (.iconst (-1), 1) := by decide +kernel
theorem dX11_drawn_49 : decode cX11_drawn 49 = .ok (.ireturn, 1) := by decide +kernel
theorem dX11_drawn_50 : decode cX11_drawn 50 = .ok (.iload_n 3, 1) := by decide +kernel
theorem dX11_drawn_51 : decode cX11_drawn 51 = .ok (.sipush 1000, 3) := by decide +kernel
theorem dX11_drawn_54 : decode cX11_drawn 54 = .ok (.idiv, 1) := by decide +kernel
theorem dX11_drawn_55 : decode cX11_drawn 55 = .ok (.istore 5, 2) := by decide +kernel
theorem dX11_drawn_57 : decode cX11_drawn 57 = .ok (.iload_n 3, 1) := by decide +kernel
theorem dX11_drawn_58 : decode cX11_drawn 58 = .ok (.bipush 10, 2) := by decide +kernel
theorem dX11_drawn_60 : decode cX11_drawn 60 = .ok (.idiv, 1) := by decide +kernel
theorem dX11_drawn_61 : decode cX11_drawn 61 = .ok (.bipush 100, 2) := by decide +kernel
theorem dX11_drawn_63 : decode cX11_drawn 63 = .ok (.irem, 1) := by decide +kernel
theorem dX11_drawn_64 : decode cX11_drawn 64 = .ok (.istore 6, 2) := by decide +kernel
theorem dX11_drawn_66 : decode cX11_drawn 66 = .ok (.aload_n 0, 1) := by decide +kernel
theorem dX11_drawn_67 : decode cX11_drawn 67 = .ok (.iload_n 1, 1) := by decide +kernel
theorem dX11_drawn_68 : decode cX11_drawn 68 = .ok (.putfield 310, 3) := by decide +kernel
theorem dX11_drawn_71 : decode cX11_drawn 71 = .ok (.iconst 0, 1) := by decide +kernel
theorem dX11_drawn_72 : decode cX11_drawn 72 = .ok (.istore 7, 2) := by decide +kernel
theorem dX11_drawn_74 : decode cX11_drawn 74 = .ok (.iconst 0, 1) := by decide +kernel
theorem dX11_drawn_75 : decode cX11_drawn 75 = .ok (.istore 8, 2) := by decide +kernel
theorem dX11_drawn_77 : decode cX11_drawn 77 = .ok (.iconst 0, 1) := by decide +kernel
theorem dX11_drawn_78 : decode cX11_drawn 78 = .ok (.istore 9, 2) := by decide +kernel
theorem dX11_drawn_80 : decode cX11_drawn 80 = .ok (.iload 9, 2) := by decide +kernel
theorem dX11_drawn_82 : decode cX11_drawn 82 = .ok (.iload_n 2, 1) := by decide +kernel
theorem dX11_drawn_83 : decode cX11_drawn 83 = .ok (.if_icmp .ge 140, 3) := by decide +kernel
theorem dX11_drawn_86 : decode cX11_drawn 86 = .ok (.aload_n 0, 1) := by decide +kernel
theorem dX11_drawn_87 : decode cX11_drawn 87 = .ok (.sipush 144, 3) := by decide +kernel
theorem dX11_drawn_90 : decode cX11_drawn 90 = .ok (.invokevirtual 319, 3) := by decide +kernel
theorem dX11_drawn_93 : decode cX11_drawn 93 = .ok (.aload_n 0, 1) := by decide +kernel
theorem dX11_drawn_94 : decode cX11_drawn 94 = .ok (.iload 5, 2) := by decide +kernel
theorem dX11_drawn_96 : decode cX11_drawn 96 = .ok (.iconst 0, 1) := by decide +kernel
theorem dX11_drawn_97 : decode cX11_drawn 97 = .ok (.invokevirtual 149, 3) := by decide +kernel
theorem dX11_drawn_100 : decode cX11_drawn 100 = .ok (.if_icmp .ge 7, 3) := by decide +kernel
theorem dX11_drawn_103 : decode cX11_drawn 103 = .ok (.iconst 1, 1) := by decide +kernel
theorem dX11_drawn_104 : decode cX11_drawn 104 = .ok (.goto 4, 3) := by decide +kernel
theorem dX11_drawn_107 : decode cX11_drawn 107 = .ok (.iconst 0, 1) := by decide +kernel
theorem dX11_drawn_108 : decode cX11_drawn 108 = .ok (.istore 10, 2) := by decide +kernel
theorem dX11_drawn_110 : decode cX11_drawn 110 = .ok (.aload_n 0, 1) := by decide +kernel
theorem dX11_drawn_111 : decode cX11_drawn 111 = .ok (.bipush 12, 2) := by decide +kernel
theorem dX11_drawn_113 : decode cX11_drawn 113 = .ok (.invokevirtual 319, 3) := by decide +kernel
theorem dX11_drawn_116 : decode cX11_drawn 116 = .ok (.iload 10, 2) := by decide +kernel
theorem dX11_drawn_118 : decode cX11_drawn 118 = .ok (.ifCond .eq 12, 3) := by decide +kernel
theorem dX11_drawn_121 : decode cX11_drawn 121 = .ok (.aload_n 0, 1) := by decide +kernel
theorem dX11_drawn_122 : decode cX11_drawn 122 = .ok (.iload 5, 2) := by decide +kernel
theorem dX11_drawn_124 : decode cX11_drawn 124 = .ok (.invokevirtual 152, 3) := by decide +kernel
theorem dX11_drawn_127 : decode cX11_drawn 127 = .ok (.goto 9, 3) := by decide +kernel
theorem dX11_drawn_130 : decode cX11_drawn 130 = .ok (.aload_n 0, 1) := by decide +kernel
theorem dX11_drawn_131 : decode cX11_drawn 131 = .ok (.iload 5, 2) := by decide +kernel
theorem dX11_drawn_133 : decode cX11_drawn 133 = .ok (.invokevirtual 155, 3) := by decide +kernel
theorem dX11_drawn_136 : decode cX11_drawn 136 = .ok (.if_icmp .ge 7, 3) := by decide +kernel
theorem dX11_drawn_139 : decode cX11_drawn 139 = .ok (.iconst 1, 1) := by decide +kernel
theorem dX11_drawn_140 : decode cX11_drawn 140 = .ok (.goto 4, 3) := by decide +kernel
theorem dX11_drawn_143 : decode cX11_drawn 143 = .ok (.iconst 0, 1) := by decide +kernel
theorem dX11_drawn_144 : decode cX11_drawn 144 = .ok (.istore 11, 2) := by decide +kernel
theorem dX11_drawn_146 : decode cX11_drawn 146 = .ok (.aload_n 0, 1) := by decide +kernel
theorem dX11_drawn_147 : decode cX11_drawn 147 = .ok (.iload_n 3, 1) := by decide +kernel
theorem dX11_drawn_148 : decode cX11_drawn 148 = .ok (.bipush 10, 2) := by decide +kernel
theorem dX11_drawn_150 : decode cX11_drawn 150 = .ok (.irem, 1) := by decide +kernel
theorem dX11_drawn_151 : decode cX11_drawn 151 = .ok (.iload 5, 2) := by decide +kernel
theorem dX11_drawn_153 : decode cX11_drawn 153 = .ok (.iload 11, 2) := by decide +kernel
theorem dX11_drawn_155 : decode cX11_drawn 155 = .ok (.iload 6, 2) := by decide +kernel
theorem dX11_drawn_157 : decode cX11_drawn 157 = .ok (.invokevirtual 322, 3) := by decide +kernel
theorem dX11_drawn_160 : decode cX11_drawn 160 = .ok (.istore 12, 2) := by decide +kernel
theorem dX11_drawn_162 : decode cX11_drawn 162 = .ok (.iload 7, 2) := by decide +kernel
theorem dX11_drawn_164 : decode cX11_drawn 164 = .ok (.iload 12, 2) := by decide +kernel
theorem dX11_drawn_166 : decode cX11_drawn 166 = .ok (.ifCond .eq 12, 3) := by decide +kernel
theorem dX11_drawn_169 : decode cX11_drawn 169 = .ok (.aload_n 0, 1) := by decide +kernel
theorem dX11_drawn_170 : decode cX11_drawn 170 = .ok (.iload 6, 2) := by decide +kernel
theorem dX11_drawn_172 : decode cX11_drawn 172 = .ok (.invokevirtual 242, 3) := by decide +kernel
theorem dX11_drawn_175 : decode cX11_drawn 175 = .ok (.goto 19, 3) := by decide +kernel
theorem dX11_drawn_178 : decode cX11_drawn 178 = .ok (.iload 10, 2) := by decide +kernel
theorem dX11_drawn_180 : decode cX11_drawn 180 = .ok (.ifCond .eq 13, 3) := by decide +kernel
theorem dX11_drawn_183 : decode cX11_drawn 183 = .ok (.aload_n 0, 1) := by decide +kernel
theorem dX11_drawn_184 : decode cX11_drawn 184 = .ok (.iload 5, 2) := by decide +kernel
theorem dX11_drawn_186 : decode cX11_drawn 186 = .ok (.iconst 3, 1) := by decide +kernel
theorem dX11_drawn_187 : decode cX11_drawn 187 = .ok (.invokevirtual 149, 3) := by decide +kernel
theorem dX11_drawn_190 : decode cX11_drawn 190 = .ok (.goto 4, 3) := by decide +kernel
theorem dX11_drawn_193 : decode cX11_drawn 193 = .ok (.iconst 0, 1) := by decide +kernel
theorem dX11_drawn_194 : decode cX11_drawn 194 = .ok (.iadd, 1) := by decide +kernel
theorem dX11_drawn_195 : decode cX11_drawn 195 = .ok (.istore 7, 2) := by decide +kernel
theorem dX11_drawn_197 : decode cX11_drawn 197 = .ok (.iload 8, 2) := by decide +kernel
theorem dX11_drawn_199 : decode cX11_drawn 199 = .ok (.iload 12, 2) := by decide +kernel
theorem dX11_drawn_201 : decode cX11_drawn 201 = .ok (.ifCond .eq 12, 3) := by decide +kernel
theorem dX11_drawn_204 : decode cX11_drawn 204 = .ok (.iload 10, 2) := by decide +kernel
theorem dX11_drawn_206 : decode cX11_drawn 206 = .ok (.ifCond .ne 7, 3) := by decide +kernel
theorem dX11_drawn_209 : decode cX11_drawn 209 = .ok (.iconst 1, 1) := by decide +kernel
theorem dX11_drawn_210 : decode cX11_drawn 210 = .ok (.goto 4, 3) := by decide +kernel
theorem dX11_drawn_213 : decode cX11_drawn 213 = .ok (.iconst 0, 1) := by decide +kernel
theorem dX11_drawn_214 : decode cX11_drawn 214 = .ok (.iadd, 1) := by decide +kernel
theorem dX11_drawn_215 : decode cX11_drawn 215 = .ok (.istore 8, 2) := by decide +kernel
theorem dX11_drawn_217 : decode cX11_drawn 217 = .ok (.iinc 9 1, 3) := by decide +kernel
theorem dX11_drawn_220 : decode cX11_drawn 220 = .ok (.goto (-140), 3) := by decide +kernel
theorem dX11_drawn_223 : decode cX11_drawn 223 = .ok (.iload 4, 2) := by decide +kernel
theorem dX11_drawn_225 : decode cX11_drawn 225 = .ok (.ifCond .ne 8, 3) := by decide +kernel
theorem dX11_drawn_228 : decode cX11_drawn 228 = .ok (.iload 7, 2) := by decide +kernel
theorem dX11_drawn_230 : decode cX11_drawn 230 = .ok (.goto 5, 3) := by decide +kernel
theorem dX11_drawn_233 : decode cX11_drawn 233 = .ok (.iload 8, 2) := by decide +kernel
theorem dX11_drawn_235 : decode cX11_drawn 235 = .ok (.ireturn, 1) := by decide +kernel
theorem dX11_isGravel_0 : decode cX11_isGravel 0 = .ok (.iconst 0, 1) := by decide +kernel
theorem dX11_isGravel_1 : decode cX11_isGravel 1 = .ok (.istore_n 2, 1) := by decide +kernel
theorem dX11_isGravel_2 : decode cX11_isGravel 2 = .ok (.iload_n 2, 1) := by decide +kernel
theorem dX11_isGravel_3 : decode cX11_isGravel 3 = .ok (.aload_n 0, 1) := by decide +kernel
theorem dX11_isGravel_4 : decode cX11_isGravel 4 = .ok (.getfield 68, 3) := by decide +kernel
theorem dX11_isGravel_7 : decode cX11_isGravel 7 = .ok (.iload_n 1, 1) := by decide +kernel
theorem dX11_isGravel_8 : decode cX11_isGravel 8 = .ok (.iaload, 1) := by decide +kernel
theorem dX11_isGravel_9 : decode cX11_isGravel 9 = .ok (.if_icmp .ge 44, 3) := by decide +kernel
theorem dX11_isGravel_12 : decode cX11_isGravel 12 = .ok (.aload_n 0, 1) := by decide +kernel
theorem dX11_isGravel_13 : decode cX11_isGravel 13 = .ok (.getfield 71, 3) := by decide +kernel
theorem dX11_isGravel_16 : decode cX11_isGravel 16 = .ok (.bipush 60, 2) := by decide +kernel
theorem dX11_isGravel_18 : decode cX11_isGravel 18 = .ok (.iload_n 1, 1) := by decide +kernel
theorem dX11_isGravel_19 : decode cX11_isGravel 19 = .ok (.imul, 1) := by decide +kernel
theorem dX11_isGravel_20 : decode cX11_isGravel 20 = .ok (.iload_n 2, 1) := by decide +kernel
theorem dX11_isGravel_21 : decode cX11_isGravel 21 = .ok (.iadd, 1) := by decide +kernel
theorem dX11_isGravel_22 : decode cX11_isGravel 22 = .ok (.laload, 1) := by decide +kernel
theorem dX11_isGravel_23 : decode cX11_isGravel 23 = .ok (.lstore_n 3, 1) := by decide +kernel
theorem dX11_isGravel_24 : decode cX11_isGravel 24 = .ok (.lload_n 3, 1) := by decide +kernel
theorem dX11_isGravel_25 : decode cX11_isGravel 25 = .ok (.lconst 0, 1) := by decide +kernel
theorem dX11_isGravel_26 : decode cX11_isGravel 26 = .ok (.iload_n 2, 1) := by decide +kernel
theorem dX11_isGravel_27 : decode cX11_isGravel 27 = .ok (.iconst 2, 1) := by decide +kernel
theorem dX11_isGravel_28 : decode cX11_isGravel 28 = .ok (.irem, 1) := by decide +kernel
theorem dX11_isGravel_29 : decode cX11_isGravel 29 = .ok (.ifCond .ne 7, 3) := by decide +kernel
theorem dX11_isGravel_32 : decode cX11_isGravel 32 = .ok (.lconst 1, 1) := by decide +kernel
theorem dX11_isGravel_33 : decode cX11_isGravel 33 = .ok (.goto 6, 3) := by decide +kernel
theorem dX11_isGravel_36 : decode cX11_isGravel 36 = .ok (.ldc2_w 240, 3) := by decide +kernel
theorem dX11_isGravel_39 : decode cX11_isGravel 39 = .ok (.invokestatic 93, 3) := by decide +kernel
theorem dX11_isGravel_42 : decode cX11_isGravel 42 = .ok (.ifCond .ne 5, 3) := by decide +kernel
theorem dX11_isGravel_45 : decode cX11_isGravel 45 = .ok (.iconst 0, 1) := by decide +kernel
theorem dX11_isGravel_46 : decode cX11_isGravel 46 = .ok (.ireturn, 1) := by decide +kernel
theorem dX11_isGravel_47 : decode cX11_isGravel 47 = .ok (.iinc 2 1, 3) := by decide +kernel
theorem dX11_isGravel_50 : decode cX11_isGravel 50 = .ok (.goto (-48), 3) := by decide +kernel
theorem dX11_isGravel_53 : decode cX11_isGravel 53 = .ok (.aload_n 0, 1) := by decide +kernel
theorem dX11_isGravel_54 : decode cX11_isGravel 54 = .ok (.getfield 68, 3) := by decide +kernel
theorem dX11_isGravel_57 : decode cX11_isGravel 57 = .ok (.iload_n 1, 1) := by decide +kernel
theorem dX11_isGravel_58 : decode cX11_isGravel 58 = .ok (.iaload, 1) := by decide +kernel
theorem dX11_isGravel_59 : decode cX11_isGravel 59 = .ok (.iconst 2, 1) := by decide +kernel
theorem dX11_isGravel_60 : decode cX11_isGravel 60 = .ok (.irem, 1) := by decide +kernel
theorem dX11_isGravel_61 : decode cX11_isGravel 61 = .ok (.ifCond .ne 7, 3) := by decide +kernel
theorem dX11_isGravel_64 : decode cX11_isGravel 64 = .ok (.iconst 1, 1) := by decide +kernel
theorem dX11_isGravel_65 : decode cX11_isGravel 65 = .ok (.goto 4, 3) := by decide +kernel
theorem dX11_isGravel_68 : decode cX11_isGravel 68 = .ok (.iconst 0, 1) := by decide +kernel
theorem dX11_isGravel_69 : decode cX11_isGravel 69 = .ok (.ireturn, 1) := by decide +kernel
theorem dX11_firstOther_0 : decode cX11_firstOther 0 = .ok (.iconst 0, 1) := by decide +kernel
theorem dX11_firstOther_1 : decode cX11_firstOther 1 = .ok (.istore 4, 2) := by decide +kernel
theorem dX11_firstOther_3 : decode cX11_firstOther 3 = .ok (.iconst 2, 1) := by decide +kernel
theorem dX11_firstOther_4 : decode cX11_firstOther 4 = .ok (.iload 4, 2) := by decide +kernel
theorem dX11_firstOther_6 : decode cX11_firstOther 6 = .ok (.imul, 1) := by decide +kernel
theorem dX11_firstOther_7 : decode cX11_firstOther 7 = .ok (.aload_n 0, 1) := by decide +kernel
theorem dX11_firstOther_8 : decode cX11_firstOther 8 = .ok (.getfield 68, 3) := by decide +kernel
theorem dX11_firstOther_11 : decode cX11_firstOther 11 = .ok (.iload_n 1, 1) := by decide +kernel
theorem dX11_firstOther_12 : decode cX11_firstOther 12 = .ok (.iaload, 1) := by decide +kernel
theorem dX11_firstOther_13 : decode cX11_firstOther 13 = .ok (.if_icmp .ge 66, 3) := by decide +kernel
theorem dX11_firstOther_16 : decode cX11_firstOther 16 = .ok (.bipush 60, 2) := by decide +kernel
theorem dX11_firstOther_18 : decode cX11_firstOther 18 = .ok (.iload_n 1, 1) := by decide +kernel
theorem dX11_firstOther_19 : decode cX11_firstOther 19 = .ok (.imul, 1) := by decide +kernel
theorem dX11_firstOther_20 : decode cX11_firstOther 20 = .ok (.iconst 2, 1) := by decide +kernel
theorem dX11_firstOther_21 : decode cX11_firstOther 21 = .ok (.iload 4, 2) := by decide +kernel
theorem dX11_firstOther_23 : decode cX11_firstOther 23 = .ok (.imul, 1) := by decide +kernel
theorem dX11_firstOther_24 : decode cX11_firstOther 24 = .ok (.iadd, 1) := by decide +kernel
theorem dX11_firstOther_25 : decode cX11_firstOther 25 = .ok (.istore 5, 2) := by decide +kernel
theorem dX11_firstOther_27 : decode cX11_firstOther 27 = .ok (.aload_n 0, 1) := by decide +kernel
theorem dX11_firstOther_28 : decode cX11_firstOther 28 = .ok (.iload_n 3, 1) := by decide +kernel
theorem dX11_firstOther_29 : decode cX11_firstOther 29 = .ok (.iload_n 2, 1) := by decide +kernel
theorem dX11_firstOther_30 : decode cX11_firstOther 30 = .ok (.bipush 10, 2) := by decide +kernel
theorem dX11_firstOther_32 : decode cX11_firstOther 32 = .ok (.idiv, 1) := by decide +kernel
theorem dX11_firstOther_33 : decode cX11_firstOther 33 = .ok (.iload_n 2, 1) := by decide +kernel
theorem dX11_firstOther_34 : decode cX11_firstOther 34 = .ok (.bipush 10, 2) := by decide +kernel
theorem dX11_firstOther_36 : decode cX11_firstOther 36 = .ok (.irem, 1) := by decide +kernel
theorem dX11_firstOther_37 : decode cX11_firstOther 37 = .ok (.aload_n 0, 1) := by decide +kernel
theorem dX11_firstOther_38 : decode cX11_firstOther 38 = .ok (.getfield 71, 3) := by decide +kernel
theorem dX11_firstOther_41 : decode cX11_firstOther 41 = .ok (.iload 5, 2) := by decide +kernel
theorem dX11_firstOther_43 : decode cX11_firstOther 43 = .ok (.iconst 1, 1) := by decide +kernel
theorem dX11_firstOther_44 : decode cX11_firstOther 44 = .ok (.iadd, 1) := by decide +kernel
theorem dX11_firstOther_45 : decode cX11_firstOther 45 = .ok (.laload, 1) := by decide +kernel
theorem dX11_firstOther_46 : decode cX11_firstOther 46 = .ok (.l2i, 1) := by decide +kernel
theorem dX11_firstOther_47 : decode cX11_firstOther 47 = .ok (.invokevirtual 322, 3) := by decide +kernel
theorem dX11_firstOther_50 : decode cX11_firstOther 50 = .ok (.aload_n 0, 1) := by decide +kernel
theorem dX11_firstOther_51 : decode cX11_firstOther 51 = .ok (.getfield 71, 3) := by decide +kernel
theorem dX11_firstOther_54 : decode cX11_firstOther 54 = .ok (.iload 5, 2) := by decide +kernel
theorem dX11_firstOther_56 : decode cX11_firstOther 56 = .ok (.laload, 1) := by decide +kernel
theorem dX11_firstOther_57 : decode cX11_firstOther 57 = .ok (.lconst 1, 1) := by decide +kernel
theorem dX11_firstOther_58 : decode cX11_firstOther 58 = .ok (.lcmp, 1) := by decide +kernel
theorem dX11_firstOther_59 : decode cX11_firstOther 59 = .ok (.ifCond .ne 7, 3) := by decide +kernel
theorem dX11_firstOther_62 : decode cX11_firstOther 62 = .ok (.iconst 1, 1) := by decide +kernel
theorem dX11_firstOther_63 : decode cX11_firstOther 63 = .ok (.goto 4, 3) := by decide +kernel
theorem dX11_firstOther_66 : decode cX11_firstOther 66 = .ok (.iconst 0, 1) := by decide +kernel
theorem dX11_firstOther_67 : decode cX11_firstOther 67 = .ok (.if_icmp .eq 6, 3) := by decide +kernel
theorem dX11_firstOther_70 : decode cX11_firstOther 70 = .ok (.iload 4, 2) := by decide +kernel
theorem dX11_firstOther_72 : decode cX11_firstOther 72 = .ok (.ireturn, 1) := by decide +kernel
theorem dX11_firstOther_73 : decode cX11_firstOther 73 = .ok (.iinc 4 1, 3) := by decide +kernel
theorem dX11_firstOther_76 : decode cX11_firstOther 76 = .ok (.goto (-73), 3) := by decide +kernel
theorem dX11_firstOther_79 : decode cX11_firstOther 79 = .ok (.bipush (-2), 2) := by decide +kernel
theorem dX11_firstOther_81 : decode cX11_firstOther 81 = .ok (.ireturn, 1) := by decide +kernel
theorem dX11_isYesNo_0 : decode cX11_isYesNo 0 = .ok (.aload_n 0, 1) := by decide +kernel
theorem dX11_isYesNo_1 : decode cX11_isYesNo 1 = .ok (.iload_n 1, 1) := by decide +kernel
theorem dX11_isYesNo_2 : decode cX11_isYesNo 2 = .ok (.invokevirtual 245, 3) := by decide +kernel
theorem dX11_isYesNo_5 : decode cX11_isYesNo 5 = .ok (.ifCond .eq 15, 3) := by decide +kernel
theorem dX11_isYesNo_8 : decode cX11_isYesNo 8 = .ok (.iload_n 1, 1) := by decide +kernel
theorem dX11_isYesNo_9 : decode cX11_isYesNo 9 = .ok (.bipush 10, 2) := by decide +kernel
theorem dX11_isYesNo_11 : decode cX11_isYesNo 11 = .ok (.irem, 1) := by decide +kernel
theorem dX11_isYesNo_12 : decode cX11_isYesNo 12 = .ok (.iconst 2, 1) := by decide +kernel
theorem dX11_isYesNo_13 : decode cX11_isYesNo 13 = .ok (.if_icmp .ge 7, 3) := by decide +kernel
theorem dX11_isYesNo_16 : decode cX11_isYesNo 16 = .ok (.iconst 1, 1) := by decide +kernel
theorem dX11_isYesNo_17 : decode cX11_isYesNo 17 = .ok (.goto 4, 3) := by decide +kernel
theorem dX11_isYesNo_20 : decode cX11_isYesNo 20 = .ok (.iconst 0, 1) := by decide +kernel
theorem dX11_isYesNo_21 : decode cX11_isYesNo 21 = .ok (.ireturn, 1) := by decide +kernel
theorem dX11_fits_0 : decode cX11_fits 0 = .ok (.aload_n 0, 1) := by decide +kernel
theorem dX11_fits_1 : decode cX11_fits 1 = .ok (.iload_n 1, 1) := by decide +kernel
theorem dX11_fits_2 : decode cX11_fits 2 = .ok (.invokevirtual 305, 3) := by decide +kernel
theorem dX11_fits_5 : decode cX11_fits 5 = .ok (.iconst (-1), 1) := by decide +kernel
theorem dX11_fits_6 : decode cX11_fits 6 = .ok (.if_icmp .eq 11, 3) := by decide +kernel
theorem dX11_fits_9 : decode cX11_fits 9 = .ok (.aload_n 0, 1) := by decide +kernel
theorem dX11_fits_10 : decode cX11_fits 10 = .ok (.iload_n 2, 1) := by decide +kernel
theorem dX11_fits_11 : decode cX11_fits 11 = .ok (.invokevirtual 325, 3) := by decide +kernel
theorem dX11_fits_14 : decode cX11_fits 14 = .ok (.ifCond .ne 5, 3) := by decide +kernel
theorem dX11_fits_17 : decode cX11_fits 17 = .ok (.iconst (-1), 1) := by decide +kernel
theorem dX11_fits_18 : decode cX11_fits 18 = .ok (.ireturn, 1) := by decide +kernel
theorem dX11_fits_19 : decode cX11_fits 19 = .ok (.aload_n 0, 1) := by decide +kernel
theorem dX11_fits_20 : decode cX11_fits 20 = .ok (.iload_n 1, 1) := by decide +kernel
theorem dX11_fits_21 : decode cX11_fits 21 = .ok (.invokevirtual 305, 3) := by decide +kernel
theorem dX11_fits_24 : decode cX11_fits 24 = .ok (.ifCond .ge 9, 3) := by decide +kernel
theorem dX11_fits_27 : decode cX11_fits 27 = .ok (.aload_n 0, 1) := by decide +kernel
theorem dX11_fits_28 : decode cX11_fits 28 = .ok (.iload_n 1, 1) := by decide +kernel
theorem dX11_fits_29 : decode cX11_fits 29 = .ok (.invokevirtual 305, 3) := by decide +kernel
theorem dX11_fits_32 : decode cX11_fits 32 = .ok (.ireturn, 1) := by decide +kernel
theorem dX11_fits_33 : decode cX11_fits 33 = .ok (.aload_n 0, 1) := by decide +kernel
theorem dX11_fits_34 : decode cX11_fits 34 = .ok (.iload_n 1, 1) := by decide +kernel
theorem dX11_fits_35 : decode cX11_fits 35 = .ok (.invokevirtual 328, 3) := by decide +kernel
theorem dX11_fits_38 : decode cX11_fits 38 = .ok (.ifCond .ne 6, 3) := by decide +kernel
theorem dX11_fits_41 : decode cX11_fits 41 = .ok (.bipush (-5), 2) := by decide +kernel
theorem dX11_fits_43 : decode cX11_fits 43 = .ok (.ireturn, 1) := by decide +kernel
theorem dX11_fits_44 : decode cX11_fits 44 = .ok (.iconst 0, 1) := by decide +kernel
theorem dX11_fits_45 : decode cX11_fits 45 = .ok (.istore_n 3, 1) := by decide +kernel
theorem dX11_fits_46 : decode cX11_fits 46 = .ok (.iconst 0, 1) := by decide +kernel
theorem dX11_fits_47 : decode cX11_fits 47 = .ok (.istore 4, 2) := by decide +kernel
theorem dX11_fits_49 : decode cX11_fits 49 = .ok (.iload 4, 2) := by decide +kernel
theorem dX11_fits_51 : decode cX11_fits 51 = .ok (.iconst 5, 1) := by decide +kernel
theorem dX11_fits_52 : decode cX11_fits 52 = .ok (.if_icmp .ge 31, 3) := by decide +kernel
theorem dX11_fits_55 : decode cX11_fits 55 = .ok (.iload_n 3, 1) := by decide +kernel
theorem dX11_fits_56 : decode cX11_fits 56 = .ok (.aload_n 0, 1) := by decide +kernel
theorem dX11_fits_57 : decode cX11_fits 57 = .ok (.iload_n 1, 1) := by decide +kernel
theorem dX11_fits_58 : decode cX11_fits 58 = .ok (.iload_n 2, 1) := by decide +kernel
theorem dX11_fits_59 : decode cX11_fits 59 = .ok (.iload 4, 2) := by decide +kernel
theorem dX11_fits_61 : decode cX11_fits 61 = .ok (.invokevirtual 331, 3) := by decide +kernel
theorem dX11_fits_64 : decode cX11_fits 64 = .ok (.ifCond .ge 10, 3) := by decide +kernel
theorem dX11_fits_67 : decode cX11_fits 67 = .ok (.iconst 1, 1) := by decide +kernel
theorem dX11_fits_68 : decode cX11_fits 68 = .ok (.iload 4, 2) := by decide +kernel
theorem dX11_fits_70 : decode cX11_fits 70 = .ok (.ishl, 1) := by decide +kernel
theorem dX11_fits_71 : decode cX11_fits 71 = .ok (.goto 4, 3) := by decide +kernel
theorem dX11_fits_74 : decode cX11_fits 74 = .ok (.iconst 0, 1) := by decide +kernel
theorem dX11_fits_75 : decode cX11_fits 75 = .ok (.ior, 1) := by decide +kernel
theorem dX11_fits_76 : decode cX11_fits 76 = .ok (.istore_n 3, 1) := by decide +kernel
theorem dX11_fits_77 : decode cX11_fits 77 = .ok (.iinc 4 1, 3) := by decide +kernel
theorem dX11_fits_80 : decode cX11_fits 80 = .ok (.goto (-31), 3) := by decide +kernel
theorem dX11_fits_83 : decode cX11_fits 83 = .ok (.iload_n 3, 1) := by decide +kernel
theorem dX11_fits_84 : decode cX11_fits 84 = .ok (.ireturn, 1) := by decide +kernel
theorem dX11_when_0 : decode cX11_when 0 = .ok (.aload_n 0, 1) := by decide +kernel
theorem dX11_when_1 : decode cX11_when 1 = .ok (.iload_n 1, 1) := by decide +kernel
theorem dX11_when_2 : decode cX11_when 2 = .ok (.invokevirtual 305, 3) := by decide +kernel
theorem dX11_when_5 : decode cX11_when 5 = .ok (.iconst (-1), 1) := by decide +kernel
theorem dX11_when_6 : decode cX11_when 6 = .ok (.if_icmp .eq 23, 3) := by decide +kernel
theorem dX11_when_9 : decode cX11_when 9 = .ok (.aload_n 0, 1) := by decide +kernel
theorem dX11_when_10 : decode cX11_when 10 = .ok (.iload_n 2, 1) := by decide +kernel
theorem dX11_when_11 : decode cX11_when 11 = .ok (.invokevirtual 325, 3) := by decide +kernel
theorem dX11_when_14 : decode cX11_when 14 = .ok (.ifCond .eq 15, 3) := by decide +kernel
theorem dX11_when_17 : decode cX11_when 17 = .ok (.iload_n 3, 1) := by decide +kernel
theorem dX11_when_18 : decode cX11_when 18 = .ok (.i2l, 1) := by decide +kernel
theorem dX11_when_19 : decode cX11_when 19 = .ok (.lconst 0, 1) := by decide +kernel
theorem dX11_when_20 : decode cX11_when 20 = .ok (.ldc2_w 334, 3) := by decide +kernel
theorem dX11_when_23 : decode cX11_when 23 = .ok (.invokestatic 93, 3) := by decide +kernel
theorem dX11_when_26 : decode cX11_when 26 = .ok (.ifCond .ne 5, 3) := by decide +kernel
theorem dX11_when_29 : decode cX11_when 29 = .ok (.iconst (-1), 1) := by decide +kernel
theorem dX11_when_30 : decode cX11_when 30 = .ok (.ireturn, 1) := by decide +kernel
theorem dX11_when_31 : decode cX11_when 31 = .ok (.aload_n 0, 1) := by decide +kernel
theorem dX11_when_32 : decode cX11_when 32 = .ok (.iload_n 1, 1) := by decide +kernel
theorem dX11_when_33 : decode cX11_when 33 = .ok (.invokevirtual 305, 3) := by decide +kernel
theorem dX11_when_36 : decode cX11_when 36 = .ok (.ifCond .ge 9, 3) := by decide +kernel
theorem dX11_when_39 : decode cX11_when 39 = .ok (.aload_n 0, 1) := by decide +kernel
theorem dX11_when_40 : decode cX11_when 40 = .ok (.iload_n 1, 1) := by decide +kernel
theorem dX11_when_41 : decode cX11_when 41 = .ok (.invokevirtual 305, 3) := by decide +kernel
theorem dX11_when_44 : decode cX11_when 44 = .ok (.ireturn, 1) := by decide +kernel
theorem dX11_when_45 : decode cX11_when 45 = .ok (.aload_n 0, 1) := by decide +kernel
theorem dX11_when_46 : decode cX11_when 46 = .ok (.iload_n 1, 1) := by decide +kernel
theorem dX11_when_47 : decode cX11_when 47 = .ok (.invokevirtual 328, 3) := by decide +kernel
theorem dX11_when_50 : decode cX11_when 50 = .ok (.ifCond .eq 13, 3) := by decide +kernel
theorem dX11_when_53 : decode cX11_when 53 = .ok (.aload_n 0, 1) := by decide +kernel
theorem dX11_when_54 : decode cX11_when 54 = .ok (.iload_n 1, 1) := by decide +kernel
theorem dX11_when_55 : decode cX11_when 55 = .ok (.iload_n 2, 1) := by decide +kernel
theorem dX11_when_56 : decode cX11_when 56 = .ok (.iload_n 3, 1) := by decide +kernel
theorem dX11_when_57 : decode cX11_when 57 = .ok (.invokevirtual 331, 3) := by decide +kernel
theorem dX11_when_60 : decode cX11_when 60 = .ok (.goto 5, 3) := by decide +kernel
theorem dX11_when_63 : decode cX11_when 63 = .ok (.bipush (-5), 2) := by decide +kernel
theorem dX11_when_65 : decode cX11_when 65 = .ok (.ireturn, 1) := by decide +kernel
theorem dX11_isSo_0 : decode cX11_isSo 0 = .ok (.iconst 3, 1) := by decide +kernel
theorem dX11_isSo_1 : decode cX11_isSo 1 = .ok (.iload_n 2, 1) := by decide +kernel
theorem dX11_isSo_2 : decode cX11_isSo 2 = .ok (.imul, 1) := by decide +kernel
theorem dX11_isSo_3 : decode cX11_isSo 3 = .ok (.iconst 2, 1) := by decide +kernel
theorem dX11_isSo_4 : decode cX11_isSo 4 = .ok (.iadd, 1) := by decide +kernel
theorem dX11_isSo_5 : decode cX11_isSo 5 = .ok (.aload_n 0, 1) := by decide +kernel
theorem dX11_isSo_6 : decode cX11_isSo 6 = .ok (.getfield 68, 3) := by decide +kernel
theorem dX11_isSo_9 : decode cX11_isSo 9 = .ok (.iload_n 1, 1) := by decide +kernel
theorem dX11_isSo_10 : decode cX11_isSo 10 = .ok (.iaload, 1) := by decide +kernel
theorem dX11_isSo_11 : decode cX11_isSo 11 = .ok (.if_icmp .lt 5, 3) := by decide +kernel
theorem dX11_isSo_14 : decode cX11_isSo 14 = .ok (.iconst 0, 1) := by decide +kernel
theorem dX11_isSo_15 : decode cX11_isSo 15 = .ok (.ireturn, 1) := by decide +kernel
theorem dX11_isSo_16 : decode cX11_isSo 16 = .ok (.bipush 60, 2) := by decide +kernel
theorem dX11_isSo_18 : decode cX11_isSo 18 = .ok (.iload_n 1, 1) := by decide +kernel
theorem dX11_isSo_19 : decode cX11_isSo 19 = .ok (.imul, 1) := by decide +kernel
theorem dX11_isSo_20 : decode cX11_isSo 20 = .ok (.iconst 3, 1) := by decide +kernel
theorem dX11_isSo_21 : decode cX11_isSo 21 = .ok (.iload_n 2, 1) := by decide +kernel
theorem dX11_isSo_22 : decode cX11_isSo 22 = .ok (.imul, 1) := by decide +kernel
theorem dX11_isSo_23 : decode cX11_isSo 23 = .ok (.iadd, 1) := by decide +kernel
theorem dX11_isSo_24 : decode cX11_isSo 24 = .ok (.istore_n 3, 1) := by decide +kernel
theorem dX11_isSo_25 : decode cX11_isSo 25 = .ok (.aload_n 0, 1) := by decide +kernel
theorem dX11_isSo_26 : decode cX11_isSo 26 = .ok (.aload_n 0, 1) := by decide +kernel
theorem dX11_isSo_27 : decode cX11_isSo 27 = .ok (.getfield 71, 3) := by decide +kernel
theorem dX11_isSo_30 : decode cX11_isSo 30 = .ok (.iload_n 3, 1) := by decide +kernel
theorem dX11_isSo_31 : decode cX11_isSo 31 = .ok (.laload, 1) := by decide +kernel
theorem dX11_isSo_32 : decode cX11_isSo 32 = .ok (.invokevirtual 121, 3) := by decide +kernel
theorem dX11_isSo_35 : decode cX11_isSo 35 = .ok (.ifCond .eq 42, 3) := by decide +kernel
theorem dX11_isSo_38 : decode cX11_isSo 38 = .ok (.aload_n 0, 1) := by decide +kernel
theorem dX11_isSo_39 : decode cX11_isSo 39 = .ok (.getfield 71, 3) := by decide +kernel
theorem dX11_isSo_42 : decode cX11_isSo 42 = .ok (.iload_n 3, 1) := by decide +kernel
theorem dX11_isSo_43 : decode cX11_isSo 43 = .ok (.iconst 1, 1) := by decide +kernel
theorem dX11_isSo_44 : decode cX11_isSo 44 = .ok (.iadd, 1) := by decide +kernel
theorem dX11_isSo_45 : decode cX11_isSo 45 = .ok (.laload, 1) := by decide +kernel
theorem dX11_isSo_46 : decode cX11_isSo 46 = .ok (.lconst 0, 1) := by decide +kernel
theorem dX11_isSo_47 : decode cX11_isSo 47 = .ok (.lconst 1, 1) := by decide +kernel
theorem dX11_isSo_48 : decode cX11_isSo 48 = .ok (.invokestatic 93, 3) := by decide +kernel
theorem dX11_isSo_51 : decode cX11_isSo 51 = .ok (.ifCond .eq 26, 3) := by decide +kernel
theorem dX11_isSo_54 : decode cX11_isSo 54 = .ok (.aload_n 0, 1) := by decide +kernel
theorem dX11_isSo_55 : decode cX11_isSo 55 = .ok (.aload_n 0, 1) := by decide +kernel
theorem dX11_isSo_56 : decode cX11_isSo 56 = .ok (.getfield 71, 3) := by decide +kernel
theorem dX11_isSo_59 : decode cX11_isSo 59 = .ok (.iload_n 3, 1) := by decide +kernel
theorem dX11_isSo_60 : decode cX11_isSo 60 = .ok (.laload, 1) := by decide +kernel
theorem dX11_isSo_61 : decode cX11_isSo 61 = .ok (.l2i, 1) := by decide +kernel
theorem dX11_isSo_62 : decode cX11_isSo 62 = .ok (.aload_n 0, 1) := by decide +kernel
theorem dX11_isSo_63 : decode cX11_isSo 63 = .ok (.getfield 71, 3) := by decide +kernel
theorem dX11_isSo_66 : decode cX11_isSo 66 = .ok (.iload_n 3, 1) := by decide +kernel
theorem dX11_isSo_67 : decode cX11_isSo 67 = .ok (.iconst 1, 1) := by decide +kernel
theorem dX11_isSo_68 : decode cX11_isSo 68 = .ok (.iadd, 1) := by decide +kernel
theorem dX11_isSo_69 : decode cX11_isSo 69 = .ok (.laload, 1) := by decide +kernel
theorem dX11_isSo_70 : decode cX11_isSo 70 = .ok (.l2i, 1) := by decide +kernel
theorem dX11_isSo_71 : decode cX11_isSo 71 = .ok (.invokevirtual 176, 3) := by decide +kernel
theorem dX11_isSo_74 : decode cX11_isSo 74 = .ok (.ifCond .ne 5, 3) := by decide +kernel
theorem dX11_isSo_77 : decode cX11_isSo 77 = .ok (.iconst 0, 1) := by decide +kernel
theorem dX11_isSo_78 : decode cX11_isSo 78 = .ok (.ireturn, 1) := by decide +kernel
theorem dX11_isSo_79 : decode cX11_isSo 79 = .ok (.ldc2_w 97, 3) := by decide +kernel
theorem dX11_isSo_82 : decode cX11_isSo 82 = .ok (.aload_n 0, 1) := by decide +kernel
theorem dX11_isSo_83 : decode cX11_isSo 83 = .ok (.getfield 158, 3) := by decide +kernel
theorem dX11_isSo_86 : decode cX11_isSo 86 = .ok (.lmul, 1) := by decide +kernel
theorem dX11_isSo_87 : decode cX11_isSo 87 = .ok (.aload_n 0, 1) := by decide +kernel
theorem dX11_isSo_88 : decode cX11_isSo 88 = .ok (.getfield 162, 3) := by decide +kernel
theorem dX11_isSo_91 : decode cX11_isSo 91 = .ok (.ldiv, 1) := by decide +kernel
theorem dX11_isSo_92 : decode cX11_isSo 92 = .ok (.aload_n 0, 1) := by decide +kernel
theorem dX11_isSo_93 : decode cX11_isSo 93 = .ok (.getfield 71, 3) := by decide +kernel
theorem dX11_isSo_96 : decode cX11_isSo 96 = .ok (.iload_n 3, 1) := by decide +kernel
theorem dX11_isSo_97 : decode cX11_isSo 97 = .ok (.iconst 2, 1) := by decide +kernel
theorem dX11_isSo_98 : decode cX11_isSo 98 = .ok (.iadd, 1) := by decide +kernel
theorem dX11_isSo_99 : decode cX11_isSo 99 = .ok (.laload, 1) := by decide +kernel
theorem dX11_isSo_100 : decode cX11_isSo 100 = .ok (.lcmp, 1) := by decide +kernel
theorem dX11_isSo_101 : decode cX11_isSo 101 = .ok (.ifCond .ne 7, 3) := by decide +kernel
theorem dX11_isSo_104 : decode cX11_isSo 104 = .ok (.iconst 1, 1) := by decide +kernel
theorem dX11_isSo_105 : decode cX11_isSo 105 = .ok (.goto 4, 3) := by decide +kernel
theorem dX11_isSo_108 : decode cX11_isSo 108 = .ok (.iconst 0, 1) := by decide +kernel
theorem dX11_isSo_109 : decode cX11_isSo 109 = .ok (.ireturn, 1) := by decide +kernel
theorem dX11_judge_0 : decode cX11_judge 0 = .ok (.iload_n 1, 1) := by decide +kernel
theorem dX11_judge_1 : decode cX11_judge 1 = .ok (.invokestatic 105, 3) := by decide +kernel
theorem dX11_judge_4 : decode cX11_judge 4 = .ok (.ifCond .ne 5, 3) := by decide +kernel
theorem dX11_judge_7 : decode cX11_judge 7 = .ok (.iconst (-1), 1) := by decide +kernel
theorem dX11_judge_8 : decode cX11_judge 8 = .ok (.ireturn, 1) := by decide +kernel
theorem dX11_judge_9 : decode cX11_judge 9 = .ok (.aload_n 0, 1) := by decide +kernel
theorem dX11_judge_10 : decode cX11_judge 10 = .ok (.getfield 65, 3) := by decide +kernel
theorem dX11_judge_13 : decode cX11_judge 13 = .ok (.iload_n 1, 1) := by decide +kernel
theorem dX11_judge_14 : decode cX11_judge 14 = .ok (.iaload, 1) := by decide +kernel
theorem dX11_judge_15 : decode cX11_judge 15 = .ok (.ifCond .ge 6, 3) := by decide +kernel
theorem dX11_judge_18 : decode cX11_judge 18 = .ok (.bipush (-11), 2) := by decide +kernel
theorem dX11_judge_20 : decode cX11_judge 20 = .ok (.ireturn, 1) := by decide +kernel
theorem dX11_judge_21 : decode cX11_judge 21 = .ok (.aload_n 0, 1) := by decide +kernel
theorem dX11_judge_22 : decode cX11_judge 22 = .ok (.getfield 65, 3) := by decide +kernel
theorem dX11_judge_25 : decode cX11_judge 25 = .ok (.iload_n 1, 1) := by decide +kernel
theorem dX11_judge_26 : decode cX11_judge 26 = .ok (.iaload, 1) := by decide +kernel
theorem dX11_judge_27 : decode cX11_judge 27 = .ok (.bipush 51, 2) := by decide +kernel
theorem dX11_judge_29 : decode cX11_judge 29 = .ok (.if_icmp .eq 6, 3) := by decide +kernel
theorem dX11_judge_32 : decode cX11_judge 32 = .ok (.bipush (-12), 2) := by decide +kernel
theorem dX11_judge_34 : decode cX11_judge 34 = .ok (.ireturn, 1) := by decide +kernel
theorem dX11_judge_35 : decode cX11_judge 35 = .ok (.iconst 0, 1) := by decide +kernel
theorem dX11_judge_36 : decode cX11_judge 36 = .ok (.istore_n 2, 1) := by decide +kernel
theorem dX11_judge_37 : decode cX11_judge 37 = .ok (.iconst 3, 1) := by decide +kernel
theorem dX11_judge_38 : decode cX11_judge 38 = .ok (.iload_n 2, 1) := by decide +kernel
theorem dX11_judge_39 : decode cX11_judge 39 = .ok (.imul, 1) := by decide +kernel
theorem dX11_judge_40 : decode cX11_judge 40 = .ok (.aload_n 0, 1) := by decide +kernel
theorem dX11_judge_41 : decode cX11_judge 41 = .ok (.getfield 68, 3) := by decide +kernel
theorem dX11_judge_44 : decode cX11_judge 44 = .ok (.iload_n 1, 1) := by decide +kernel
theorem dX11_judge_45 : decode cX11_judge 45 = .ok (.iaload, 1) := by decide +kernel
theorem dX11_judge_46 : decode cX11_judge 46 = .ok (.if_icmp .ge 20, 3) := by decide +kernel
theorem dX11_judge_49 : decode cX11_judge 49 = .ok (.aload_n 0, 1) := by decide +kernel
theorem dX11_judge_50 : decode cX11_judge 50 = .ok (.iload_n 1, 1) := by decide +kernel
theorem dX11_judge_51 : decode cX11_judge 51 = .ok (.iload_n 2, 1) := by decide +kernel
theorem dX11_judge_52 : decode cX11_judge 52 = .ok (.invokevirtual 336, 3) := by decide +kernel
theorem dX11_judge_55 : decode cX11_judge 55 = .ok (.ifCond .ne 5, 3) := by decide +kernel
theorem dX11_judge_58 : decode cX11_judge 58 = .ok (.iload_n 2, 1) := by decide +kernel
theorem dX11_judge_59 : decode cX11_judge 59 = .ok (.ireturn, 1) := by decide +kernel
theorem dX11_judge_60 : decode cX11_judge 60 = .ok (.iinc 2 1, 3) := by decide +kernel
theorem dX11_judge_63 : decode cX11_judge 63 = .ok (.goto (-26), 3) := by decide +kernel
theorem dX11_judge_66 : decode cX11_judge 66 = .ok (.bipush (-2), 2) := by decide +kernel
theorem dX11_judge_68 : decode cX11_judge 68 = .ok (.ireturn, 1) := by decide +kernel
theorem dX11_morning_0 : decode cX11_morning 0 = .ok (.aload_n 0, 1) := by decide +kernel
theorem dX11_morning_1 : decode cX11_morning 1 = .ok (.iload_n 1, 1) := by decide +kernel
theorem dX11_morning_2 : decode cX11_morning 2 = .ok (.i2l, 1) := by decide +kernel
theorem dX11_morning_3 : decode cX11_morning 3 = .ok (.invokevirtual 121, 3) := by decide +kernel
theorem dX11_morning_6 : decode cX11_morning 6 = .ok (.ifCond .ne 5, 3) := by decide +kernel
theorem dX11_morning_9 : decode cX11_morning 9 = .ok (.iconst (-1), 1) := by decide +kernel
theorem dX11_morning_10 : decode cX11_morning 10 = .ok (.ireturn, 1) := by decide +kernel
theorem dX11_morning_11 : decode cX11_morning 11 = .ok (.aload_n 0, 1) := by decide +kernel
theorem dX11_morning_12 : decode cX11_morning 12 = .ok (.getfield 81, 3) := by decide +kernel
theorem dX11_morning_15 : decode cX11_morning 15 = .ok (.ifCond .lt 6, 3) := by decide +kernel
theorem dX11_morning_18 : decode cX11_morning 18 = .ok (.bipush (-5), 2) := by decide +kernel
theorem dX11_morning_20 : decode cX11_morning 20 = .ok (.ireturn, 1) := by decide +kernel
theorem dX11_morning_21 : decode cX11_morning 21 = .ok (.aload_n 0, 1) := by decide +kernel
theorem dX11_morning_22 : decode cX11_morning 22 = .ok (.iload_n 2, 1) := by decide +kernel
theorem dX11_morning_23 : decode cX11_morning 23 = .ok (.putfield 310, 3) := by decide +kernel
theorem dX11_morning_26 : decode cX11_morning 26 = .ok (.aload_n 0, 1) := by decide +kernel
theorem dX11_morning_27 : decode cX11_morning 27 = .ok (.aload_n 0, 1) := by decide +kernel
theorem dX11_morning_28 : decode cX11_morning 28 = .ok (.sipush 144, 3) := by decide +kernel
theorem dX11_morning_31 : decode cX11_morning 31 = .ok (.invokevirtual 319, 3) := by decide +kernel
theorem dX11_morning_34 : decode cX11_morning 34 = .ok (.aload_n 0, 1) := by decide +kernel
theorem dX11_morning_35 : decode cX11_morning 35 = .ok (.iload_n 1, 1) := by decide +kernel
theorem dX11_morning_36 : decode cX11_morning 36 = .ok (.iconst 0, 1) := by decide +kernel
theorem dX11_morning_37 : decode cX11_morning 37 = .ok (.invokevirtual 149, 3) := by decide +kernel
theorem dX11_morning_40 : decode cX11_morning 40 = .ok (.if_icmp .ge 7, 3) := by decide +kernel
theorem dX11_morning_43 : decode cX11_morning 43 = .ok (.iconst 1, 1) := by decide +kernel
theorem dX11_morning_44 : decode cX11_morning 44 = .ok (.goto 4, 3) := by decide +kernel
theorem dX11_morning_47 : decode cX11_morning 47 = .ok (.iconst 0, 1) := by decide +kernel
theorem dX11_morning_48 : decode cX11_morning 48 = .ok (.putfield 339, 3) := by decide +kernel
theorem dX11_morning_51 : decode cX11_morning 51 = .ok (.aload_n 0, 1) := by decide +kernel
theorem dX11_morning_52 : decode cX11_morning 52 = .ok (.bipush 12, 2) := by decide +kernel
theorem dX11_morning_54 : decode cX11_morning 54 = .ok (.invokevirtual 319, 3) := by decide +kernel
theorem dX11_morning_57 : decode cX11_morning 57 = .ok (.aload_n 0, 1) := by decide +kernel
theorem dX11_morning_58 : decode cX11_morning 58 = .ok (.getfield 339, 3) := by decide +kernel
theorem dX11_morning_61 : decode cX11_morning 61 = .ok (.ifCond .eq 11, 3) := by decide +kernel
theorem dX11_morning_64 : decode cX11_morning 64 = .ok (.aload_n 0, 1) := by decide +kernel
theorem dX11_morning_65 : decode cX11_morning 65 = .ok (.iload_n 1, 1) := by decide +kernel
theorem dX11_morning_66 : decode cX11_morning 66 = .ok (.invokevirtual 152, 3) := by decide +kernel
theorem dX11_morning_69 : decode cX11_morning 69 = .ok (.goto 8, 3) := by decide +kernel
theorem dX11_morning_72 : decode cX11_morning 72 = .ok (.aload_n 0, 1) := by decide +kernel
theorem dX11_morning_73 : decode cX11_morning 73 = .ok (.iload_n 1, 1) := by decide +kernel
theorem dX11_morning_74 : decode cX11_morning 74 = .ok (.invokevirtual 155, 3) := by decide +kernel
theorem dX11_morning_77 : decode cX11_morning 77 = .ok (.if_icmp .ge 7, 3) := by decide +kernel
theorem dX11_morning_80 : decode cX11_morning 80 = .ok (.iconst 1, 1) := by decide +kernel
theorem dX11_morning_81 : decode cX11_morning 81 = .ok (.goto 4, 3) := by decide +kernel
theorem dX11_morning_84 : decode cX11_morning 84 = .ok (.iconst 0, 1) := by decide +kernel
theorem dX11_morning_85 : decode cX11_morning 85 = .ok (.istore_n 3, 1) := by decide +kernel
theorem dX11_morning_86 : decode cX11_morning 86 = .ok (.aload_n 0, 1) := by decide +kernel
theorem dX11_morning_87 : decode cX11_morning 87 = .ok (.iload_n 1, 1) := by decide +kernel
theorem dX11_morning_88 : decode cX11_morning 88 = .ok (.putfield 81, 3) := by decide +kernel
theorem dX11_morning_91 : decode cX11_morning 91 = .ok (.aload_n 0, 1) := by decide +kernel
theorem dX11_morning_92 : decode cX11_morning 92 = .ok (.iload_n 1, 1) := by decide +kernel
theorem dX11_morning_93 : decode cX11_morning 93 = .ok (.iconst 4, 1) := by decide +kernel
theorem dX11_morning_94 : decode cX11_morning 94 = .ok (.invokevirtual 149, 3) := by decide +kernel
theorem dX11_morning_97 : decode cX11_morning 97 = .ok (.iconst 1, 1) := by decide +kernel
theorem dX11_morning_98 : decode cX11_morning 98 = .ok (.if_icmp .ne 35, 3) := by decide +kernel
theorem dX11_morning_101 : decode cX11_morning 101 = .ok (.aload_n 0, 1) := by decide +kernel
theorem dX11_morning_102 : decode cX11_morning 102 = .ok (.getfield 24, 3) := by decide +kernel
theorem dX11_morning_105 : decode cX11_morning 105 = .ok (.iload_n 1, 1) := by decide +kernel
theorem dX11_morning_106 : decode cX11_morning 106 = .ok (.dup2, 1) := by decide +kernel
theorem dX11_morning_107 : decode cX11_morning 107 = .ok (.iaload, 1) := by decide +kernel
theorem dX11_morning_108 : decode cX11_morning 108 = .ok (.aload_n 0, 1) := by decide +kernel
theorem dX11_morning_109 : decode cX11_morning 109 = .ok (.getfield 24, 3) := by decide +kernel
theorem dX11_morning_112 : decode cX11_morning 112 = .ok (.iload_n 1, 1) := by decide +kernel
theorem dX11_morning_113 : decode cX11_morning 113 = .ok (.iaload, 1) := by decide +kernel
theorem dX11_morning_114 : decode cX11_morning 114 = .ok (.bipush 12, 2) := by decide +kernel
theorem dX11_morning_116 : decode cX11_morning 116 = .ok (.if_icmp .ge 7, 3) := by decide +kernel
theorem dX11_morning_119 : decode cX11_morning 119 = .ok (.iconst 1, 1) := by decide +kernel
theorem dX11_morning_120 : decode cX11_morning 120 = .ok (.goto 4, 3) := by decide +kernel
theorem dX11_morning_123 : decode cX11_morning 123 = .ok (.iconst 0, 1) := by decide +kernel
theorem dX11_morning_124 : decode cX11_morning 124 = .ok (.iadd, 1) := by decide +kernel
theorem dX11_morning_125 : decode cX11_morning 125 = .ok (.iastore, 1) := by decide +kernel
theorem dX11_morning_126 : decode cX11_morning 126 = .ok (.aload_n 0, 1) := by decide +kernel
theorem dX11_morning_127 : decode cX11_morning 127 = .ok (.getfield 27, 3) := by decide +kernel
theorem dX11_morning_130 : decode cX11_morning 130 = .ok (.iload_n 1, 1) := by decide +kernel
theorem dX11_morning_131 : decode cX11_morning 131 = .ok (.iconst 1, 1) := by decide +kernel
theorem dX11_morning_132 : decode cX11_morning 132 = .ok (.bastore, 1) := by decide +kernel
theorem dX11_morning_133 : decode cX11_morning 133 = .ok (.iload_n 3, 1) := by decide +kernel
theorem dX11_morning_134 : decode cX11_morning 134 = .ok (.ireturn, 1) := by decide +kernel
theorem dX11_isOver_0 : decode cX11_isOver 0 = .ok (.aload_n 0, 1) := by decide +kernel
theorem dX11_isOver_1 : decode cX11_isOver 1 = .ok (.getfield 53, 3) := by decide +kernel
theorem dX11_isOver_4 : decode cX11_isOver 4 = .ok (.iconst 0, 1) := by decide +kernel
theorem dX11_isOver_5 : decode cX11_isOver 5 = .ok (.dup2, 1) := by decide +kernel
theorem dX11_isOver_6 : decode cX11_isOver 6 = .ok (.iaload, 1) := by decide +kernel
theorem dX11_isOver_7 : decode cX11_isOver 7 = .ok (.iconst 1, 1) := by decide +kernel
theorem dX11_isOver_8 : decode cX11_isOver 8 = .ok (.iadd, 1) := by decide +kernel
theorem dX11_isOver_9 : decode cX11_isOver 9 = .ok (.iastore, 1) := by decide +kernel
theorem dX11_isOver_10 : decode cX11_isOver 10 = .ok (.aload_n 0, 1) := by decide +kernel
theorem dX11_isOver_11 : decode cX11_isOver 11 = .ok (.getfield 53, 3) := by decide +kernel
theorem dX11_isOver_14 : decode cX11_isOver 14 = .ok (.iconst 3, 1) := by decide +kernel
theorem dX11_isOver_15 : decode cX11_isOver 15 = .ok (.dup2, 1) := by decide +kernel
theorem dX11_isOver_16 : decode cX11_isOver 16 = .ok (.iaload, 1) := by decide +kernel
theorem dX11_isOver_17 : decode cX11_isOver 17 = .ok (.iload_n 1, 1) := by decide +kernel
theorem dX11_isOver_18 : decode cX11_isOver 18 = .ok (.iadd, 1) := by decide +kernel
theorem dX11_isOver_19 : decode cX11_isOver 19 = .ok (.iastore, 1) := by decide +kernel
theorem dX11_isOver_20 : decode cX11_isOver 20 = .ok (.aload_n 0, 1) := by decide +kernel
theorem dX11_isOver_21 : decode cX11_isOver 21 = .ok (.getfield 53, 3) := by decide +kernel
theorem dX11_isOver_24 : decode cX11_isOver 24 = .ok (.iconst 4, 1) := by decide +kernel
theorem dX11_isOver_25 : decode cX11_isOver 25 = .ok (.iload_n 1, 1) := by decide +kernel
theorem dX11_isOver_26 : decode cX11_isOver 26 = .ok (.aload_n 0, 1) := by decide +kernel
theorem dX11_isOver_27 : decode cX11_isOver 27 = .ok (.getfield 53, 3) := by decide +kernel
theorem dX11_isOver_30 : decode cX11_isOver 30 = .ok (.iconst 4, 1) := by decide +kernel
theorem dX11_isOver_31 : decode cX11_isOver 31 = .ok (.iaload, 1) := by decide +kernel
theorem dX11_isOver_32 : decode cX11_isOver 32 = .ok (.if_icmp .le 7, 3) := by decide +kernel
theorem dX11_isOver_35 : decode cX11_isOver 35 = .ok (.iload_n 1, 1) := by decide +kernel
theorem dX11_isOver_36 : decode cX11_isOver 36 = .ok (.goto 9, 3) := by decide +kernel
theorem dX11_isOver_39 : decode cX11_isOver 39 = .ok (.aload_n 0, 1) := by decide +kernel
theorem dX11_isOver_40 : decode cX11_isOver 40 = .ok (.getfield 53, 3) := by decide +kernel
theorem dX11_isOver_43 : decode cX11_isOver 43 = .ok (.iconst 4, 1) := by decide +kernel
theorem dX11_isOver_44 : decode cX11_isOver 44 = .ok (.iaload, 1) := by decide +kernel
theorem dX11_isOver_45 : decode cX11_isOver 45 = .ok (.iastore, 1) := by decide +kernel
theorem dX11_isOver_46 : decode cX11_isOver 46 = .ok (.aload_n 0, 1) := by decide +kernel
theorem dX11_isOver_47 : decode cX11_isOver 47 = .ok (.iconst (-1), 1) := by decide +kernel
theorem dX11_isOver_48 : decode cX11_isOver 48 = .ok (.putfield 81, 3) := by decide +kernel
theorem dX11_isOver_51 : decode cX11_isOver 51 = .ok (.iload_n 1, 1) := by decide +kernel
theorem dX11_isOver_52 : decode cX11_isOver 52 = .ok (.ireturn, 1) := by decide +kernel
theorem dX11_goBack_0 : decode cX11_goBack 0 = .ok (.iload_n 1, 1) := by decide +kernel
theorem dX11_goBack_1 : decode cX11_goBack 1 = .ok (.i2l, 1) := by decide +kernel
theorem dX11_goBack_2 : decode cX11_goBack 2 = .ok (.invokestatic 248, 3) := by decide +kernel
theorem dX11_goBack_5 : decode cX11_goBack 5 = .ok (.ifCond .ne 5, 3) := by decide +kernel
theorem dX11_goBack_8 : decode cX11_goBack 8 = .ok (.iconst (-1), 1) := by decide +kernel
theorem dX11_goBack_9 : decode cX11_goBack 9 = .ok (.ireturn, 1) := by decide +kernel
theorem dX11_goBack_10 : decode cX11_goBack 10 = .ok (.aload_n 0, 1) := by decide +kernel
theorem dX11_goBack_11 : decode cX11_goBack 11 = .ok (.getfield 81, 3) := by decide +kernel
theorem dX11_goBack_14 : decode cX11_goBack 14 = .ok (.ifCond .ge 6, 3) := by decide +kernel
theorem dX11_goBack_17 : decode cX11_goBack 17 = .ok (.bipush (-5), 2) := by decide +kernel
theorem dX11_goBack_19 : decode cX11_goBack 19 = .ok (.ireturn, 1) := by decide +kernel
theorem dX11_goBack_20 : decode cX11_goBack 20 = .ok (.aload_n 0, 1) := by decide +kernel
theorem dX11_goBack_21 : decode cX11_goBack 21 = .ok (.getfield 53, 3) := by decide +kernel
theorem dX11_goBack_24 : decode cX11_goBack 24 = .ok (.iconst 1, 1) := by decide +kernel
theorem dX11_goBack_25 : decode cX11_goBack 25 = .ok (.dup2, 1) := by decide +kernel
theorem dX11_goBack_26 : decode cX11_goBack 26 = .ok (.iaload, 1) := by decide +kernel
theorem dX11_goBack_27 : decode cX11_goBack 27 = .ok (.iconst 1, 1) := by decide +kernel
theorem dX11_goBack_28 : decode cX11_goBack 28 = .ok (.iadd, 1) := by decide +kernel
theorem dX11_goBack_29 : decode cX11_goBack 29 = .ok (.iastore, 1) := by decide +kernel
theorem dX11_goBack_30 : decode cX11_goBack 30 = .ok (.aload_n 0, 1) := by decide +kernel
theorem dX11_goBack_31 : decode cX11_goBack 31 = .ok (.getfield 339, 3) := by decide +kernel
theorem dX11_goBack_34 : decode cX11_goBack 34 = .ok (.ifCond .ne 36, 3) := by decide +kernel
theorem dX11_goBack_37 : decode cX11_goBack 37 = .ok (.aload_n 0, 1) := by decide +kernel
theorem dX11_goBack_38 : decode cX11_goBack 38 = .ok (.getfield 53, 3) := by decide +kernel
theorem dX11_goBack_41 : decode cX11_goBack 41 = .ok (.iconst 2, 1) := by decide +kernel
theorem dX11_goBack_42 : decode cX11_goBack 42 = .ok (.dup2, 1) := by decide +kernel
theorem dX11_goBack_43 : decode cX11_goBack 43 = .ok (.iaload, 1) := by decide +kernel
theorem dX11_goBack_44 : decode cX11_goBack 44 = .ok (.iconst 1, 1) := by decide +kernel
theorem dX11_goBack_45 : decode cX11_goBack 45 = .ok (.iadd, 1) := by decide +kernel
theorem dX11_goBack_46 : decode cX11_goBack 46 = .ok (.iastore, 1) := by decide +kernel
theorem dX11_goBack_47 : decode cX11_goBack 47 = .ok (.aload_n 0, 1) := by decide +kernel
theorem dX11_goBack_48 : decode cX11_goBack 48 = .ok (.dup, 1) := by decide +kernel
theorem dX11_goBack_49 : decode cX11_goBack 49 = .ok (.getfield 143, 3) := by decide +kernel
theorem dX11_goBack_52 : decode cX11_goBack 52 = .ok (.aload_n 0, 1) := by decide +kernel
theorem dX11_goBack_53 : decode cX11_goBack 53 = .ok (.getfield 143, 3) := by decide +kernel
theorem dX11_goBack_56 : decode cX11_goBack 56 = .ok (.bipush 99, 2) := by decide +kernel
theorem dX11_goBack_58 : decode cX11_goBack 58 = .ok (.if_icmp .ge 7, 3) := by decide +kernel
theorem dX11_goBack_61 : decode cX11_goBack 61 = .ok (.iconst 1, 1) := by decide +kernel
theorem dX11_goBack_62 : decode cX11_goBack 62 = .ok (.goto 4, 3) := by decide +kernel
theorem dX11_goBack_65 : decode cX11_goBack 65 = .ok (.iconst 0, 1) := by decide +kernel
theorem dX11_goBack_66 : decode cX11_goBack 66 = .ok (.iadd, 1) := by decide +kernel
theorem dX11_goBack_67 : decode cX11_goBack 67 = .ok (.putfield 143, 3) := by decide +kernel
theorem dX11_goBack_70 : decode cX11_goBack 70 = .ok (.aload_n 0, 1) := by decide +kernel
theorem dX11_goBack_71 : decode cX11_goBack 71 = .ok (.aload_n 0, 1) := by decide +kernel
theorem dX11_goBack_72 : decode cX11_goBack 72 = .ok (.iload_n 1, 1) := by decide +kernel
theorem dX11_goBack_73 : decode cX11_goBack 73 = .ok (.invokevirtual 242, 3) := by decide +kernel
theorem dX11_goBack_76 : decode cX11_goBack 76 = .ok (.invokevirtual 343, 3) := by decide +kernel
theorem dX11_goBack_79 : decode cX11_goBack 79 = .ok (.ireturn, 1) := by decide +kernel
theorem dX11_goOn_0 : decode cX11_goOn 0 = .ok (.aload_n 0, 1) := by decide +kernel
theorem dX11_goOn_1 : decode cX11_goOn 1 = .ok (.getfield 81, 3) := by decide +kernel
theorem dX11_goOn_4 : decode cX11_goOn 4 = .ok (.ifCond .ge 8, 3) := by decide +kernel
theorem dX11_goOn_7 : decode cX11_goOn 7 = .ok (.bipush (-5), 2) := by decide +kernel
theorem dX11_goOn_9 : decode cX11_goOn 9 = .ok (.goto 27, 3) := by decide +kernel
theorem dX11_goOn_12 : decode cX11_goOn 12 = .ok (.aload_n 0, 1) := by decide +kernel
theorem dX11_goOn_13 : decode cX11_goOn 13 = .ok (.aload_n 0, 1) := by decide +kernel
theorem dX11_goOn_14 : decode cX11_goOn 14 = .ok (.getfield 339, 3) := by decide +kernel
theorem dX11_goOn_17 : decode cX11_goOn 17 = .ok (.ifCond .eq 15, 3) := by decide +kernel
theorem dX11_goOn_20 : decode cX11_goOn 20 = .ok (.aload_n 0, 1) := by decide +kernel
theorem dX11_goOn_21 : decode cX11_goOn 21 = .ok (.aload_n 0, 1) := by decide +kernel
theorem dX11_goOn_22 : decode cX11_goOn 22 = .ok (.getfield 81, 3) := by decide +kernel
theorem dX11_goOn_25 : decode cX11_goOn 25 = .ok (.iconst 3, 1) := by decide +kernel
theorem dX11_goOn_26 : decode cX11_goOn 26 = .ok (.invokevirtual 149, 3) := by decide +kernel
theorem dX11_goOn_29 : decode cX11_goOn 29 = .ok (.goto 4, 3) := by decide +kernel
theorem dX11_goOn_32 : decode cX11_goOn 32 = .ok (.iconst 0, 1) := by decide +kernel
theorem dX11_goOn_33 : decode cX11_goOn 33 = .ok (.invokevirtual 343, 3) := by decide +kernel
theorem dX11_goOn_36 : decode cX11_goOn 36 = .ok (.ireturn, 1) := by decide +kernel
theorem dX11_dayOff_0 : decode cX11_dayOff 0 = .ok (.iconst 0, 1) := by decide +kernel
theorem dX11_dayOff_1 : decode cX11_dayOff 1 = .ok (.istore_n 1, 1) := by decide +kernel
theorem dX11_dayOff_2 : decode cX11_dayOff 2 = .ok (.iconst 0, 1) := by decide +kernel
theorem dX11_dayOff_3 : decode cX11_dayOff 3 = .ok (.istore_n 2, 1) := by decide +kernel
theorem dX11_dayOff_4 : decode cX11_dayOff 4 = .ok (.iload_n 2, 1) := by decide +kernel
theorem dX11_dayOff_5 : decode cX11_dayOff 5 = .ok (.aload_n 0, 1) := by decide +kernel
theorem dX11_dayOff_6 : decode cX11_dayOff 6 = .ok (.getfield 90, 3) := by decide +kernel
theorem dX11_dayOff_9 : decode cX11_dayOff 9 = .ok (.if_icmp .ge 70, 3) := by decide +kernel
theorem dX11_dayOff_12 : decode cX11_dayOff 12 = .ok (.aload_n 0, 1) := by decide +kernel
theorem dX11_dayOff_13 : decode cX11_dayOff 13 = .ok (.getfield 27, 3) := by decide +kernel
theorem dX11_dayOff_16 : decode cX11_dayOff 16 = .ok (.iload_n 2, 1) := by decide +kernel
theorem dX11_dayOff_17 : decode cX11_dayOff 17 = .ok (.baload, 1) := by decide +kernel
theorem dX11_dayOff_18 : decode cX11_dayOff 18 = .ok (.ifCond .ne 16, 3) := by decide +kernel
theorem dX11_dayOff_21 : decode cX11_dayOff 21 = .ok (.aload_n 0, 1) := by decide +kernel
theorem dX11_dayOff_22 : decode cX11_dayOff 22 = .ok (.getfield 24, 3) := by decide +kernel
theorem dX11_dayOff_25 : decode cX11_dayOff 25 = .ok (.iload_n 2, 1) := by decide +kernel
theorem dX11_dayOff_26 : decode cX11_dayOff 26 = .ok (.iaload, 1) := by decide +kernel
theorem dX11_dayOff_27 : decode cX11_dayOff 27 = .ok (.ifCond .le 7, 3) := by decide +kernel
theorem dX11_dayOff_30 : decode cX11_dayOff 30 = .ok (.iconst 1, 1) := by decide +kernel
theorem dX11_dayOff_31 : decode cX11_dayOff 31 = .ok (.goto 4, 3) := by decide +kernel
theorem dX11_dayOff_34 : decode cX11_dayOff 34 = .ok (.iconst 0, 1) := by decide +kernel
theorem dX11_dayOff_35 : decode cX11_dayOff 35 = .ok (.istore_n 3, 1) := by decide +kernel
theorem dX11_dayOff_36 : decode cX11_dayOff 36 = .ok (.aload_n 0, 1) := by decide +kernel
theorem dX11_dayOff_37 : decode cX11_dayOff 37 = .ok (.getfield 24, 3) := by decide +kernel
theorem dX11_dayOff_40 : decode cX11_dayOff 40 = .ok (.iload_n 2, 1) := by decide +kernel
theorem dX11_dayOff_41 : decode cX11_dayOff 41 = .ok (.dup2, 1) := by decide +kernel
theorem dX11_dayOff_42 : decode cX11_dayOff 42 = .ok (.iaload, 1) := by decide +kernel
theorem dX11_dayOff_43 : decode cX11_dayOff 43 = .ok (.iload_n 3, 1) := by decide +kernel
theorem dX11_dayOff_44 : decode cX11_dayOff 44 = .ok (.ifCond .eq 7, 3) := by decide +kernel
theorem dX11_dayOff_47 : decode cX11_dayOff 47 = .ok (.iconst 1, 1) := by decide +kernel
theorem dX11_dayOff_48 : decode cX11_dayOff 48 = .ok (.goto 4, 3) := by decide +kernel
theorem dX11_dayOff_51 : decode cX11_dayOff 51 = .ok (.iconst 0, 1) := by decide +kernel
theorem dX11_dayOff_52 : decode cX11_dayOff 52 = .ok (.isub, 1) := by decide +kernel
theorem dX11_dayOff_53 : decode cX11_dayOff 53 = .ok (.iastore, 1) := by decide +kernel
theorem dX11_dayOff_54 : decode cX11_dayOff 54 = .ok (.iload_n 1, 1) := by decide +kernel
theorem dX11_dayOff_55 : decode cX11_dayOff 55 = .ok (.iload_n 3, 1) := by decide +kernel
theorem dX11_dayOff_56 : decode cX11_dayOff 56 = .ok (.ifCond .eq 7, 3) := by decide +kernel
theorem dX11_dayOff_59 : decode cX11_dayOff 59 = .ok (.iconst 1, 1) := by decide +kernel
theorem dX11_dayOff_60 : decode cX11_dayOff 60 = .ok (.goto 4, 3) := by decide +kernel
theorem dX11_dayOff_63 : decode cX11_dayOff 63 = .ok (.iconst 0, 1) := by decide +kernel
theorem dX11_dayOff_64 : decode cX11_dayOff 64 = .ok (.iadd, 1) := by decide +kernel
theorem dX11_dayOff_65 : decode cX11_dayOff 65 = .ok (.istore_n 1, 1) := by decide +kernel
theorem dX11_dayOff_66 : decode cX11_dayOff 66 = .ok (.aload_n 0, 1) := by decide +kernel
theorem dX11_dayOff_67 : decode cX11_dayOff 67 = .ok (.getfield 27, 3) := by decide +kernel
theorem dX11_dayOff_70 : decode cX11_dayOff 70 = .ok (.iload_n 2, 1) := by decide +kernel
theorem dX11_dayOff_71 : decode cX11_dayOff 71 = .ok (.iconst 0, 1) := by decide +kernel
theorem dX11_dayOff_72 : decode cX11_dayOff 72 = .ok (.bastore, 1) := by decide +kernel
theorem dX11_dayOff_73 : decode cX11_dayOff 73 = .ok (.iinc 2 1, 3) := by decide +kernel
theorem dX11_dayOff_76 : decode cX11_dayOff 76 = .ok (.goto (-72), 3) := by decide +kernel
theorem dX11_dayOff_79 : decode cX11_dayOff 79 = .ok (.iload_n 1, 1) := by decide +kernel
theorem dX11_dayOff_80 : decode cX11_dayOff 80 = .ok (.ireturn, 1) := by decide +kernel
theorem dX11_led_0 : decode cX11_led 0 = .ok (.iload_n 1, 1) := by decide +kernel
theorem dX11_led_1 : decode cX11_led 1 = .ok (.i2l, 1) := by decide +kernel
theorem dX11_led_2 : decode cX11_led 2 = .ok (.lconst 0, 1) := by decide +kernel
theorem dX11_led_3 : decode cX11_led 3 = .ok (.ldc2_w 334, 3) := by decide +kernel
theorem dX11_led_6 : decode cX11_led 6 = .ok (.invokestatic 93, 3) := by decide +kernel
theorem dX11_led_9 : decode cX11_led 9 = .ok (.ifCond .eq 12, 3) := by decide +kernel
theorem dX11_led_12 : decode cX11_led 12 = .ok (.aload_n 0, 1) := by decide +kernel
theorem dX11_led_13 : decode cX11_led 13 = .ok (.getfield 53, 3) := by decide +kernel
theorem dX11_led_16 : decode cX11_led 16 = .ok (.iload_n 1, 1) := by decide +kernel
theorem dX11_led_17 : decode cX11_led 17 = .ok (.iaload, 1) := by decide +kernel
theorem dX11_led_18 : decode cX11_led 18 = .ok (.goto 4, 3) := by decide +kernel
theorem dX11_led_21 : decode cX11_led 21 = .ok (.iconst (-1), 1) := by decide +kernel
theorem dX11_led_22 : decode cX11_led 22 = .ok (.ireturn, 1) := by decide +kernel
theorem dX11_image_0 : decode cX11_image 0 = .ok (.aload_n 0, 1) := by decide +kernel
theorem dX11_image_1 : decode cX11_image 1 = .ok (.iconst 1, 1) := by decide +kernel
theorem dX11_image_2 : decode cX11_image 2 = .ok (.putfield 346, 3) := by decide +kernel
theorem dX11_image_5 : decode cX11_image 5 = .ok (.aload_n 0, 1) := by decide +kernel
theorem dX11_image_6 : decode cX11_image 6 = .ok (.aload_n 0, 1) := by decide +kernel
theorem dX11_image_7 : decode cX11_image 7 = .ok (.getfield 90, 3) := by decide +kernel
theorem dX11_image_10 : decode cX11_image 10 = .ok (.putfield 349, 3) := by decide +kernel
theorem dX11_image_13 : decode cX11_image 13 = .ok (.iconst 0, 1) := by decide +kernel
theorem dX11_image_14 : decode cX11_image 14 = .ok (.istore_n 1, 1) := by decide +kernel
theorem dX11_image_15 : decode cX11_image 15 = .ok (.iload_n 1, 1) := by decide +kernel
theorem dX11_image_16 : decode cX11_image 16 = .ok (.aload_n 0, 1) := by decide +kernel
theorem dX11_image_17 : decode cX11_image 17 = .ok (.getfield 90, 3) := by decide +kernel
theorem dX11_image_20 : decode cX11_image 20 = .ok (.if_icmp .ge 47, 3) := by decide +kernel
theorem dX11_image_23 : decode cX11_image 23 = .ok (.aload_n 0, 1) := by decide +kernel
theorem dX11_image_24 : decode cX11_image 24 = .ok (.getfield 56, 3) := by decide +kernel
theorem dX11_image_27 : decode cX11_image 27 = .ok (.iconst 2, 1) := by decide +kernel
theorem dX11_image_28 : decode cX11_image 28 = .ok (.iload_n 1, 1) := by decide +kernel
theorem dX11_image_29 : decode cX11_image 29 = .ok (.imul, 1) := by decide +kernel
theorem dX11_image_30 : decode cX11_image 30 = .ok (.aload_n 0, 1) := by decide +kernel
theorem dX11_image_31 : decode cX11_image 31 = .ok (.getfield 24, 3) := by decide +kernel
theorem dX11_image_34 : decode cX11_image 34 = .ok (.iload_n 1, 1) := by decide +kernel
theorem dX11_image_35 : decode cX11_image 35 = .ok (.iaload, 1) := by decide +kernel
theorem dX11_image_36 : decode cX11_image 36 = .ok (.iastore, 1) := by decide +kernel
theorem dX11_image_37 : decode cX11_image 37 = .ok (.aload_n 0, 1) := by decide +kernel
theorem dX11_image_38 : decode cX11_image 38 = .ok (.getfield 56, 3) := by decide +kernel
theorem dX11_image_41 : decode cX11_image 41 = .ok (.iconst 2, 1) := by decide +kernel
theorem dX11_image_42 : decode cX11_image 42 = .ok (.iload_n 1, 1) := by decide +kernel
theorem dX11_image_43 : decode cX11_image 43 = .ok (.imul, 1) := by decide +kernel
theorem dX11_image_44 : decode cX11_image 44 = .ok (.iconst 1, 1) := by decide +kernel
theorem dX11_image_45 : decode cX11_image 45 = .ok (.iadd, 1) := by decide +kernel
theorem dX11_image_46 : decode cX11_image 46 = .ok (.aload_n 0, 1) := by decide +kernel
theorem dX11_image_47 : decode cX11_image 47 = .ok (.getfield 27, 3) := by decide +kernel
theorem dX11_image_50 : decode cX11_image 50 = .ok (.iload_n 1, 1) := by decide +kernel
theorem dX11_image_51 : decode cX11_image 51 = .ok (.baload, 1) := by decide +kernel
theorem dX11_image_52 : decode cX11_image 52 = .ok (.ifCond .eq 7, 3) := by decide +kernel
theorem dX11_image_55 : decode cX11_image 55 = .ok (.iconst 1, 1) := by decide +kernel
theorem dX11_image_56 : decode cX11_image 56 = .ok (.goto 4, 3) := by decide +kernel
theorem dX11_image_59 : decode cX11_image 59 = .ok (.iconst 0, 1) := by decide +kernel
theorem dX11_image_60 : decode cX11_image 60 = .ok (.iastore, 1) := by decide +kernel
theorem dX11_image_61 : decode cX11_image 61 = .ok (.iinc 1 1, 3) := by decide +kernel
theorem dX11_image_64 : decode cX11_image 64 = .ok (.goto (-49), 3) := by decide +kernel
theorem dX11_image_67 : decode cX11_image 67 = .ok (.aload_n 0, 1) := by decide +kernel
theorem dX11_image_68 : decode cX11_image 68 = .ok (.getfield 56, 3) := by decide +kernel
theorem dX11_image_71 : decode cX11_image 71 = .ok (.bipush 12, 2) := by decide +kernel
theorem dX11_image_73 : decode cX11_image 73 = .ok (.aload_n 0, 1) := by decide +kernel
theorem dX11_image_74 : decode cX11_image 74 = .ok (.getfield 143, 3) := by decide +kernel
theorem dX11_image_77 : decode cX11_image 77 = .ok (.iastore, 1) := by decide +kernel
theorem dX11_image_78 : decode cX11_image 78 = .ok (.aload_n 0, 1) := by decide +kernel
theorem dX11_image_79 : decode cX11_image 79 = .ok (.getfield 56, 3) := by decide +kernel
theorem dX11_image_82 : decode cX11_image 82 = .ok (.bipush 13, 2) := by decide +kernel
theorem dX11_image_84 : decode cX11_image 84 = .ok (.aload_n 0, 1) := by decide +kernel
theorem dX11_image_85 : decode cX11_image 85 = .ok (.getfield 146, 3) := by decide +kernel
theorem dX11_image_88 : decode cX11_image 88 = .ok (.iastore, 1) := by decide +kernel
theorem dX11_image_89 : decode cX11_image 89 = .ok (.aload_n 0, 1) := by decide +kernel
theorem dX11_image_90 : decode cX11_image 90 = .ok (.getfield 56, 3) := by decide +kernel
theorem dX11_image_93 : decode cX11_image 93 = .ok (.bipush 14, 2) := by decide +kernel
theorem dX11_image_95 : decode cX11_image 95 = .ok (.aload_n 0, 1) := by decide +kernel
theorem dX11_image_96 : decode cX11_image 96 = .ok (.getfield 81, 3) := by decide +kernel
theorem dX11_image_99 : decode cX11_image 99 = .ok (.iastore, 1) := by decide +kernel
theorem dX11_image_100 : decode cX11_image 100 = .ok (.aload_n 0, 1) := by decide +kernel
theorem dX11_image_101 : decode cX11_image 101 = .ok (.getfield 56, 3) := by decide +kernel
theorem dX11_image_104 : decode cX11_image 104 = .ok (.bipush 15, 2) := by decide +kernel
theorem dX11_image_106 : decode cX11_image 106 = .ok (.aload_n 0, 1) := by decide +kernel
theorem dX11_image_107 : decode cX11_image 107 = .ok (.getfield 339, 3) := by decide +kernel
theorem dX11_image_110 : decode cX11_image 110 = .ok (.ifCond .eq 7, 3) := by decide +kernel
theorem dX11_image_113 : decode cX11_image 113 = .ok (.iconst 1, 1) := by decide +kernel
theorem dX11_image_114 : decode cX11_image 114 = .ok (.goto 4, 3) := by decide +kernel
theorem dX11_image_117 : decode cX11_image 117 = .ok (.iconst 0, 1) := by decide +kernel
theorem dX11_image_118 : decode cX11_image 118 = .ok (.iastore, 1) := by decide +kernel
theorem dX11_image_119 : decode cX11_image 119 = .ok (.iconst 0, 1) := by decide +kernel
theorem dX11_image_120 : decode cX11_image 120 = .ok (.istore_n 1, 1) := by decide +kernel
theorem dX11_image_121 : decode cX11_image 121 = .ok (.iload_n 1, 1) := by decide +kernel
theorem dX11_image_122 : decode cX11_image 122 = .ok (.iconst 5, 1) := by decide +kernel
theorem dX11_image_123 : decode cX11_image 123 = .ok (.if_icmp .ge 24, 3) := by decide +kernel
theorem dX11_image_126 : decode cX11_image 126 = .ok (.aload_n 0, 1) := by decide +kernel
theorem dX11_image_127 : decode cX11_image 127 = .ok (.getfield 56, 3) := by decide +kernel
theorem dX11_image_130 : decode cX11_image 130 = .ok (.bipush 16, 2) := by decide +kernel
theorem dX11_image_132 : decode cX11_image 132 = .ok (.iload_n 1, 1) := by decide +kernel
theorem dX11_image_133 : decode cX11_image 133 = .ok (.iadd, 1) := by decide +kernel
theorem dX11_image_134 : decode cX11_image 134 = .ok (.aload_n 0, 1) := by decide +kernel
theorem dX11_image_135 : decode cX11_image 135 = .ok (.getfield 53, 3) := by decide +kernel
theorem dX11_image_138 : decode cX11_image 138 = .ok (.iload_n 1, 1) := by decide +kernel
theorem dX11_image_139 : decode cX11_image 139 = .ok (.iaload, 1) := by decide +kernel
theorem dX11_image_140 : decode cX11_image 140 = .ok (.iastore, 1) := by decide +kernel
theorem dX11_image_141 : decode cX11_image 141 = .ok (.iinc 1 1, 3) := by decide +kernel
theorem dX11_image_144 : decode cX11_image 144 = .ok (.goto (-23), 3) := by decide +kernel
theorem dX11_image_147 : decode cX11_image 147 = .ok (.aload_n 0, 1) := by decide +kernel
theorem dX11_image_148 : decode cX11_image 148 = .ok (.getfield 53, 3) := by decide +kernel
theorem dX11_image_151 : decode cX11_image 151 = .ok (.iconst 0, 1) := by decide +kernel
theorem dX11_image_152 : decode cX11_image 152 = .ok (.iaload, 1) := by decide +kernel
theorem dX11_image_153 : decode cX11_image 153 = .ok (.ireturn, 1) := by decide +kernel
theorem dX11_back_0 : decode cX11_back 0 = .ok (.aload_n 0, 1) := by decide +kernel
theorem dX11_back_1 : decode cX11_back 1 = .ok (.getfield 346, 3) := by decide +kernel
theorem dX11_back_4 : decode cX11_back 4 = .ok (.ifCond .ne 6, 3) := by decide +kernel
theorem dX11_back_7 : decode cX11_back 7 = .ok (.bipush (-5), 2) := by decide +kernel
theorem dX11_back_9 : decode cX11_back 9 = .ok (.ireturn, 1) := by decide +kernel
theorem dX11_back_10 : decode cX11_back 10 = .ok (.iconst 0, 1) := by decide +kernel
theorem dX11_back_11 : decode cX11_back 11 = .ok (.istore_n 1, 1) := by decide +kernel
theorem dX11_back_12 : decode cX11_back 12 = .ok (.iload_n 1, 1) := by decide +kernel
theorem dX11_back_13 : decode cX11_back 13 = .ok (.aload_n 0, 1) := by decide +kernel
theorem dX11_back_14 : decode cX11_back 14 = .ok (.getfield 90, 3) := by decide +kernel
theorem dX11_back_17 : decode cX11_back 17 = .ok (.if_icmp .ge 68, 3) := by decide +kernel
theorem dX11_back_20 : decode cX11_back 20 = .ok (.aload_n 0, 1) := by decide +kernel
theorem dX11_back_21 : decode cX11_back 21 = .ok (.getfield 24, 3) := by decide +kernel
theorem dX11_back_24 : decode cX11_back 24 = .ok (.iload_n 1, 1) := by decide +kernel
theorem dX11_back_25 : decode cX11_back 25 = .ok (.iload_n 1, 1) := by decide +kernel
theorem dX11_back_26 : decode cX11_back 26 = .ok (.aload_n 0, 1) := by decide +kernel
theorem dX11_back_27 : decode cX11_back 27 = .ok (.getfield 349, 3) := by decide +kernel
theorem dX11_back_30 : decode cX11_back 30 = .ok (.if_icmp .ge 14, 3) := by decide +kernel
theorem dX11_back_33 : decode cX11_back 33 = .ok (.aload_n 0, 1) := by decide +kernel
theorem dX11_back_34 : decode cX11_back 34 = .ok (.getfield 56, 3) := by decide +kernel
theorem dX11_back_37 : decode cX11_back 37 = .ok (.iconst 2, 1) := by decide +kernel
theorem dX11_back_38 : decode cX11_back 38 = .ok (.iload_n 1, 1) := by decide +kernel
theorem dX11_back_39 : decode cX11_back 39 = .ok (.imul, 1) := by decide +kernel
theorem dX11_back_40 : decode cX11_back 40 = .ok (.iaload, 1) := by decide +kernel
theorem dX11_back_41 : decode cX11_back 41 = .ok (.goto 4, 3) := by decide +kernel
theorem dX11_back_44 : decode cX11_back 44 = .ok (.iconst 0, 1) := by decide +kernel
theorem dX11_back_45 : decode cX11_back 45 = .ok (.iastore, 1) := by decide +kernel
theorem dX11_back_46 : decode cX11_back 46 = .ok (.aload_n 0, 1) := by decide +kernel
theorem dX11_back_47 : decode cX11_back 47 = .ok (.getfield 27, 3) := by decide +kernel
theorem dX11_back_50 : decode cX11_back 50 = .ok (.iload_n 1, 1) := by decide +kernel
theorem dX11_back_51 : decode cX11_back 51 = .ok (.iload_n 1, 1) := by decide +kernel
theorem dX11_back_52 : decode cX11_back 52 = .ok (.aload_n 0, 1) := by decide +kernel
theorem dX11_back_53 : decode cX11_back 53 = .ok (.getfield 349, 3) := by decide +kernel
theorem dX11_back_56 : decode cX11_back 56 = .ok (.if_icmp .ge 21, 3) := by decide +kernel
theorem dX11_back_59 : decode cX11_back 59 = .ok (.aload_n 0, 1) := by decide +kernel
theorem dX11_back_60 : decode cX11_back 60 = .ok (.getfield 56, 3) := by decide +kernel
theorem dX11_back_63 : decode cX11_back 63 = .ok (.iconst 2, 1) := by decide +kernel
theorem dX11_back_64 : decode cX11_back 64 = .ok (.iload_n 1, 1) := by decide +kernel
theorem dX11_back_65 : decode cX11_back 65 = .ok (.imul, 1) := by decide +kernel
theorem dX11_back_66 : decode cX11_back 66 = .ok (.iconst 1, 1) := by decide +kernel
theorem dX11_back_67 : decode cX11_back 67 = .ok (.iadd, 1) := by decide +kernel
theorem dX11_back_68 : decode cX11_back 68 = .ok (.iaload, 1) := by decide +kernel
theorem dX11_back_69 : decode cX11_back 69 = .ok (.iconst 1, 1) := by decide +kernel
theorem dX11_back_70 : decode cX11_back 70 = .ok (.if_icmp .ne 7, 3) := by decide +kernel
theorem dX11_back_73 : decode cX11_back 73 = .ok (.iconst 1, 1) := by decide +kernel
theorem dX11_back_74 : decode cX11_back 74 = .ok (.goto 4, 3) := by decide +kernel
theorem dX11_back_77 : decode cX11_back 77 = .ok (.iconst 0, 1) := by decide +kernel
theorem dX11_back_78 : decode cX11_back 78 = .ok (.bastore, 1) := by decide +kernel
theorem dX11_back_79 : decode cX11_back 79 = .ok (.iinc 1 1, 3) := by decide +kernel
theorem dX11_back_82 : decode cX11_back 82 = .ok (.goto (-70), 3) := by decide +kernel
theorem dX11_back_85 : decode cX11_back 85 = .ok (.aload_n 0, 1) := by decide +kernel
theorem dX11_back_86 : decode cX11_back 86 = .ok (.aload_n 0, 1) := by decide +kernel
theorem dX11_back_87 : decode cX11_back 87 = .ok (.getfield 56, 3) := by decide +kernel
theorem dX11_back_90 : decode cX11_back 90 = .ok (.bipush 12, 2) := by decide +kernel
theorem dX11_back_92 : decode cX11_back 92 = .ok (.iaload, 1) := by decide +kernel
theorem dX11_back_93 : decode cX11_back 93 = .ok (.putfield 143, 3) := by decide +kernel
theorem dX11_back_96 : decode cX11_back 96 = .ok (.aload_n 0, 1) := by decide +kernel
theorem dX11_back_97 : decode cX11_back 97 = .ok (.aload_n 0, 1) := by decide +kernel
theorem dX11_back_98 : decode cX11_back 98 = .ok (.getfield 56, 3) := by decide +kernel
theorem dX11_back_101 : decode cX11_back 101 = .ok (.bipush 13, 2) := by decide +kernel
theorem dX11_back_103 : decode cX11_back 103 = .ok (.iaload, 1) := by decide +kernel
theorem dX11_back_104 : decode cX11_back 104 = .ok (.putfield 146, 3) := by decide +kernel
theorem dX11_back_107 : decode cX11_back 107 = .ok (.aload_n 0, 1) := by decide +kernel
theorem dX11_back_108 : decode cX11_back 108 = .ok (.aload_n 0, 1) := by decide +kernel
theorem dX11_back_109 : decode cX11_back 109 = .ok (.getfield 56, 3) := by decide +kernel
theorem dX11_back_112 : decode cX11_back 112 = .ok (.bipush 14, 2) := by decide +kernel
theorem dX11_back_114 : decode cX11_back 114 = .ok (.iaload, 1) := by decide +kernel
theorem dX11_back_115 : decode cX11_back 115 = .ok (.putfield 81, 3) := by decide +kernel
theorem dX11_back_118 : decode cX11_back 118 = .ok (.aload_n 0, 1) := by decide +kernel
theorem dX11_back_119 : decode cX11_back 119 = .ok (.aload_n 0, 1) := by decide +kernel
theorem dX11_back_120 : decode cX11_back 120 = .ok (.getfield 56, 3) := by decide +kernel
theorem dX11_back_123 : decode cX11_back 123 = .ok (.bipush 15, 2) := by decide +kernel
theorem dX11_back_125 : decode cX11_back 125 = .ok (.iaload, 1) := by decide +kernel
theorem dX11_back_126 : decode cX11_back 126 = .ok (.iconst 1, 1) := by decide +kernel
theorem dX11_back_127 : decode cX11_back 127 = .ok (.if_icmp .ne 7, 3) := by decide +kernel
theorem dX11_back_130 : decode cX11_back 130 = .ok (.iconst 1, 1) := by decide +kernel
theorem dX11_back_131 : decode cX11_back 131 = .ok (.goto 4, 3) := by decide +kernel
theorem dX11_back_134 : decode cX11_back 134 = .ok (.iconst 0, 1) := by decide +kernel
theorem dX11_back_135 : decode cX11_back 135 = .ok (.putfield 339, 3) := by decide +kernel
theorem dX11_back_138 : decode cX11_back 138 = .ok (.iconst 0, 1) := by decide +kernel
theorem dX11_back_139 : decode cX11_back 139 = .ok (.istore_n 1, 1) := by decide +kernel
theorem dX11_back_140 : decode cX11_back 140 = .ok (.iload_n 1, 1) := by decide +kernel
theorem dX11_back_141 : decode cX11_back 141 = .ok (.iconst 5, 1) := by decide +kernel
theorem dX11_back_142 : decode cX11_back 142 = .ok (.if_icmp .ge 24, 3) := by decide +kernel
theorem dX11_back_145 : decode cX11_back 145 = .ok (.aload_n 0, 1) := by decide +kernel
theorem dX11_back_146 : decode cX11_back 146 = .ok (.getfield 53, 3) := by decide +kernel
theorem dX11_back_149 : decode cX11_back 149 = .ok (.iload_n 1, 1) := by decide +kernel
theorem dX11_back_150 : decode cX11_back 150 = .ok (.aload_n 0, 1) := by decide +kernel
theorem dX11_back_151 : decode cX11_back 151 = .ok (.getfield 56, 3) := by decide +kernel
theorem dX11_back_154 : decode cX11_back 154 = .ok (.bipush 16, 2) := by decide +kernel
theorem dX11_back_156 : decode cX11_back 156 = .ok (.iload_n 1, 1) := by decide +kernel
theorem dX11_back_157 : decode cX11_back 157 = .ok (.iadd, 1) := by decide +kernel
theorem dX11_back_158 : decode cX11_back 158 = .ok (.iaload, 1) := by decide +kernel
theorem dX11_back_159 : decode cX11_back 159 = .ok (.iastore, 1) := by decide +kernel
theorem dX11_back_160 : decode cX11_back 160 = .ok (.iinc 1 1, 3) := by decide +kernel
theorem dX11_back_163 : decode cX11_back 163 = .ok (.goto (-23), 3) := by decide +kernel
theorem dX11_back_166 : decode cX11_back 166 = .ok (.aload_n 0, 1) := by decide +kernel
theorem dX11_back_167 : decode cX11_back 167 = .ok (.getfield 53, 3) := by decide +kernel
theorem dX11_back_170 : decode cX11_back 170 = .ok (.iconst 0, 1) := by decide +kernel
theorem dX11_back_171 : decode cX11_back 171 = .ok (.iaload, 1) := by decide +kernel
theorem dX11_back_172 : decode cX11_back 172 = .ok (.ireturn, 1) := by decide +kernel
theorem dX11_markedMany_0 : decode cX11_markedMany 0 = .ok (.iconst 0, 1) := by decide +kernel
theorem dX11_markedMany_1 : decode cX11_markedMany 1 = .ok (.istore_n 1, 1) := by decide +kernel
theorem dX11_markedMany_2 : decode cX11_markedMany 2 = .ok (.iconst 0, 1) := by decide +kernel
theorem dX11_markedMany_3 : decode cX11_markedMany 3 = .ok (.istore_n 2, 1) := by decide +kernel
theorem dX11_markedMany_4 : decode cX11_markedMany 4 = .ok (.iload_n 2, 1) := by decide +kernel
theorem dX11_markedMany_5 : decode cX11_markedMany 5 = .ok (.aload_n 0, 1) := by decide +kernel
theorem dX11_markedMany_6 : decode cX11_markedMany 6 = .ok (.getfield 90, 3) := by decide +kernel
theorem dX11_markedMany_9 : decode cX11_markedMany 9 = .ok (.if_icmp .ge 18, 3) := by decide +kernel
theorem dX11_markedMany_12 : decode cX11_markedMany 12 = .ok (.iload_n 1, 1) := by decide +kernel
theorem dX11_markedMany_13 : decode cX11_markedMany 13 = .ok (.aload_n 0, 1) := by decide +kernel
theorem dX11_markedMany_14 : decode cX11_markedMany 14 = .ok (.iload_n 2, 1) := by decide +kernel
theorem dX11_markedMany_15 : decode cX11_markedMany 15 = .ok (.iconst 4, 1) := by decide +kernel
theorem dX11_markedMany_16 : decode cX11_markedMany 16 = .ok (.invokevirtual 149, 3) := by decide +kernel
theorem dX11_markedMany_19 : decode cX11_markedMany 19 = .ok (.iadd, 1) := by decide +kernel
theorem dX11_markedMany_20 : decode cX11_markedMany 20 = .ok (.istore_n 1, 1) := by decide +kernel
theorem dX11_markedMany_21 : decode cX11_markedMany 21 = .ok (.iinc 2 1, 3) := by decide +kernel
theorem dX11_markedMany_24 : decode cX11_markedMany 24 = .ok (.goto (-20), 3) := by decide +kernel
theorem dX11_markedMany_27 : decode cX11_markedMany 27 = .ok (.iload_n 1, 1) := by decide +kernel
theorem dX11_markedMany_28 : decode cX11_markedMany 28 = .ok (.ireturn, 1) := by decide +kernel
theorem dX11_isBody_0 : decode cX11_isBody 0 = .ok (.iload_n 1, 1) := by decide +kernel
theorem dX11_isBody_1 : decode cX11_isBody 1 = .ok (.i2l, 1) := by decide +kernel
theorem dX11_isBody_2 : decode cX11_isBody 2 = .ok (.lconst 0, 1) := by decide +kernel
theorem dX11_isBody_3 : decode cX11_isBody 3 = .ok (.aload_n 0, 1) := by decide +kernel
theorem dX11_isBody_4 : decode cX11_isBody 4 = .ok (.getfield 352, 3) := by decide +kernel
theorem dX11_isBody_7 : decode cX11_isBody 7 = .ok (.iconst 1, 1) := by decide +kernel
theorem dX11_isBody_8 : decode cX11_isBody 8 = .ok (.isub, 1) := by decide +kernel
theorem dX11_isBody_9 : decode cX11_isBody 9 = .ok (.i2l, 1) := by decide +kernel
theorem dX11_isBody_10 : decode cX11_isBody 10 = .ok (.invokestatic 93, 3) := by decide +kernel
theorem dX11_isBody_13 : decode cX11_isBody 13 = .ok (.ireturn, 1) := by decide +kernel
theorem dX11_kindOf_0 : decode cX11_kindOf 0 = .ok (.aload_n 0, 1) := by decide +kernel
theorem dX11_kindOf_1 : decode cX11_kindOf 1 = .ok (.getfield 59, 3) := by decide +kernel
theorem dX11_kindOf_4 : decode cX11_kindOf 4 = .ok (.iload_n 1, 1) := by decide +kernel
theorem dX11_kindOf_5 : decode cX11_kindOf 5 = .ok (.iaload, 1) := by decide +kernel
theorem dX11_kindOf_6 : decode cX11_kindOf 6 = .ok (.ireturn, 1) := by decide +kernel
theorem dX11_body_0 : decode cX11_body 0 = .ok (.iload_n 1, 1) := by decide +kernel
theorem dX11_body_1 : decode cX11_body 1 = .ok (.i2l, 1) := by decide +kernel
theorem dX11_body_2 : decode cX11_body 2 = .ok (.lconst 0, 1) := by decide +kernel
theorem dX11_body_3 : decode cX11_body 3 = .ok (.ldc2_w 308, 3) := by decide +kernel
theorem dX11_body_6 : decode cX11_body 6 = .ok (.invokestatic 93, 3) := by decide +kernel
theorem dX11_body_9 : decode cX11_body 9 = .ok (.ifCond .ne 5, 3) := by decide +kernel
theorem dX11_body_12 : decode cX11_body 12 = .ok (.iconst (-1), 1) := by decide +kernel
theorem dX11_body_13 : decode cX11_body 13 = .ok (.ireturn, 1) := by decide +kernel
theorem dX11_body_14 : decode cX11_body 14 = .ok (.aload_n 0, 1) := by decide +kernel
theorem dX11_body_15 : decode cX11_body 15 = .ok (.getfield 352, 3) := by decide +kernel
theorem dX11_body_18 : decode cX11_body 18 = .ok (.bipush 50, 2) := by decide +kernel
theorem dX11_body_20 : decode cX11_body 20 = .ok (.if_icmp .ne 6, 3) := by decide +kernel
theorem dX11_body_23 : decode cX11_body 23 = .ok (.bipush (-3), 2) := by decide +kernel
theorem dX11_body_25 : decode cX11_body 25 = .ok (.ireturn, 1) := by decide +kernel
theorem dX11_body_26 : decode cX11_body 26 = .ok (.aload_n 0, 1) := by decide +kernel
theorem dX11_body_27 : decode cX11_body 27 = .ok (.getfield 59, 3) := by decide +kernel
theorem dX11_body_30 : decode cX11_body 30 = .ok (.aload_n 0, 1) := by decide +kernel
theorem dX11_body_31 : decode cX11_body 31 = .ok (.getfield 352, 3) := by decide +kernel
theorem dX11_body_34 : decode cX11_body 34 = .ok (.iload_n 1, 1) := by decide +kernel
theorem dX11_body_35 : decode cX11_body 35 = .ok (.iastore, 1) := by decide +kernel
theorem dX11_body_36 : decode cX11_body 36 = .ok (.aload_n 0, 1) := by decide +kernel
theorem dX11_body_37 : decode cX11_body 37 = .ok (.dup, 1) := by decide +kernel
theorem dX11_body_38 : decode cX11_body 38 = .ok (.getfield 352, 3) := by decide +kernel
theorem dX11_body_41 : decode cX11_body 41 = .ok (.iconst 1, 1) := by decide +kernel
theorem dX11_body_42 : decode cX11_body 42 = .ok (.iadd, 1) := by decide +kernel
theorem dX11_body_43 : decode cX11_body 43 = .ok (.putfield 352, 3) := by decide +kernel
theorem dX11_body_46 : decode cX11_body 46 = .ok (.aload_n 0, 1) := by decide +kernel
theorem dX11_body_47 : decode cX11_body 47 = .ok (.getfield 352, 3) := by decide +kernel
theorem dX11_body_50 : decode cX11_body 50 = .ok (.iconst 1, 1) := by decide +kernel
theorem dX11_body_51 : decode cX11_body 51 = .ok (.isub, 1) := by decide +kernel
theorem dX11_body_52 : decode cX11_body 52 = .ok (.ireturn, 1) := by decide +kernel
theorem dX11_above_0 : decode cX11_above 0 = .ok (.iload_n 0, 1) := by decide +kernel
theorem dX11_above_1 : decode cX11_above 1 = .ok (.iconst 3, 1) := by decide +kernel
theorem dX11_above_2 : decode cX11_above 2 = .ok (.if_icmp .ne 7, 3) := by decide +kernel
theorem dX11_above_5 : decode cX11_above 5 = .ok (.iconst 2, 1) := by decide +kernel
theorem dX11_above_6 : decode cX11_above 6 = .ok (.goto 32, 3) := by decide +kernel
theorem dX11_above_9 : decode cX11_above 9 = .ok (.iload_n 0, 1) := by decide +kernel
theorem dX11_above_10 : decode cX11_above 10 = .ok (.iconst 4, 1) := by decide +kernel
theorem dX11_above_11 : decode cX11_above 11 = .ok (.if_icmp .ne 7, 3) := by decide +kernel
theorem dX11_above_14 : decode cX11_above 14 = .ok (.iconst 1, 1) := by decide +kernel
theorem dX11_above_15 : decode cX11_above 15 = .ok (.goto 23, 3) := by decide +kernel
theorem dX11_above_18 : decode cX11_above 18 = .ok (.iload_n 0, 1) := by decide +kernel
theorem dX11_above_19 : decode cX11_above 19 = .ok (.iconst 5, 1) := by decide +kernel
theorem dX11_above_20 : decode cX11_above 20 = .ok (.if_icmp .ne 7, 3) := by decide +kernel
theorem dX11_above_23 : decode cX11_above 23 = .ok (.iconst 3, 1) := by decide +kernel
theorem dX11_above_24 : decode cX11_above 24 = .ok (.goto 14, 3) := by decide +kernel
theorem dX11_above_27 : decode cX11_above 27 = .ok (.iload_n 0, 1) := by decide +kernel
theorem dX11_above_28 : decode cX11_above 28 = .ok (.bipush 7, 2) := by decide +kernel
theorem dX11_above_30 : decode cX11_above 30 = .ok (.if_icmp .ne 7, 3) := by decide +kernel
theorem dX11_above_33 : decode cX11_above 33 = .ok (.iconst 4, 1) := by decide +kernel
theorem dX11_above_34 : decode cX11_above 34 = .ok (.goto 4, 3) := by decide +kernel
theorem dX11_above_37 : decode cX11_above 37 = .ok (.iconst 0, 1) := by decide +kernel
theorem dX11_above_38 : decode cX11_above 38 = .ok (.ireturn, 1) := by decide +kernel
theorem dX11_begins_0 : decode cX11_begins 0 = .ok (.aload_n 0, 1) := by decide +kernel
theorem dX11_begins_1 : decode cX11_begins 1 = .ok (.getfield 355, 3) := by decide +kernel
theorem dX11_begins_4 : decode cX11_begins 4 = .ok (.bipush 24, 2) := by decide +kernel
theorem dX11_begins_6 : decode cX11_begins 6 = .ok (.if_icmp .ge 13, 3) := by decide +kernel
theorem dX11_begins_9 : decode cX11_begins 9 = .ok (.aload_n 0, 1) := by decide +kernel
theorem dX11_begins_10 : decode cX11_begins 10 = .ok (.getfield 62, 3) := by decide +kernel
theorem dX11_begins_13 : decode cX11_begins 13 = .ok (.aload_n 0, 1) := by decide +kernel
theorem dX11_begins_14 : decode cX11_begins 14 = .ok (.getfield 355, 3) := by decide +kernel
theorem dX11_begins_17 : decode cX11_begins 17 = .ok (.iload_n 1, 1) := by decide +kernel
theorem dX11_begins_18 : decode cX11_begins 18 = .ok (.iastore, 1) := by decide +kernel
theorem dX11_begins_19 : decode cX11_begins 19 = .ok (.aload_n 0, 1) := by decide +kernel
theorem dX11_begins_20 : decode cX11_begins 20 = .ok (.dup, 1) := by decide +kernel
theorem dX11_begins_21 : decode cX11_begins 21 = .ok (.getfield 355, 3) := by decide +kernel
theorem dX11_begins_24 : decode cX11_begins 24 = .ok (.iconst 1, 1) := by decide +kernel
theorem dX11_begins_25 : decode cX11_begins 25 = .ok (.iadd, 1) := by decide +kernel
theorem dX11_begins_26 : decode cX11_begins 26 = .ok (.putfield 355, 3) := by decide +kernel
theorem dX11_begins_29 : decode cX11_begins 29 = .ok (.return_, 1) := by decide +kernel
theorem dX11_goesAs_0 : decode cX11_goesAs 0 = .ok (.iload_n 1, 1) := by decide +kernel
theorem dX11_goesAs_1 : decode cX11_goesAs 1 = .ok (.iconst 1, 1) := by decide +kernel
theorem dX11_goesAs_2 : decode cX11_goesAs 2 = .ok (.if_icmp .eq 14, 3) := by decide +kernel
theorem dX11_goesAs_5 : decode cX11_goesAs 5 = .ok (.iload_n 1, 1) := by decide +kernel
theorem dX11_goesAs_6 : decode cX11_goesAs 6 = .ok (.iconst 4, 1) := by decide +kernel
theorem dX11_goesAs_7 : decode cX11_goesAs 7 = .ok (.if_icmp .eq 9, 3) := by decide +kernel
theorem dX11_goesAs_10 : decode cX11_goesAs 10 = .ok (.iload_n 1, 1) := by decide +kernel
theorem dX11_goesAs_11 : decode cX11_goesAs 11 = .ok (.bipush 7, 2) := by decide +kernel
theorem dX11_goesAs_13 : decode cX11_goesAs 13 = .ok (.if_icmp .ne 18, 3) := by decide +kernel
theorem dX11_goesAs_16 : decode cX11_goesAs 16 = .ok (.aload_n 0, 1) := by decide +kernel
theorem dX11_goesAs_17 : decode cX11_goesAs 17 = .ok (.bipush 20, 2) := by decide +kernel
theorem dX11_goesAs_19 : decode cX11_goesAs 19 = .ok (.invokevirtual 358, 3) := by decide +kernel
theorem dX11_goesAs_22 : decode cX11_goesAs 22 = .ok (.aload_n 0, 1) := by decide +kernel
theorem dX11_goesAs_23 : decode cX11_goesAs 23 = .ok (.iconst 0, 1) := by decide +kernel
theorem dX11_goesAs_24 : decode cX11_goesAs 24 = .ok (.iload_n 2, 1) := by decide +kernel
theorem dX11_goesAs_25 : decode cX11_goesAs 25 = .ok (.invokevirtual 362, 3) := by decide +kernel
theorem dX11_goesAs_28 : decode cX11_goesAs 28 = .ok (.iconst 3, 1) := by decide +kernel
theorem dX11_goesAs_29 : decode cX11_goesAs 29 = .ok (.iadd, 1) := by decide +kernel
theorem dX11_goesAs_30 : decode cX11_goesAs 30 = .ok (.ireturn, 1) := by decide +kernel
theorem dX11_goesAs_31 : decode cX11_goesAs 31 = .ok (.iload_n 1, 1) := by decide +kernel
theorem dX11_goesAs_32 : decode cX11_goesAs 32 = .ok (.bipush 6, 2) := by decide +kernel
theorem dX11_goesAs_34 : decode cX11_goesAs 34 = .ok (.if_icmp .ne 18, 3) := by decide +kernel
theorem dX11_goesAs_37 : decode cX11_goesAs 37 = .ok (.aload_n 0, 1) := by decide +kernel
theorem dX11_goesAs_38 : decode cX11_goesAs 38 = .ok (.bipush 70, 2) := by decide +kernel
theorem dX11_goesAs_40 : decode cX11_goesAs 40 = .ok (.invokevirtual 358, 3) := by decide +kernel
theorem dX11_goesAs_43 : decode cX11_goesAs 43 = .ok (.aload_n 0, 1) := by decide +kernel
theorem dX11_goesAs_44 : decode cX11_goesAs 44 = .ok (.iconst 0, 1) := by decide +kernel
theorem dX11_goesAs_45 : decode cX11_goesAs 45 = .ok (.iload_n 2, 1) := by decide +kernel
theorem dX11_goesAs_46 : decode cX11_goesAs 46 = .ok (.invokevirtual 362, 3) := by decide +kernel
theorem dX11_goesAs_49 : decode cX11_goesAs 49 = .ok (.iconst 2, 1) := by decide +kernel
theorem dX11_goesAs_50 : decode cX11_goesAs 50 = .ok (.imul, 1) := by decide +kernel
theorem dX11_goesAs_51 : decode cX11_goesAs 51 = .ok (.ireturn, 1) := by decide +kernel
theorem dX11_goesAs_52 : decode cX11_goesAs 52 = .ok (.aload_n 0, 1) := by decide +kernel
theorem dX11_goesAs_53 : decode cX11_goesAs 53 = .ok (.iconst 1, 1) := by decide +kernel
theorem dX11_goesAs_54 : decode cX11_goesAs 54 = .ok (.invokevirtual 358, 3) := by decide +kernel
theorem dX11_goesAs_57 : decode cX11_goesAs 57 = .ok (.iload_n 2, 1) := by decide +kernel
theorem dX11_goesAs_58 : decode cX11_goesAs 58 = .ok (.aload_n 0, 1) := by decide +kernel
theorem dX11_goesAs_59 : decode cX11_goesAs 59 = .ok (.getfield 365, 3) := by decide +kernel
theorem dX11_goesAs_62 : decode cX11_goesAs 62 = .ok (.iadd, 1) := by decide +kernel
theorem dX11_goesAs_63 : decode cX11_goesAs 63 = .ok (.ireturn, 1) := by decide +kernel
theorem dX11_looksAs_0 : decode cX11_looksAs 0 = .ok (.iload_n 1, 1) := by decide +kernel
theorem dX11_looksAs_1 : decode cX11_looksAs 1 = .ok (.iconst 3, 1) := by decide +kernel
theorem dX11_looksAs_2 : decode cX11_looksAs 2 = .ok (.if_icmp .eq 8, 3) := by decide +kernel
theorem dX11_looksAs_5 : decode cX11_looksAs 5 = .ok (.iload_n 1, 1) := by decide +kernel
theorem dX11_looksAs_6 : decode cX11_looksAs 6 = .ok (.iconst 5, 1) := by decide +kernel
theorem dX11_looksAs_7 : decode cX11_looksAs 7 = .ok (.if_icmp .ne 18, 3) := by decide +kernel
theorem dX11_looksAs_10 : decode cX11_looksAs 10 = .ok (.aload_n 0, 1) := by decide +kernel
theorem dX11_looksAs_11 : decode cX11_looksAs 11 = .ok (.bipush 41, 2) := by decide +kernel
theorem dX11_looksAs_13 : decode cX11_looksAs 13 = .ok (.invokevirtual 358, 3) := by decide +kernel
theorem dX11_looksAs_16 : decode cX11_looksAs 16 = .ok (.aload_n 0, 1) := by decide +kernel
theorem dX11_looksAs_17 : decode cX11_looksAs 17 = .ok (.iconst 2, 1) := by decide +kernel
theorem dX11_looksAs_18 : decode cX11_looksAs 18 = .ok (.iload_n 2, 1) := by decide +kernel
theorem dX11_looksAs_19 : decode cX11_looksAs 19 = .ok (.iconst 1, 1) := by decide +kernel
theorem dX11_looksAs_20 : decode cX11_looksAs 20 = .ok (.iadd, 1) := by decide +kernel
theorem dX11_looksAs_21 : decode cX11_looksAs 21 = .ok (.invokevirtual 368, 3) := by decide +kernel
theorem dX11_looksAs_24 : decode cX11_looksAs 24 = .ok (.ireturn, 1) := by decide +kernel
theorem dX11_looksAs_25 : decode cX11_looksAs 25 = .ok (.iload_n 1, 1) := by decide +kernel
theorem dX11_looksAs_26 : decode cX11_looksAs 26 = .ok (.iconst 2, 1) := by decide +kernel
theorem dX11_looksAs_27 : decode cX11_looksAs 27 = .ok (.if_icmp .ne 17, 3) := by decide +kernel
theorem dX11_looksAs_30 : decode cX11_looksAs 30 = .ok (.aload_n 0, 1) := by decide +kernel
theorem dX11_looksAs_31 : decode cX11_looksAs 31 = .ok (.bipush 30, 2) := by decide +kernel
theorem dX11_looksAs_33 : decode cX11_looksAs 33 = .ok (.invokevirtual 358, 3) := by decide +kernel
theorem dX11_looksAs_36 : decode cX11_looksAs 36 = .ok (.aload_n 0, 1) := by decide +kernel
theorem dX11_looksAs_37 : decode cX11_looksAs 37 = .ok (.iconst 0, 1) := by decide +kernel
theorem dX11_looksAs_38 : decode cX11_looksAs 38 = .ok (.iload_n 2, 1) := by decide +kernel
theorem dX11_looksAs_39 : decode cX11_looksAs 39 = .ok (.invokevirtual 368, 3) := by decide +kernel
theorem dX11_looksAs_42 : decode cX11_looksAs 42 = .ok (.ineg, 1) := by decide +kernel
theorem dX11_looksAs_43 : decode cX11_looksAs 43 = .ok (.ireturn, 1) := by decide +kernel
theorem dX11_looksAs_44 : decode cX11_looksAs 44 = .ok (.iload_n 1, 1) := by decide +kernel
theorem dX11_looksAs_45 : decode cX11_looksAs 45 = .ok (.bipush 7, 2) := by decide +kernel
theorem dX11_looksAs_47 : decode cX11_looksAs 47 = .ok (.if_icmp .ne 28, 3) := by decide +kernel
theorem dX11_looksAs_50 : decode cX11_looksAs 50 = .ok (.aload_n 0, 1) := by decide +kernel
theorem dX11_looksAs_51 : decode cX11_looksAs 51 = .ok (.bipush 80, 2) := by decide +kernel
theorem dX11_looksAs_53 : decode cX11_looksAs 53 = .ok (.invokevirtual 358, 3) := by decide +kernel
theorem dX11_looksAs_56 : decode cX11_looksAs 56 = .ok (.aload_n 0, 1) := by decide +kernel
theorem dX11_looksAs_57 : decode cX11_looksAs 57 = .ok (.iconst 4, 1) := by decide +kernel
theorem dX11_looksAs_58 : decode cX11_looksAs 58 = .ok (.iload_n 2, 1) := by decide +kernel
theorem dX11_looksAs_59 : decode cX11_looksAs 59 = .ok (.invokevirtual 368, 3) := by decide +kernel
theorem dX11_looksAs_62 : decode cX11_looksAs 62 = .ok (.istore_n 3, 1) := by decide +kernel
theorem dX11_looksAs_63 : decode cX11_looksAs 63 = .ok (.iload_n 3, 1) := by decide +kernel
theorem dX11_looksAs_64 : decode cX11_looksAs 64 = .ok (.aload_n 0, 1) := by decide +kernel
theorem dX11_looksAs_65 : decode cX11_looksAs 65 = .ok (.aload_n 0, 1) := by decide +kernel
theorem dX11_looksAs_66 : decode cX11_looksAs 66 = .ok (.getfield 371, 3) := by decide +kernel
theorem dX11_looksAs_69 : decode cX11_looksAs 69 = .ok (.iconst 2, 1) := by decide +kernel
theorem dX11_looksAs_70 : decode cX11_looksAs 70 = .ok (.invokevirtual 374, 3) := by decide +kernel
theorem dX11_looksAs_73 : decode cX11_looksAs 73 = .ok (.iadd, 1) := by decide +kernel
theorem dX11_looksAs_74 : decode cX11_looksAs 74 = .ok (.ireturn, 1) := by decide +kernel
theorem dX11_looksAs_75 : decode cX11_looksAs 75 = .ok (.aload_n 0, 1) := by decide +kernel
theorem dX11_looksAs_76 : decode cX11_looksAs 76 = .ok (.bipush 10, 2) := by decide +kernel
theorem dX11_looksAs_78 : decode cX11_looksAs 78 = .ok (.invokevirtual 358, 3) := by decide +kernel
theorem dX11_looksAs_81 : decode cX11_looksAs 81 = .ok (.aload_n 0, 1) := by decide +kernel
theorem dX11_looksAs_82 : decode cX11_looksAs 82 = .ok (.aload_n 0, 1) := by decide +kernel
theorem dX11_looksAs_83 : decode cX11_looksAs 83 = .ok (.getfield 371, 3) := by decide +kernel
theorem dX11_looksAs_86 : decode cX11_looksAs 86 = .ok (.iload_n 2, 1) := by decide +kernel
theorem dX11_looksAs_87 : decode cX11_looksAs 87 = .ok (.invokevirtual 362, 3) := by decide +kernel
theorem dX11_looksAs_90 : decode cX11_looksAs 90 = .ok (.iconst 2, 1) := by decide +kernel
theorem dX11_looksAs_91 : decode cX11_looksAs 91 = .ok (.imul, 1) := by decide +kernel
theorem dX11_looksAs_92 : decode cX11_looksAs 92 = .ok (.ireturn, 1) := by decide +kernel
theorem dX11_shutsAs_0 : decode cX11_shutsAs 0 = .ok (.iload_n 1, 1) := by decide +kernel
theorem dX11_shutsAs_1 : decode cX11_shutsAs 1 = .ok (.iconst 3, 1) := by decide +kernel
theorem dX11_shutsAs_2 : decode cX11_shutsAs 2 = .ok (.if_icmp .eq 8, 3) := by decide +kernel
theorem dX11_shutsAs_5 : decode cX11_shutsAs 5 = .ok (.iload_n 1, 1) := by decide +kernel
theorem dX11_shutsAs_6 : decode cX11_shutsAs 6 = .ok (.iconst 5, 1) := by decide +kernel
theorem dX11_shutsAs_7 : decode cX11_shutsAs 7 = .ok (.if_icmp .ne 18, 3) := by decide +kernel
theorem dX11_shutsAs_10 : decode cX11_shutsAs 10 = .ok (.aload_n 0, 1) := by decide +kernel
theorem dX11_shutsAs_11 : decode cX11_shutsAs 11 = .ok (.bipush 40, 2) := by decide +kernel
theorem dX11_shutsAs_13 : decode cX11_shutsAs 13 = .ok (.invokevirtual 358, 3) := by decide +kernel
theorem dX11_shutsAs_16 : decode cX11_shutsAs 16 = .ok (.aload_n 0, 1) := by decide +kernel
theorem dX11_shutsAs_17 : decode cX11_shutsAs 17 = .ok (.iconst 2, 1) := by decide +kernel
theorem dX11_shutsAs_18 : decode cX11_shutsAs 18 = .ok (.iload_n 2, 1) := by decide +kernel
theorem dX11_shutsAs_19 : decode cX11_shutsAs 19 = .ok (.invokevirtual 374, 3) := by decide +kernel
theorem dX11_shutsAs_22 : decode cX11_shutsAs 22 = .ok (.iconst 3, 1) := by decide +kernel
theorem dX11_shutsAs_23 : decode cX11_shutsAs 23 = .ok (.imul, 1) := by decide +kernel
theorem dX11_shutsAs_24 : decode cX11_shutsAs 24 = .ok (.ireturn, 1) := by decide +kernel
theorem dX11_shutsAs_25 : decode cX11_shutsAs 25 = .ok (.iload_n 1, 1) := by decide +kernel
theorem dX11_shutsAs_26 : decode cX11_shutsAs 26 = .ok (.iconst 4, 1) := by decide +kernel
theorem dX11_shutsAs_27 : decode cX11_shutsAs 27 = .ok (.if_icmp .eq 9, 3) := by decide +kernel
theorem dX11_shutsAs_30 : decode cX11_shutsAs 30 = .ok (.iload_n 1, 1) := by decide +kernel
theorem dX11_shutsAs_31 : decode cX11_shutsAs 31 = .ok (.bipush 7, 2) := by decide +kernel
theorem dX11_shutsAs_33 : decode cX11_shutsAs 33 = .ok (.if_icmp .ne 28, 3) := by decide +kernel
theorem dX11_shutsAs_36 : decode cX11_shutsAs 36 = .ok (.aload_n 0, 1) := by decide +kernel
theorem dX11_shutsAs_37 : decode cX11_shutsAs 37 = .ok (.bipush 50, 2) := by decide +kernel
theorem dX11_shutsAs_39 : decode cX11_shutsAs 39 = .ok (.invokevirtual 358, 3) := by decide +kernel
theorem dX11_shutsAs_42 : decode cX11_shutsAs 42 = .ok (.aload_n 0, 1) := by decide +kernel
theorem dX11_shutsAs_43 : decode cX11_shutsAs 43 = .ok (.iconst 1, 1) := by decide +kernel
theorem dX11_shutsAs_44 : decode cX11_shutsAs 44 = .ok (.iload_n 2, 1) := by decide +kernel
theorem dX11_shutsAs_45 : decode cX11_shutsAs 45 = .ok (.invokevirtual 374, 3) := by decide +kernel
theorem dX11_shutsAs_48 : decode cX11_shutsAs 48 = .ok (.istore_n 3, 1) := by decide +kernel
theorem dX11_shutsAs_49 : decode cX11_shutsAs 49 = .ok (.iload_n 3, 1) := by decide +kernel
theorem dX11_shutsAs_50 : decode cX11_shutsAs 50 = .ok (.aload_n 0, 1) := by decide +kernel
theorem dX11_shutsAs_51 : decode cX11_shutsAs 51 = .ok (.aload_n 0, 1) := by decide +kernel
theorem dX11_shutsAs_52 : decode cX11_shutsAs 52 = .ok (.getfield 371, 3) := by decide +kernel
theorem dX11_shutsAs_55 : decode cX11_shutsAs 55 = .ok (.iconst 2, 1) := by decide +kernel
theorem dX11_shutsAs_56 : decode cX11_shutsAs 56 = .ok (.invokevirtual 362, 3) := by decide +kernel
theorem dX11_shutsAs_59 : decode cX11_shutsAs 59 = .ok (.isub, 1) := by decide +kernel
theorem dX11_shutsAs_60 : decode cX11_shutsAs 60 = .ok (.ireturn, 1) := by decide +kernel
theorem dX11_shutsAs_61 : decode cX11_shutsAs 61 = .ok (.aload_n 0, 1) := by decide +kernel
theorem dX11_shutsAs_62 : decode cX11_shutsAs 62 = .ok (.bipush 11, 2) := by decide +kernel
theorem dX11_shutsAs_64 : decode cX11_shutsAs 64 = .ok (.invokevirtual 358, 3) := by decide +kernel
theorem dX11_shutsAs_67 : decode cX11_shutsAs 67 = .ok (.iload_n 2, 1) := by decide +kernel
theorem dX11_shutsAs_68 : decode cX11_shutsAs 68 = .ok (.aload_n 0, 1) := by decide +kernel
theorem dX11_shutsAs_69 : decode cX11_shutsAs 69 = .ok (.getfield 365, 3) := by decide +kernel
theorem dX11_shutsAs_72 : decode cX11_shutsAs 72 = .ok (.ixor, 1) := by decide +kernel
theorem dX11_shutsAs_73 : decode cX11_shutsAs 73 = .ok (.ireturn, 1) := by decide +kernel
theorem dX11_tellsAs_0 : decode cX11_tellsAs 0 = .ok (.iload_n 1, 1) := by decide +kernel
theorem dX11_tellsAs_1 : decode cX11_tellsAs 1 = .ok (.iconst 5, 1) := by decide +kernel
theorem dX11_tellsAs_2 : decode cX11_tellsAs 2 = .ok (.if_icmp .ne 18, 3) := by decide +kernel
theorem dX11_tellsAs_5 : decode cX11_tellsAs 5 = .ok (.aload_n 0, 1) := by decide +kernel
theorem dX11_tellsAs_6 : decode cX11_tellsAs 6 = .ok (.bipush 60, 2) := by decide +kernel
theorem dX11_tellsAs_8 : decode cX11_tellsAs 8 = .ok (.invokevirtual 358, 3) := by decide +kernel
theorem dX11_tellsAs_11 : decode cX11_tellsAs 11 = .ok (.aload_n 0, 1) := by decide +kernel
theorem dX11_tellsAs_12 : decode cX11_tellsAs 12 = .ok (.iconst 3, 1) := by decide +kernel
theorem dX11_tellsAs_13 : decode cX11_tellsAs 13 = .ok (.iload_n 2, 1) := by decide +kernel
theorem dX11_tellsAs_14 : decode cX11_tellsAs 14 = .ok (.invokevirtual 377, 3) := by decide +kernel
theorem dX11_tellsAs_17 : decode cX11_tellsAs 17 = .ok (.iconst 5, 1) := by decide +kernel
theorem dX11_tellsAs_18 : decode cX11_tellsAs 18 = .ok (.ixor, 1) := by decide +kernel
theorem dX11_tellsAs_19 : decode cX11_tellsAs 19 = .ok (.ireturn, 1) := by decide +kernel
theorem dX11_tellsAs_20 : decode cX11_tellsAs 20 = .ok (.iload_n 1, 1) := by decide +kernel
theorem dX11_tellsAs_21 : decode cX11_tellsAs 21 = .ok (.bipush 7, 2) := by decide +kernel
theorem dX11_tellsAs_23 : decode cX11_tellsAs 23 = .ok (.if_icmp .ne 18, 3) := by decide +kernel
theorem dX11_tellsAs_26 : decode cX11_tellsAs 26 = .ok (.aload_n 0, 1) := by decide +kernel
theorem dX11_tellsAs_27 : decode cX11_tellsAs 27 = .ok (.bipush 81, 2) := by decide +kernel
theorem dX11_tellsAs_29 : decode cX11_tellsAs 29 = .ok (.invokevirtual 358, 3) := by decide +kernel
theorem dX11_tellsAs_32 : decode cX11_tellsAs 32 = .ok (.aload_n 0, 1) := by decide +kernel
theorem dX11_tellsAs_33 : decode cX11_tellsAs 33 = .ok (.iconst 4, 1) := by decide +kernel
theorem dX11_tellsAs_34 : decode cX11_tellsAs 34 = .ok (.iload_n 2, 1) := by decide +kernel
theorem dX11_tellsAs_35 : decode cX11_tellsAs 35 = .ok (.invokevirtual 377, 3) := by decide +kernel
theorem dX11_tellsAs_38 : decode cX11_tellsAs 38 = .ok (.iconst 1, 1) := by decide +kernel
theorem dX11_tellsAs_39 : decode cX11_tellsAs 39 = .ok (.isub, 1) := by decide +kernel
theorem dX11_tellsAs_40 : decode cX11_tellsAs 40 = .ok (.ireturn, 1) := by decide +kernel
theorem dX11_tellsAs_41 : decode cX11_tellsAs 41 = .ok (.aload_n 0, 1) := by decide +kernel
theorem dX11_tellsAs_42 : decode cX11_tellsAs 42 = .ok (.iconst 2, 1) := by decide +kernel
theorem dX11_tellsAs_43 : decode cX11_tellsAs 43 = .ok (.invokevirtual 358, 3) := by decide +kernel
theorem dX11_tellsAs_46 : decode cX11_tellsAs 46 = .ok (.aload_n 0, 1) := by decide +kernel
theorem dX11_tellsAs_47 : decode cX11_tellsAs 47 = .ok (.aload_n 0, 1) := by decide +kernel
theorem dX11_tellsAs_48 : decode cX11_tellsAs 48 = .ok (.getfield 371, 3) := by decide +kernel
theorem dX11_tellsAs_51 : decode cX11_tellsAs 51 = .ok (.iload_n 2, 1) := by decide +kernel
theorem dX11_tellsAs_52 : decode cX11_tellsAs 52 = .ok (.invokevirtual 368, 3) := by decide +kernel
theorem dX11_tellsAs_55 : decode cX11_tellsAs 55 = .ok (.istore_n 3, 1) := by decide +kernel
theorem dX11_tellsAs_56 : decode cX11_tellsAs 56 = .ok (.iload_n 3, 1) := by decide +kernel
theorem dX11_tellsAs_57 : decode cX11_tellsAs 57 = .ok (.aload_n 0, 1) := by decide +kernel
theorem dX11_tellsAs_58 : decode cX11_tellsAs 58 = .ok (.aload_n 0, 1) := by decide +kernel
theorem dX11_tellsAs_59 : decode cX11_tellsAs 59 = .ok (.getfield 371, 3) := by decide +kernel
theorem dX11_tellsAs_62 : decode cX11_tellsAs 62 = .ok (.iconst 1, 1) := by decide +kernel
theorem dX11_tellsAs_63 : decode cX11_tellsAs 63 = .ok (.invokevirtual 374, 3) := by decide +kernel
theorem dX11_tellsAs_66 : decode cX11_tellsAs 66 = .ok (.isub, 1) := by decide +kernel
theorem dX11_tellsAs_67 : decode cX11_tellsAs 67 = .ok (.ireturn, 1) := by decide +kernel
theorem dX11_act_0 : decode cX11_act 0 = .ok (.aload_n 0, 1) := by decide +kernel
theorem dX11_act_1 : decode cX11_act 1 = .ok (.iconst 0, 1) := by decide +kernel
theorem dX11_act_2 : decode cX11_act 2 = .ok (.putfield 355, 3) := by decide +kernel
theorem dX11_act_5 : decode cX11_act 5 = .ok (.aload_n 0, 1) := by decide +kernel
theorem dX11_act_6 : decode cX11_act 6 = .ok (.iload_n 1, 1) := by decide +kernel
theorem dX11_act_7 : decode cX11_act 7 = .ok (.invokevirtual 380, 3) := by decide +kernel
theorem dX11_act_10 : decode cX11_act 10 = .ok (.ifCond .ne 5, 3) := by decide +kernel
theorem dX11_act_13 : decode cX11_act 13 = .ok (.iconst 0, 1) := by decide +kernel
theorem dX11_act_14 : decode cX11_act 14 = .ok (.ireturn, 1) := by decide +kernel
theorem dX11_act_15 : decode cX11_act 15 = .ok (.aload_n 0, 1) := by decide +kernel
theorem dX11_act_16 : decode cX11_act 16 = .ok (.aload_n 0, 1) := by decide +kernel
theorem dX11_act_17 : decode cX11_act 17 = .ok (.getfield 59, 3) := by decide +kernel
theorem dX11_act_20 : decode cX11_act 20 = .ok (.iload_n 1, 1) := by decide +kernel
theorem dX11_act_21 : decode cX11_act 21 = .ok (.iaload, 1) := by decide +kernel
theorem dX11_act_22 : decode cX11_act 22 = .ok (.putfield 371, 3) := by decide +kernel
theorem dX11_act_25 : decode cX11_act 25 = .ok (.aload_n 0, 1) := by decide +kernel
theorem dX11_act_26 : decode cX11_act 26 = .ok (.iload_n 1, 1) := by decide +kernel
theorem dX11_act_27 : decode cX11_act 27 = .ok (.putfield 365, 3) := by decide +kernel
theorem dX11_act_30 : decode cX11_act 30 = .ok (.iload_n 2, 1) := by decide +kernel
theorem dX11_act_31 : decode cX11_act 31 = .ok (.tableswitch 69 0 3 #[29, 39, 49, 59], 29) := by decide +kernel
theorem dX11_act_60 : decode cX11_act 60 = .ok (.aload_n 0, 1) := by decide +kernel
theorem dX11_act_61 : decode cX11_act 61 = .ok (.aload_n 0, 1) := by decide +kernel
theorem dX11_act_62 : decode cX11_act 62 = .ok (.getfield 371, 3) := by decide +kernel
theorem dX11_act_65 : decode cX11_act 65 = .ok (.iload_n 3, 1) := by decide +kernel
theorem dX11_act_66 : decode cX11_act 66 = .ok (.invokevirtual 362, 3) := by decide +kernel
theorem dX11_act_69 : decode cX11_act 69 = .ok (.ireturn, 1) := by decide +kernel
theorem dX11_act_70 : decode cX11_act 70 = .ok (.aload_n 0, 1) := by decide +kernel
theorem dX11_act_71 : decode cX11_act 71 = .ok (.aload_n 0, 1) := by decide +kernel
theorem dX11_act_72 : decode cX11_act 72 = .ok (.getfield 371, 3) := by decide +kernel
theorem dX11_act_75 : decode cX11_act 75 = .ok (.iload_n 3, 1) := by decide +kernel
theorem dX11_act_76 : decode cX11_act 76 = .ok (.invokevirtual 368, 3) := by decide +kernel
theorem dX11_act_79 : decode cX11_act 79 = .ok (.ireturn, 1) := by decide +kernel
theorem dX11_act_80 : decode cX11_act 80 = .ok (.aload_n 0, 1) := by decide +kernel
theorem dX11_act_81 : decode cX11_act 81 = .ok (.aload_n 0, 1) := by decide +kernel
theorem dX11_act_82 : decode cX11_act 82 = .ok (.getfield 371, 3) := by decide +kernel
theorem dX11_act_85 : decode cX11_act 85 = .ok (.iload_n 3, 1) := by decide +kernel
theorem dX11_act_86 : decode cX11_act 86 = .ok (.invokevirtual 374, 3) := by decide +kernel
theorem dX11_act_89 : decode cX11_act 89 = .ok (.ireturn, 1) := by decide +kernel
theorem dX11_act_90 : decode cX11_act 90 = .ok (.aload_n 0, 1) := by decide +kernel
theorem dX11_act_91 : decode cX11_act 91 = .ok (.aload_n 0, 1) := by decide +kernel
theorem dX11_act_92 : decode cX11_act 92 = .ok (.getfield 371, 3) := by decide +kernel
theorem dX11_act_95 : decode cX11_act 95 = .ok (.iload_n 3, 1) := by decide +kernel
theorem dX11_act_96 : decode cX11_act 96 = .ok (.invokevirtual 377, 3) := by decide +kernel
theorem dX11_act_99 : decode cX11_act 99 = .ok (.ireturn, 1) := by decide +kernel
theorem dX11_act_100 : decode cX11_act 100 = .ok (.iconst 0, 1) := by decide +kernel
theorem dX11_act_101 : decode cX11_act 101 = .ok (.ireturn, 1) := by decide +kernel
theorem dX11_trace_0 : decode cX11_trace 0 = .ok (.iload_n 1, 1) := by decide +kernel
theorem dX11_trace_1 : decode cX11_trace 1 = .ok (.ifCond .lt 26, 3) := by decide +kernel
theorem dX11_trace_4 : decode cX11_trace 4 = .ok (.iload_n 1, 1) := by decide +kernel
theorem dX11_trace_5 : decode cX11_trace 5 = .ok (.aload_n 0, 1) := by decide +kernel
theorem dX11_trace_6 : decode cX11_trace 6 = .ok (.getfield 355, 3) := by decide +kernel
theorem dX11_trace_9 : decode cX11_trace 9 = .ok (.if_icmp .ge 18, 3) := by decide +kernel
theorem dX11_trace_12 : decode cX11_trace 12 = .ok (.iload_n 1, 1) := by decide +kernel
theorem dX11_trace_13 : decode cX11_trace 13 = .ok (.bipush 24, 2) := by decide +kernel
theorem dX11_trace_15 : decode cX11_trace 15 = .ok (.if_icmp .ge 12, 3) := by decide +kernel
theorem dX11_trace_18 : decode cX11_trace 18 = .ok (.aload_n 0, 1) := by decide +kernel
theorem dX11_trace_19 : decode cX11_trace 19 = .ok (.getfield 62, 3) := by decide +kernel
theorem dX11_trace_22 : decode cX11_trace 22 = .ok (.iload_n 1, 1) := by decide +kernel
theorem dX11_trace_23 : decode cX11_trace 23 = .ok (.iaload, 1) := by decide +kernel
theorem dX11_trace_24 : decode cX11_trace 24 = .ok (.goto 4, 3) := by decide +kernel
theorem dX11_trace_27 : decode cX11_trace 27 = .ok (.iconst (-1), 1) := by decide +kernel
theorem dX11_trace_28 : decode cX11_trace 28 = .ok (.ireturn, 1) := by decide +kernel
theorem dX11_isShelf_0 : decode cX11_isShelf 0 = .ok (.iload_n 0, 1) := by decide +kernel
theorem dX11_isShelf_1 : decode cX11_isShelf 1 = .ok (.i2l, 1) := by decide +kernel
theorem dX11_isShelf_2 : decode cX11_isShelf 2 = .ok (.lconst 0, 1) := by decide +kernel
theorem dX11_isShelf_3 : decode cX11_isShelf 3 = .ok (.ldc2_w 115, 3) := by decide +kernel
theorem dX11_isShelf_6 : decode cX11_isShelf 6 = .ok (.invokestatic 93, 3) := by decide +kernel
theorem dX11_isShelf_9 : decode cX11_isShelf 9 = .ok (.ireturn, 1) := by decide +kernel
theorem dX11_keep_0 : decode cX11_keep 0 = .ok (.iload_n 1, 1) := by decide +kernel
theorem dX11_keep_1 : decode cX11_keep 1 = .ok (.invokestatic 105, 3) := by decide +kernel
theorem dX11_keep_4 : decode cX11_keep 4 = .ok (.ifCond .eq 16, 3) := by decide +kernel
theorem dX11_keep_7 : decode cX11_keep 7 = .ok (.iload_n 2, 1) := by decide +kernel
theorem dX11_keep_8 : decode cX11_keep 8 = .ok (.iconst (-1), 1) := by decide +kernel
theorem dX11_keep_9 : decode cX11_keep 9 = .ok (.if_icmp .eq 13, 3) := by decide +kernel
theorem dX11_keep_12 : decode cX11_keep 12 = .ok (.aload_n 0, 1) := by decide +kernel
theorem dX11_keep_13 : decode cX11_keep 13 = .ok (.iload_n 2, 1) := by decide +kernel
theorem dX11_keep_14 : decode cX11_keep 14 = .ok (.invokevirtual 380, 3) := by decide +kernel
theorem dX11_keep_17 : decode cX11_keep 17 = .ok (.ifCond .ne 5, 3) := by decide +kernel
theorem dX11_keep_20 : decode cX11_keep 20 = .ok (.iconst (-1), 1) := by decide +kernel
theorem dX11_keep_21 : decode cX11_keep 21 = .ok (.ireturn, 1) := by decide +kernel
theorem dX11_keep_22 : decode cX11_keep 22 = .ok (.aload_n 0, 1) := by decide +kernel
theorem dX11_keep_23 : decode cX11_keep 23 = .ok (.getfield 65, 3) := by decide +kernel
theorem dX11_keep_26 : decode cX11_keep 26 = .ok (.iload_n 1, 1) := by decide +kernel
theorem dX11_keep_27 : decode cX11_keep 27 = .ok (.iload_n 2, 1) := by decide +kernel
theorem dX11_keep_28 : decode cX11_keep 28 = .ok (.iastore, 1) := by decide +kernel
theorem dX11_keep_29 : decode cX11_keep 29 = .ok (.aload_n 0, 1) := by decide +kernel
theorem dX11_keep_30 : decode cX11_keep 30 = .ok (.getfield 68, 3) := by decide +kernel
theorem dX11_keep_33 : decode cX11_keep 33 = .ok (.iload_n 1, 1) := by decide +kernel
theorem dX11_keep_34 : decode cX11_keep 34 = .ok (.iconst 0, 1) := by decide +kernel
theorem dX11_keep_35 : decode cX11_keep 35 = .ok (.iastore, 1) := by decide +kernel
theorem dX11_keep_36 : decode cX11_keep 36 = .ok (.iconst 1, 1) := by decide +kernel
theorem dX11_keep_37 : decode cX11_keep 37 = .ok (.ireturn, 1) := by decide +kernel
theorem dX11_row_0 : decode cX11_row 0 = .ok (.iload_n 1, 1) := by decide +kernel
theorem dX11_row_1 : decode cX11_row 1 = .ok (.invokestatic 105, 3) := by decide +kernel
theorem dX11_row_4 : decode cX11_row 4 = .ok (.ifCond .eq 21, 3) := by decide +kernel
theorem dX11_row_7 : decode cX11_row 7 = .ok (.iload_n 2, 1) := by decide +kernel
theorem dX11_row_8 : decode cX11_row 8 = .ok (.i2l, 1) := by decide +kernel
theorem dX11_row_9 : decode cX11_row 9 = .ok (.lconst 0, 1) := by decide +kernel
theorem dX11_row_10 : decode cX11_row 10 = .ok (.ldc2_w 334, 3) := by decide +kernel
theorem dX11_row_13 : decode cX11_row 13 = .ok (.invokestatic 93, 3) := by decide +kernel
theorem dX11_row_16 : decode cX11_row 16 = .ok (.ifCond .eq 9, 3) := by decide +kernel
theorem dX11_row_19 : decode cX11_row 19 = .ok (.iload_n 3, 1) := by decide +kernel
theorem dX11_row_20 : decode cX11_row 20 = .ok (.bipush 60, 2) := by decide +kernel
theorem dX11_row_22 : decode cX11_row 22 = .ok (.if_icmp .le 5, 3) := by decide +kernel
theorem dX11_row_25 : decode cX11_row 25 = .ok (.iconst (-1), 1) := by decide +kernel
theorem dX11_row_26 : decode cX11_row 26 = .ok (.ireturn, 1) := by decide +kernel
theorem dX11_row_27 : decode cX11_row 27 = .ok (.iload_n 3, 1) := by decide +kernel
theorem dX11_row_28 : decode cX11_row 28 = .ok (.ifCond .ge 6, 3) := by decide +kernel
theorem dX11_row_31 : decode cX11_row 31 = .ok (.bipush (-14), 2) := by decide +kernel
theorem dX11_row_33 : decode cX11_row 33 = .ok (.ireturn, 1) := by decide +kernel
theorem dX11_row_34 : decode cX11_row 34 = .ok (.aload_n 0, 1) := by decide +kernel
theorem dX11_row_35 : decode cX11_row 35 = .ok (.getfield 65, 3) := by decide +kernel
theorem dX11_row_38 : decode cX11_row 38 = .ok (.iload_n 1, 1) := by decide +kernel
theorem dX11_row_39 : decode cX11_row 39 = .ok (.bipush 50, 2) := by decide +kernel
theorem dX11_row_41 : decode cX11_row 41 = .ok (.iload_n 2, 1) := by decide +kernel
theorem dX11_row_42 : decode cX11_row 42 = .ok (.iadd, 1) := by decide +kernel
theorem dX11_row_43 : decode cX11_row 43 = .ok (.iastore, 1) := by decide +kernel
theorem dX11_row_44 : decode cX11_row 44 = .ok (.aload_n 0, 1) := by decide +kernel
theorem dX11_row_45 : decode cX11_row 45 = .ok (.getfield 68, 3) := by decide +kernel
theorem dX11_row_48 : decode cX11_row 48 = .ok (.iload_n 1, 1) := by decide +kernel
theorem dX11_row_49 : decode cX11_row 49 = .ok (.iload_n 3, 1) := by decide +kernel
theorem dX11_row_50 : decode cX11_row 50 = .ok (.iastore, 1) := by decide +kernel
theorem dX11_row_51 : decode cX11_row 51 = .ok (.bipush 60, 2) := by decide +kernel
theorem dX11_row_53 : decode cX11_row 53 = .ok (.iload_n 1, 1) := by decide +kernel
theorem dX11_row_54 : decode cX11_row 54 = .ok (.imul, 1) := by decide +kernel
theorem dX11_row_55 : decode cX11_row 55 = .ok (.istore 4, 2) := by decide +kernel
theorem dX11_row_57 : decode cX11_row 57 = .ok (.iload 4, 2) := by decide +kernel
theorem dX11_row_59 : decode cX11_row 59 = .ok (.bipush 60, 2) := by decide +kernel
theorem dX11_row_61 : decode cX11_row 61 = .ok (.iload_n 1, 1) := by decide +kernel
theorem dX11_row_62 : decode cX11_row 62 = .ok (.imul, 1) := by decide +kernel
theorem dX11_row_63 : decode cX11_row 63 = .ok (.bipush 60, 2) := by decide +kernel
theorem dX11_row_65 : decode cX11_row 65 = .ok (.iadd, 1) := by decide +kernel
theorem dX11_row_66 : decode cX11_row 66 = .ok (.if_icmp .ge 17, 3) := by decide +kernel
theorem dX11_row_69 : decode cX11_row 69 = .ok (.aload_n 0, 1) := by decide +kernel
theorem dX11_row_70 : decode cX11_row 70 = .ok (.getfield 71, 3) := by decide +kernel
theorem dX11_row_73 : decode cX11_row 73 = .ok (.iload 4, 2) := by decide +kernel
theorem dX11_row_75 : decode cX11_row 75 = .ok (.lconst 0, 1) := by decide +kernel
theorem dX11_row_76 : decode cX11_row 76 = .ok (.lastore, 1) := by decide +kernel
theorem dX11_row_77 : decode cX11_row 77 = .ok (.iinc 4 1, 3) := by decide +kernel
theorem dX11_row_80 : decode cX11_row 80 = .ok (.goto (-23), 3) := by decide +kernel
theorem dX11_row_83 : decode cX11_row 83 = .ok (.iconst 1, 1) := by decide +kernel
theorem dX11_row_84 : decode cX11_row 84 = .ok (.ireturn, 1) := by decide +kernel
theorem dX11_refusal_0 : decode cX11_refusal 0 = .ok (.iload_n 1, 1) := by decide +kernel
theorem dX11_refusal_1 : decode cX11_refusal 1 = .ok (.invokestatic 105, 3) := by decide +kernel
theorem dX11_refusal_4 : decode cX11_refusal 4 = .ok (.ifCond .ne 5, 3) := by decide +kernel
theorem dX11_refusal_7 : decode cX11_refusal 7 = .ok (.iconst (-1), 1) := by decide +kernel
theorem dX11_refusal_8 : decode cX11_refusal 8 = .ok (.ireturn, 1) := by decide +kernel
theorem dX11_refusal_9 : decode cX11_refusal 9 = .ok (.aload_n 0, 1) := by decide +kernel
theorem dX11_refusal_10 : decode cX11_refusal 10 = .ok (.getfield 65, 3) := by decide +kernel
theorem dX11_refusal_13 : decode cX11_refusal 13 = .ok (.iload_n 1, 1) := by decide +kernel
theorem dX11_refusal_14 : decode cX11_refusal 14 = .ok (.iaload, 1) := by decide +kernel
theorem dX11_refusal_15 : decode cX11_refusal 15 = .ok (.ifCond .ge 6, 3) := by decide +kernel
theorem dX11_refusal_18 : decode cX11_refusal 18 = .ok (.bipush (-11), 2) := by decide +kernel
theorem dX11_refusal_20 : decode cX11_refusal 20 = .ok (.ireturn, 1) := by decide +kernel
theorem dX11_refusal_21 : decode cX11_refusal 21 = .ok (.aload_n 0, 1) := by decide +kernel
theorem dX11_refusal_22 : decode cX11_refusal 22 = .ok (.getfield 65, 3) := by decide +kernel
theorem dX11_refusal_25 : decode cX11_refusal 25 = .ok (.iload_n 1, 1) := by decide +kernel
theorem dX11_refusal_26 : decode cX11_refusal 26 = .ok (.iaload, 1) := by decide +kernel
theorem dX11_refusal_27 : decode cX11_refusal 27 = .ok (.bipush 50, 2) := by decide +kernel
theorem dX11_refusal_29 : decode cX11_refusal 29 = .ok (.if_icmp .ge 6, 3) := by decide +kernel
theorem dX11_refusal_32 : decode cX11_refusal 32 = .ok (.bipush (-12), 2) := by decide +kernel
theorem dX11_refusal_34 : decode cX11_refusal 34 = .ok (.ireturn, 1) := by decide +kernel
theorem dX11_refusal_35 : decode cX11_refusal 35 = .ok (.iload_n 2, 1) := by decide +kernel
theorem dX11_refusal_36 : decode cX11_refusal 36 = .ok (.ifCond .lt 17, 3) := by decide +kernel
theorem dX11_refusal_39 : decode cX11_refusal 39 = .ok (.iload_n 2, 1) := by decide +kernel
theorem dX11_refusal_40 : decode cX11_refusal 40 = .ok (.aload_n 0, 1) := by decide +kernel
theorem dX11_refusal_41 : decode cX11_refusal 41 = .ok (.getfield 68, 3) := by decide +kernel
theorem dX11_refusal_44 : decode cX11_refusal 44 = .ok (.iload_n 1, 1) := by decide +kernel
theorem dX11_refusal_45 : decode cX11_refusal 45 = .ok (.iaload, 1) := by decide +kernel
theorem dX11_refusal_46 : decode cX11_refusal 46 = .ok (.if_icmp .ge 7, 3) := by decide +kernel
theorem dX11_refusal_49 : decode cX11_refusal 49 = .ok (.iconst 0, 1) := by decide +kernel
theorem dX11_refusal_50 : decode cX11_refusal 50 = .ok (.goto 5, 3) := by decide +kernel
theorem dX11_refusal_53 : decode cX11_refusal 53 = .ok (.bipush (-13), 2) := by decide +kernel
theorem dX11_refusal_55 : decode cX11_refusal 55 = .ok (.ireturn, 1) := by decide +kernel
theorem dX11_asSort_0 : decode cX11_asSort 0 = .ok (.iload_n 0, 1) := by decide +kernel
theorem dX11_asSort_1 : decode cX11_asSort 1 = .ok (.ifCond .ne 10, 3) := by decide +kernel
theorem dX11_asSort_4 : decode cX11_asSort 4 = .ok (.lload_n 1, 1) := by decide +kernel
theorem dX11_asSort_5 : decode cX11_asSort 5 = .ok (.l2i, 1) := by decide +kernel
theorem dX11_asSort_6 : decode cX11_asSort 6 = .ok (.i2b, 1) := by decide +kernel
theorem dX11_asSort_7 : decode cX11_asSort 7 = .ok (.i2l, 1) := by decide +kernel
theorem dX11_asSort_8 : decode cX11_asSort 8 = .ok (.goto 46, 3) := by decide +kernel
theorem dX11_asSort_11 : decode cX11_asSort 11 = .ok (.iload_n 0, 1) := by decide +kernel
theorem dX11_asSort_12 : decode cX11_asSort 12 = .ok (.iconst 1, 1) := by decide +kernel
theorem dX11_asSort_13 : decode cX11_asSort 13 = .ok (.if_icmp .ne 10, 3) := by decide +kernel
theorem dX11_asSort_16 : decode cX11_asSort 16 = .ok (.lload_n 1, 1) := by decide +kernel
theorem dX11_asSort_17 : decode cX11_asSort 17 = .ok (.l2i, 1) := by decide +kernel
theorem dX11_asSort_18 : decode cX11_asSort 18 = .ok (.i2s, 1) := by decide +kernel
theorem dX11_asSort_19 : decode cX11_asSort 19 = .ok (.i2l, 1) := by decide +kernel
theorem dX11_asSort_20 : decode cX11_asSort 20 = .ok (.goto 34, 3) := by decide +kernel
theorem dX11_asSort_23 : decode cX11_asSort 23 = .ok (.iload_n 0, 1) := by decide +kernel
theorem dX11_asSort_24 : decode cX11_asSort 24 = .ok (.iconst 2, 1) := by decide +kernel
theorem dX11_asSort_25 : decode cX11_asSort 25 = .ok (.if_icmp .ne 9, 3) := by decide +kernel
theorem dX11_asSort_28 : decode cX11_asSort 28 = .ok (.lload_n 1, 1) := by decide +kernel
theorem dX11_asSort_29 : decode cX11_asSort 29 = .ok (.l2i, 1) := by decide +kernel
theorem dX11_asSort_30 : decode cX11_asSort 30 = .ok (.i2l, 1) := by decide +kernel
theorem dX11_asSort_31 : decode cX11_asSort 31 = .ok (.goto 23, 3) := by decide +kernel
theorem dX11_asSort_34 : decode cX11_asSort 34 = .ok (.iload_n 0, 1) := by decide +kernel
theorem dX11_asSort_35 : decode cX11_asSort 35 = .ok (.iconst 4, 1) := by decide +kernel
theorem dX11_asSort_36 : decode cX11_asSort 36 = .ok (.if_icmp .ne 17, 3) := by decide +kernel
theorem dX11_asSort_39 : decode cX11_asSort 39 = .ok (.lload_n 1, 1) := by decide +kernel
theorem dX11_asSort_40 : decode cX11_asSort 40 = .ok (.lconst 0, 1) := by decide +kernel
theorem dX11_asSort_41 : decode cX11_asSort 41 = .ok (.lcmp, 1) := by decide +kernel
theorem dX11_asSort_42 : decode cX11_asSort 42 = .ok (.ifCond .eq 7, 3) := by decide +kernel
theorem dX11_asSort_45 : decode cX11_asSort 45 = .ok (.lconst 1, 1) := by decide +kernel
theorem dX11_asSort_46 : decode cX11_asSort 46 = .ok (.goto 8, 3) := by decide +kernel
theorem dX11_asSort_49 : decode cX11_asSort 49 = .ok (.lconst 0, 1) := by decide +kernel
theorem dX11_asSort_50 : decode cX11_asSort 50 = .ok (.goto 4, 3) := by decide +kernel
theorem dX11_asSort_53 : decode cX11_asSort 53 = .ok (.lload_n 1, 1) := by decide +kernel
theorem dX11_asSort_54 : decode cX11_asSort 54 = .ok (.lreturn, 1) := by decide +kernel
theorem dX11_put_0 : decode cX11_put 0 = .ok (.aload_n 0, 1) := by decide +kernel
theorem dX11_put_1 : decode cX11_put 1 = .ok (.iload_n 1, 1) := by decide +kernel
theorem dX11_put_2 : decode cX11_put 2 = .ok (.iload_n 2, 1) := by decide +kernel
theorem dX11_put_3 : decode cX11_put 3 = .ok (.invokevirtual 383, 3) := by decide +kernel
theorem dX11_put_6 : decode cX11_put 6 = .ok (.istore 5, 2) := by decide +kernel
theorem dX11_put_8 : decode cX11_put 8 = .ok (.iload 5, 2) := by decide +kernel
theorem dX11_put_10 : decode cX11_put 10 = .ok (.ifCond .ne 27, 3) := by decide +kernel
theorem dX11_put_13 : decode cX11_put 13 = .ok (.aload_n 0, 1) := by decide +kernel
theorem dX11_put_14 : decode cX11_put 14 = .ok (.getfield 71, 3) := by decide +kernel
theorem dX11_put_17 : decode cX11_put 17 = .ok (.bipush 60, 2) := by decide +kernel
theorem dX11_put_19 : decode cX11_put 19 = .ok (.iload_n 1, 1) := by decide +kernel
theorem dX11_put_20 : decode cX11_put 20 = .ok (.imul, 1) := by decide +kernel
theorem dX11_put_21 : decode cX11_put 21 = .ok (.iload_n 2, 1) := by decide +kernel
theorem dX11_put_22 : decode cX11_put 22 = .ok (.iadd, 1) := by decide +kernel
theorem dX11_put_23 : decode cX11_put 23 = .ok (.aload_n 0, 1) := by decide +kernel
theorem dX11_put_24 : decode cX11_put 24 = .ok (.getfield 65, 3) := by decide +kernel
theorem dX11_put_27 : decode cX11_put 27 = .ok (.iload_n 1, 1) := by decide +kernel
theorem dX11_put_28 : decode cX11_put 28 = .ok (.iaload, 1) := by decide +kernel
theorem dX11_put_29 : decode cX11_put 29 = .ok (.bipush 50, 2) := by decide +kernel
theorem dX11_put_31 : decode cX11_put 31 = .ok (.isub, 1) := by decide +kernel
theorem dX11_put_32 : decode cX11_put 32 = .ok (.lload_n 3, 1) := by decide +kernel
theorem dX11_put_33 : decode cX11_put 33 = .ok (.invokestatic 386, 3) := by decide +kernel
theorem dX11_put_36 : decode cX11_put 36 = .ok (.lastore, 1) := by decide +kernel
theorem dX11_put_37 : decode cX11_put 37 = .ok (.iload 5, 2) := by decide +kernel
theorem dX11_put_39 : decode cX11_put 39 = .ok (.ifCond .ne 7, 3) := by decide +kernel
theorem dX11_put_42 : decode cX11_put 42 = .ok (.iconst 1, 1) := by decide +kernel
theorem dX11_put_43 : decode cX11_put 43 = .ok (.goto 5, 3) := by decide +kernel
theorem dX11_put_46 : decode cX11_put 46 = .ok (.iload 5, 2) := by decide +kernel
theorem dX11_put_48 : decode cX11_put 48 = .ok (.ireturn, 1) := by decide +kernel
theorem dX11_element_0 : decode cX11_element 0 = .ok (.aload_n 0, 1) := by decide +kernel
theorem dX11_element_1 : decode cX11_element 1 = .ok (.iload_n 1, 1) := by decide +kernel
theorem dX11_element_2 : decode cX11_element 2 = .ok (.iload_n 2, 1) := by decide +kernel
theorem dX11_element_3 : decode cX11_element 3 = .ok (.invokevirtual 383, 3) := by decide +kernel
theorem dX11_element_6 : decode cX11_element 6 = .ok (.ifCond .eq 9, 3) := by decide +kernel
theorem dX11_element_9 : decode cX11_element 9 = .ok (.ldc2_w 174, 3) := by decide +kernel
theorem dX11_element_12 : decode cX11_element 12 = .ok (.goto 14, 3) := by decide +kernel
theorem dX11_element_15 : decode cX11_element 15 = .ok (.aload_n 0, 1) := by decide +kernel
theorem dX11_element_16 : decode cX11_element 16 = .ok (.getfield 71, 3) := by decide +kernel
theorem dX11_element_19 : decode cX11_element 19 = .ok (.bipush 60, 2) := by decide +kernel
theorem dX11_element_21 : decode cX11_element 21 = .ok (.iload_n 1, 1) := by decide +kernel
theorem dX11_element_22 : decode cX11_element 22 = .ok (.imul, 1) := by decide +kernel
theorem dX11_element_23 : decode cX11_element 23 = .ok (.iload_n 2, 1) := by decide +kernel
theorem dX11_element_24 : decode cX11_element 24 = .ok (.iadd, 1) := by decide +kernel
theorem dX11_element_25 : decode cX11_element 25 = .ok (.laload, 1) := by decide +kernel
theorem dX11_element_26 : decode cX11_element 26 = .ok (.lreturn, 1) := by decide +kernel
theorem dX11_shift_0 : decode cX11_shift 0 = .ok (.iload_n 1, 1) := by decide +kernel
theorem dX11_shift_1 : decode cX11_shift 1 = .ok (.invokestatic 105, 3) := by decide +kernel
theorem dX11_shift_4 : decode cX11_shift 4 = .ok (.ifCond .eq 10, 3) := by decide +kernel
theorem dX11_shift_7 : decode cX11_shift 7 = .ok (.iload_n 3, 1) := by decide +kernel
theorem dX11_shift_8 : decode cX11_shift 8 = .ok (.invokestatic 105, 3) := by decide +kernel
theorem dX11_shift_11 : decode cX11_shift 11 = .ok (.ifCond .ne 5, 3) := by decide +kernel
theorem dX11_shift_14 : decode cX11_shift 14 = .ok (.iconst (-1), 1) := by decide +kernel
theorem dX11_shift_15 : decode cX11_shift 15 = .ok (.ireturn, 1) := by decide +kernel
theorem dX11_shift_16 : decode cX11_shift 16 = .ok (.aload_n 0, 1) := by decide +kernel
theorem dX11_shift_17 : decode cX11_shift 17 = .ok (.getfield 65, 3) := by decide +kernel
theorem dX11_shift_20 : decode cX11_shift 20 = .ok (.iload_n 1, 1) := by decide +kernel
theorem dX11_shift_21 : decode cX11_shift 21 = .ok (.iaload, 1) := by decide +kernel
theorem dX11_shift_22 : decode cX11_shift 22 = .ok (.ifCond .lt 12, 3) := by decide +kernel
theorem dX11_shift_25 : decode cX11_shift 25 = .ok (.aload_n 0, 1) := by decide +kernel
theorem dX11_shift_26 : decode cX11_shift 26 = .ok (.getfield 65, 3) := by decide +kernel
theorem dX11_shift_29 : decode cX11_shift 29 = .ok (.iload_n 3, 1) := by decide +kernel
theorem dX11_shift_30 : decode cX11_shift 30 = .ok (.iaload, 1) := by decide +kernel
theorem dX11_shift_31 : decode cX11_shift 31 = .ok (.ifCond .ge 6, 3) := by decide +kernel
theorem dX11_shift_34 : decode cX11_shift 34 = .ok (.bipush (-11), 2) := by decide +kernel
theorem dX11_shift_36 : decode cX11_shift 36 = .ok (.ireturn, 1) := by decide +kernel
theorem dX11_shift_37 : decode cX11_shift 37 = .ok (.aload_n 0, 1) := by decide +kernel
theorem dX11_shift_38 : decode cX11_shift 38 = .ok (.getfield 65, 3) := by decide +kernel
theorem dX11_shift_41 : decode cX11_shift 41 = .ok (.iload_n 1, 1) := by decide +kernel
theorem dX11_shift_42 : decode cX11_shift 42 = .ok (.iaload, 1) := by decide +kernel
theorem dX11_shift_43 : decode cX11_shift 43 = .ok (.bipush 50, 2) := by decide +kernel
theorem dX11_shift_45 : decode cX11_shift 45 = .ok (.if_icmp .lt 18, 3) := by decide +kernel
theorem dX11_shift_48 : decode cX11_shift 48 = .ok (.aload_n 0, 1) := by decide +kernel
theorem dX11_shift_49 : decode cX11_shift 49 = .ok (.getfield 65, 3) := by decide +kernel
theorem dX11_shift_52 : decode cX11_shift 52 = .ok (.iload_n 1, 1) := by decide +kernel
theorem dX11_shift_53 : decode cX11_shift 53 = .ok (.iaload, 1) := by decide +kernel
theorem dX11_shift_54 : decode cX11_shift 54 = .ok (.aload_n 0, 1) := by decide +kernel
theorem dX11_shift_55 : decode cX11_shift 55 = .ok (.getfield 65, 3) := by decide +kernel
theorem dX11_shift_58 : decode cX11_shift 58 = .ok (.iload_n 3, 1) := by decide +kernel
theorem dX11_shift_59 : decode cX11_shift 59 = .ok (.iaload, 1) := by decide +kernel
theorem dX11_shift_60 : decode cX11_shift 60 = .ok (.if_icmp .eq 6, 3) := by decide +kernel
theorem dX11_shift_63 : decode cX11_shift 63 = .ok (.bipush (-12), 2) := by decide +kernel
theorem dX11_shift_65 : decode cX11_shift 65 = .ok (.ireturn, 1) := by decide +kernel
theorem dX11_shift_66 : decode cX11_shift 66 = .ok (.iload 5, 2) := by decide +kernel
theorem dX11_shift_68 : decode cX11_shift 68 = .ok (.ifCond .lt 39, 3) := by decide +kernel
theorem dX11_shift_71 : decode cX11_shift 71 = .ok (.iload_n 2, 1) := by decide +kernel
theorem dX11_shift_72 : decode cX11_shift 72 = .ok (.ifCond .lt 35, 3) := by decide +kernel
theorem dX11_shift_75 : decode cX11_shift 75 = .ok (.iload 4, 2) := by decide +kernel
theorem dX11_shift_77 : decode cX11_shift 77 = .ok (.ifCond .lt 30, 3) := by decide +kernel
theorem dX11_shift_80 : decode cX11_shift 80 = .ok (.iload_n 2, 1) := by decide +kernel
theorem dX11_shift_81 : decode cX11_shift 81 = .ok (.aload_n 0, 1) := by decide +kernel
theorem dX11_shift_82 : decode cX11_shift 82 = .ok (.getfield 68, 3) := by decide +kernel
theorem dX11_shift_85 : decode cX11_shift 85 = .ok (.iload_n 1, 1) := by decide +kernel
theorem dX11_shift_86 : decode cX11_shift 86 = .ok (.iaload, 1) := by decide +kernel
theorem dX11_shift_87 : decode cX11_shift 87 = .ok (.iload 5, 2) := by decide +kernel
theorem dX11_shift_89 : decode cX11_shift 89 = .ok (.isub, 1) := by decide +kernel
theorem dX11_shift_90 : decode cX11_shift 90 = .ok (.if_icmp .gt 17, 3) := by decide +kernel
theorem dX11_shift_93 : decode cX11_shift 93 = .ok (.iload 4, 2) := by decide +kernel
theorem dX11_shift_95 : decode cX11_shift 95 = .ok (.aload_n 0, 1) := by decide +kernel
theorem dX11_shift_96 : decode cX11_shift 96 = .ok (.getfield 68, 3) := by decide +kernel
theorem dX11_shift_99 : decode cX11_shift 99 = .ok (.iload_n 3, 1) := by decide +kernel
theorem dX11_shift_100 : decode cX11_shift 100 = .ok (.iaload, 1) := by decide +kernel
theorem dX11_shift_101 : decode cX11_shift 101 = .ok (.iload 5, 2) := by decide +kernel
theorem dX11_shift_103 : decode cX11_shift 103 = .ok (.isub, 1) := by decide +kernel
theorem dX11_shift_104 : decode cX11_shift 104 = .ok (.if_icmp .le 6, 3) := by decide +kernel
theorem dX11_shift_107 : decode cX11_shift 107 = .ok (.bipush (-13), 2) := by decide +kernel
theorem dX11_shift_109 : decode cX11_shift 109 = .ok (.ireturn, 1) := by decide +kernel
theorem dX11_shift_110 : decode cX11_shift 110 = .ok (.iconst 0, 1) := by decide +kernel
theorem dX11_shift_111 : decode cX11_shift 111 = .ok (.istore 6, 2) := by decide +kernel
theorem dX11_shift_113 : decode cX11_shift 113 = .ok (.iload 6, 2) := by decide +kernel
theorem dX11_shift_115 : decode cX11_shift 115 = .ok (.iload 5, 2) := by decide +kernel
theorem dX11_shift_117 : decode cX11_shift 117 = .ok (.if_icmp .ge 30, 3) := by decide +kernel
theorem dX11_shift_120 : decode cX11_shift 120 = .ok (.aload_n 0, 1) := by decide +kernel
theorem dX11_shift_121 : decode cX11_shift 121 = .ok (.getfield 74, 3) := by decide +kernel
theorem dX11_shift_124 : decode cX11_shift 124 = .ok (.iload 6, 2) := by decide +kernel
theorem dX11_shift_126 : decode cX11_shift 126 = .ok (.aload_n 0, 1) := by decide +kernel
theorem dX11_shift_127 : decode cX11_shift 127 = .ok (.getfield 71, 3) := by decide +kernel
theorem dX11_shift_130 : decode cX11_shift 130 = .ok (.bipush 60, 2) := by decide +kernel
theorem dX11_shift_132 : decode cX11_shift 132 = .ok (.iload_n 1, 1) := by decide +kernel
theorem dX11_shift_133 : decode cX11_shift 133 = .ok (.imul, 1) := by decide +kernel
theorem dX11_shift_134 : decode cX11_shift 134 = .ok (.iload_n 2, 1) := by decide +kernel
theorem dX11_shift_135 : decode cX11_shift 135 = .ok (.iadd, 1) := by decide +kernel
theorem dX11_shift_136 : decode cX11_shift 136 = .ok (.iload 6, 2) := by decide +kernel
theorem dX11_shift_138 : decode cX11_shift 138 = .ok (.iadd, 1) := by decide +kernel
theorem dX11_shift_139 : decode cX11_shift 139 = .ok (.laload, 1) := by decide +kernel
theorem dX11_shift_140 : decode cX11_shift 140 = .ok (.lastore, 1) := by decide +kernel
theorem dX11_shift_141 : decode cX11_shift 141 = .ok (.iinc 6 1, 3) := by decide +kernel
theorem dX11_shift_144 : decode cX11_shift 144 = .ok (.goto (-31), 3) := by decide +kernel
theorem dX11_shift_147 : decode cX11_shift 147 = .ok (.iconst 0, 1) := by decide +kernel
theorem dX11_shift_148 : decode cX11_shift 148 = .ok (.istore 6, 2) := by decide +kernel
theorem dX11_shift_150 : decode cX11_shift 150 = .ok (.iload 6, 2) := by decide +kernel
theorem dX11_shift_152 : decode cX11_shift 152 = .ok (.iload 5, 2) := by decide +kernel
theorem dX11_shift_154 : decode cX11_shift 154 = .ok (.if_icmp .ge 31, 3) := by decide +kernel
theorem dX11_shift_157 : decode cX11_shift 157 = .ok (.aload_n 0, 1) := by decide +kernel
theorem dX11_shift_158 : decode cX11_shift 158 = .ok (.getfield 71, 3) := by decide +kernel
theorem dX11_shift_161 : decode cX11_shift 161 = .ok (.bipush 60, 2) := by decide +kernel
theorem dX11_shift_163 : decode cX11_shift 163 = .ok (.iload_n 3, 1) := by decide +kernel
theorem dX11_shift_164 : decode cX11_shift 164 = .ok (.imul, 1) := by decide +kernel
theorem dX11_shift_165 : decode cX11_shift 165 = .ok (.iload 4, 2) := by decide +kernel
theorem dX11_shift_167 : decode cX11_shift 167 = .ok (.iadd, 1) := by decide +kernel
theorem dX11_shift_168 : decode cX11_shift 168 = .ok (.iload 6, 2) := by decide +kernel
theorem dX11_shift_170 : decode cX11_shift 170 = .ok (.iadd, 1) := by decide +kernel
theorem dX11_shift_171 : decode cX11_shift 171 = .ok (.aload_n 0, 1) := by decide +kernel
theorem dX11_shift_172 : decode cX11_shift 172 = .ok (.getfield 74, 3) := by decide +kernel
theorem dX11_shift_175 : decode cX11_shift 175 = .ok (.iload 6, 2) := by decide +kernel
theorem dX11_shift_177 : decode cX11_shift 177 = .ok (.laload, 1) := by decide +kernel
theorem dX11_shift_178 : decode cX11_shift 178 = .ok (.lastore, 1) := by decide +kernel
theorem dX11_shift_179 : decode cX11_shift 179 = .ok (.iinc 6 1, 3) := by decide +kernel
theorem dX11_shift_182 : decode cX11_shift 182 = .ok (.goto (-32), 3) := by decide +kernel
theorem dX11_shift_185 : decode cX11_shift 185 = .ok (.iload 5, 2) := by decide +kernel
theorem dX11_shift_187 : decode cX11_shift 187 = .ok (.ireturn, 1) := by decide +kernel
theorem dX11_taken_0 : decode cX11_taken 0 = .ok (.iload_n 1, 1) := by decide +kernel
theorem dX11_taken_1 : decode cX11_taken 1 = .ok (.invokestatic 105, 3) := by decide +kernel
theorem dX11_taken_4 : decode cX11_taken 4 = .ok (.ifCond .eq 15, 3) := by decide +kernel
theorem dX11_taken_7 : decode cX11_taken 7 = .ok (.iload_n 2, 1) := by decide +kernel
theorem dX11_taken_8 : decode cX11_taken 8 = .ok (.i2l, 1) := by decide +kernel
theorem dX11_taken_9 : decode cX11_taken 9 = .ok (.lconst 0, 1) := by decide +kernel
theorem dX11_taken_10 : decode cX11_taken 10 = .ok (.ldc2_w 308, 3) := by decide +kernel
theorem dX11_taken_13 : decode cX11_taken 13 = .ok (.invokestatic 93, 3) := by decide +kernel
theorem dX11_taken_16 : decode cX11_taken 16 = .ok (.ifCond .ne 5, 3) := by decide +kernel
theorem dX11_taken_19 : decode cX11_taken 19 = .ok (.iconst (-1), 1) := by decide +kernel
theorem dX11_taken_20 : decode cX11_taken 20 = .ok (.ireturn, 1) := by decide +kernel
theorem dX11_taken_21 : decode cX11_taken 21 = .ok (.aload_n 0, 1) := by decide +kernel
theorem dX11_taken_22 : decode cX11_taken 22 = .ok (.getfield 65, 3) := by decide +kernel
theorem dX11_taken_25 : decode cX11_taken 25 = .ok (.iload_n 1, 1) := by decide +kernel
theorem dX11_taken_26 : decode cX11_taken 26 = .ok (.iaload, 1) := by decide +kernel
theorem dX11_taken_27 : decode cX11_taken 27 = .ok (.ifCond .ge 6, 3) := by decide +kernel
theorem dX11_taken_30 : decode cX11_taken 30 = .ok (.bipush (-11), 2) := by decide +kernel
theorem dX11_taken_32 : decode cX11_taken 32 = .ok (.ireturn, 1) := by decide +kernel
theorem dX11_taken_33 : decode cX11_taken 33 = .ok (.aload_n 0, 1) := by decide +kernel
theorem dX11_taken_34 : decode cX11_taken 34 = .ok (.getfield 65, 3) := by decide +kernel
theorem dX11_taken_37 : decode cX11_taken 37 = .ok (.iload_n 1, 1) := by decide +kernel
theorem dX11_taken_38 : decode cX11_taken 38 = .ok (.iaload, 1) := by decide +kernel
theorem dX11_taken_39 : decode cX11_taken 39 = .ok (.bipush 50, 2) := by decide +kernel
theorem dX11_taken_41 : decode cX11_taken 41 = .ok (.if_icmp .lt 6, 3) := by decide +kernel
theorem dX11_taken_44 : decode cX11_taken 44 = .ok (.bipush (-12), 2) := by decide +kernel
theorem dX11_taken_46 : decode cX11_taken 46 = .ok (.ireturn, 1) := by decide +kernel
theorem dX11_taken_47 : decode cX11_taken 47 = .ok (.aload_n 0, 1) := by decide +kernel
theorem dX11_taken_48 : decode cX11_taken 48 = .ok (.aload_n 0, 1) := by decide +kernel
theorem dX11_taken_49 : decode cX11_taken 49 = .ok (.getfield 65, 3) := by decide +kernel
theorem dX11_taken_52 : decode cX11_taken 52 = .ok (.iload_n 1, 1) := by decide +kernel
theorem dX11_taken_53 : decode cX11_taken 53 = .ok (.iaload, 1) := by decide +kernel
theorem dX11_taken_54 : decode cX11_taken 54 = .ok (.invokevirtual 390, 3) := by decide +kernel
theorem dX11_taken_57 : decode cX11_taken 57 = .ok (.istore_n 3, 1) := by decide +kernel
theorem dX11_taken_58 : decode cX11_taken 58 = .ok (.iload_n 3, 1) := by decide +kernel
theorem dX11_taken_59 : decode cX11_taken 59 = .ok (.iload_n 2, 1) := by decide +kernel
theorem dX11_taken_60 : decode cX11_taken 60 = .ok (.if_icmp .eq 15, 3) := by decide +kernel
theorem dX11_taken_63 : decode cX11_taken 63 = .ok (.iload_n 3, 1) := by decide +kernel
theorem dX11_taken_64 : decode cX11_taken 64 = .ok (.ifCond .le 11, 3) := by decide +kernel
theorem dX11_taken_67 : decode cX11_taken 67 = .ok (.iload_n 3, 1) := by decide +kernel
theorem dX11_taken_68 : decode cX11_taken 68 = .ok (.invokestatic 393, 3) := by decide +kernel
theorem dX11_taken_71 : decode cX11_taken 71 = .ok (.istore_n 3, 1) := by decide +kernel
theorem dX11_taken_72 : decode cX11_taken 72 = .ok (.goto (-14), 3) := by decide +kernel
theorem dX11_taken_75 : decode cX11_taken 75 = .ok (.iload_n 3, 1) := by decide +kernel
theorem dX11_taken_76 : decode cX11_taken 76 = .ok (.iload_n 2, 1) := by decide +kernel
theorem dX11_taken_77 : decode cX11_taken 77 = .ok (.if_icmp .ne 16, 3) := by decide +kernel
theorem dX11_taken_80 : decode cX11_taken 80 = .ok (.aload_n 0, 1) := by decide +kernel
theorem dX11_taken_81 : decode cX11_taken 81 = .ok (.aload_n 0, 1) := by decide +kernel
theorem dX11_taken_82 : decode cX11_taken 82 = .ok (.getfield 65, 3) := by decide +kernel
theorem dX11_taken_85 : decode cX11_taken 85 = .ok (.iload_n 1, 1) := by decide +kernel
theorem dX11_taken_86 : decode cX11_taken 86 = .ok (.iaload, 1) := by decide +kernel
theorem dX11_taken_87 : decode cX11_taken 87 = .ok (.invokevirtual 390, 3) := by decide +kernel
theorem dX11_taken_90 : decode cX11_taken 90 = .ok (.goto 5, 3) := by decide +kernel
theorem dX11_taken_93 : decode cX11_taken 93 = .ok (.bipush (-12), 2) := by decide +kernel
theorem dX11_taken_95 : decode cX11_taken 95 = .ok (.ireturn, 1) := by decide +kernel
theorem dX11_count_0 : decode cX11_count 0 = .ok (.iload_n 1, 1) := by decide +kernel
theorem dX11_count_1 : decode cX11_count 1 = .ok (.tableswitch 69 0 5 #[39, 44, 49, 54, 59, 64], 39) := by decide +kernel
theorem dX11_count_40 : decode cX11_count 40 = .ok (.aload_n 0, 1) := by decide +kernel
theorem dX11_count_41 : decode cX11_count 41 = .ok (.getfield 90, 3) := by decide +kernel
theorem dX11_count_44 : decode cX11_count 44 = .ok (.ireturn, 1) := by decide +kernel
theorem dX11_count_45 : decode cX11_count 45 = .ok (.aload_n 0, 1) := by decide +kernel
theorem dX11_count_46 : decode cX11_count 46 = .ok (.invokevirtual 396, 3) := by decide +kernel
theorem dX11_count_49 : decode cX11_count 49 = .ok (.ireturn, 1) := by decide +kernel
theorem dX11_count_50 : decode cX11_count 50 = .ok (.aload_n 0, 1) := by decide +kernel
theorem dX11_count_51 : decode cX11_count 51 = .ok (.getfield 188, 3) := by decide +kernel
theorem dX11_count_54 : decode cX11_count 54 = .ok (.ireturn, 1) := by decide +kernel
theorem dX11_count_55 : decode cX11_count 55 = .ok (.aload_n 0, 1) := by decide +kernel
theorem dX11_count_56 : decode cX11_count 56 = .ok (.getfield 84, 3) := by decide +kernel
theorem dX11_count_59 : decode cX11_count 59 = .ok (.ireturn, 1) := by decide +kernel
theorem dX11_count_60 : decode cX11_count 60 = .ok (.aload_n 0, 1) := by decide +kernel
theorem dX11_count_61 : decode cX11_count 61 = .ok (.getfield 352, 3) := by decide +kernel
theorem dX11_count_64 : decode cX11_count 64 = .ok (.ireturn, 1) := by decide +kernel
theorem dX11_count_65 : decode cX11_count 65 = .ok (.aload_n 0, 1) := by decide +kernel
theorem dX11_count_66 : decode cX11_count 66 = .ok (.getfield 355, 3) := by decide +kernel
theorem dX11_count_69 : decode cX11_count 69 = .ok (.ireturn, 1) := by decide +kernel
theorem dX11_count_70 : decode cX11_count 70 = .ok (.iconst (-1), 1) := by decide +kernel
theorem dX11_count_71 : decode cX11_count 71 = .ok (.ireturn, 1) := by decide +kernel
