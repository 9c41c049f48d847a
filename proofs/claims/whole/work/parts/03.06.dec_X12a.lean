theorem dX12_init_0 : decode cX12_init 0 = .ok (.aload_n 0, 1) := by decide +kernel
theorem dX12_init_1 : decode cX12_init 1 = .ok (.invokespecial 1, 3) := by decide +kernel
theorem dX12_init_4 : decode cX12_init 4 = .ok (.aload_n 0, 1) := by decide +kernel
theorem dX12_init_5 : decode cX12_init 5 = .ok (.sipush 293, 3) := by decide +kernel
theorem dX12_init_8 : decode cX12_init 8 = .ok (.newarray .int, 2) := by decide +kernel
theorem dX12_init_10 : decode cX12_init 10 = .ok (.putfield 7, 3) := by decide +kernel
theorem dX12_init_13 : decode cX12_init 13 = .ok (.aload_n 0, 1) := by decide +kernel
theorem dX12_init_14 : decode cX12_init 14 = .ok (.sipush 293, 3) := by decide +kernel
theorem dX12_init_17 : decode cX12_init 17 = .ok (.newarray .int, 2) := by decide +kernel
theorem dX12_init_19 : decode cX12_init 19 = .ok (.putfield 13, 3) := by decide +kernel
theorem dX12_init_22 : decode cX12_init 22 = .ok (.aload_n 0, 1) := by decide +kernel
theorem dX12_init_23 : decode cX12_init 23 = .ok (.sipush 293, 3) := by decide +kernel
theorem dX12_init_26 : decode cX12_init 26 = .ok (.newarray .int, 2) := by decide +kernel
theorem dX12_init_28 : decode cX12_init 28 = .ok (.putfield 16, 3) := by decide +kernel
theorem dX12_init_31 : decode cX12_init 31 = .ok (.aload_n 0, 1) := by decide +kernel
theorem dX12_init_32 : decode cX12_init 32 = .ok (.bipush 16, 2) := by decide +kernel
theorem dX12_init_34 : decode cX12_init 34 = .ok (.newarray .int, 2) := by decide +kernel
theorem dX12_init_36 : decode cX12_init 36 = .ok (.putfield 19, 3) := by decide +kernel
theorem dX12_init_39 : decode cX12_init 39 = .ok (.aload_n 0, 1) := by decide +kernel
theorem dX12_init_40 : decode cX12_init 40 = .ok (.bipush 16, 2) := by decide +kernel
theorem dX12_init_42 : decode cX12_init 42 = .ok (.newarray .int, 2) := by decide +kernel
theorem dX12_init_44 : decode cX12_init 44 = .ok (.putfield 22, 3) := by decide +kernel
theorem dX12_init_47 : decode cX12_init 47 = .ok (.aload_n 0, 1) := by decide +kernel
theorem dX12_init_48 : decode cX12_init 48 = .ok (.bipush 48, 2) := by decide +kernel
theorem dX12_init_50 : decode cX12_init 50 = .ok (.newarray .int, 2) := by decide +kernel
theorem dX12_init_52 : decode cX12_init 52 = .ok (.putfield 25, 3) := by decide +kernel
theorem dX12_init_55 : decode cX12_init 55 = .ok (.aload_n 0, 1) := by decide +kernel
theorem dX12_init_56 : decode cX12_init 56 = .ok (.sipush 260, 3) := by decide +kernel
theorem dX12_init_59 : decode cX12_init 59 = .ok (.newarray .byte, 2) := by decide +kernel
theorem dX12_init_61 : decode cX12_init 61 = .ok (.putfield 28, 3) := by decide +kernel
theorem dX12_init_64 : decode cX12_init 64 = .ok (.aload_n 0, 1) := by decide +kernel
theorem dX12_init_65 : decode cX12_init 65 = .ok (.sipush 260, 3) := by decide +kernel
theorem dX12_init_68 : decode cX12_init 68 = .ok (.newarray .int, 2) := by decide +kernel
theorem dX12_init_70 : decode cX12_init 70 = .ok (.putfield 32, 3) := by decide +kernel
theorem dX12_init_73 : decode cX12_init 73 = .ok (.aload_n 0, 1) := by decide +kernel
theorem dX12_init_74 : decode cX12_init 74 = .ok (.sipush 260, 3) := by decide +kernel
theorem dX12_init_77 : decode cX12_init 77 = .ok (.newarray .int, 2) := by decide +kernel
theorem dX12_init_79 : decode cX12_init 79 = .ok (.putfield 35, 3) := by decide +kernel
theorem dX12_init_82 : decode cX12_init 82 = .ok (.aload_n 0, 1) := by decide +kernel
theorem dX12_init_83 : decode cX12_init 83 = .ok (.bipush 16, 2) := by decide +kernel
theorem dX12_init_85 : decode cX12_init 85 = .ok (.newarray .int, 2) := by decide +kernel
theorem dX12_init_87 : decode cX12_init 87 = .ok (.putfield 38, 3) := by decide +kernel
theorem dX12_init_90 : decode cX12_init 90 = .ok (.aload_n 0, 1) := by decide +kernel
theorem dX12_init_91 : decode cX12_init 91 = .ok (.bipush 16, 2) := by decide +kernel
theorem dX12_init_93 : decode cX12_init 93 = .ok (.newarray .int, 2) := by decide +kernel
theorem dX12_init_95 : decode cX12_init 95 = .ok (.putfield 41, 3) := by decide +kernel
theorem dX12_init_98 : decode cX12_init 98 = .ok (.aload_n 0, 1) := by decide +kernel
theorem dX12_init_99 : decode cX12_init 99 = .ok (.bipush 16, 2) := by decide +kernel
theorem dX12_init_101 : decode cX12_init 101 = .ok (.newarray .int, 2) := by decide +kernel
theorem dX12_init_103 : decode cX12_init 103 = .ok (.putfield 44, 3) := by decide +kernel
theorem dX12_init_106 : decode cX12_init 106 = .ok (.aload_n 0, 1) := by decide +kernel
theorem dX12_init_107 : decode cX12_init 107 = .ok (.bipush 16, 2) := by decide +kernel
theorem dX12_init_109 : decode cX12_init 109 = .ok (.newarray .int, 2) := by decide +kernel
theorem dX12_init_111 : decode cX12_init 111 = .ok (.putfield 47, 3) := by decide +kernel
theorem dX12_init_114 : decode cX12_init 114 = .ok (.aload_n 0, 1) := by decide +kernel
theorem dX12_init_115 : decode cX12_init 115 = .ok (.sipush 260, 3) := by decide +kernel
theorem dX12_init_118 : decode cX12_init 118 = .ok (.newarray .int, 2) := by decide +kernel
theorem dX12_init_120 : decode cX12_init 120 = .ok (.putfield 50, 3) := by decide +kernel
theorem dX12_init_123 : decode cX12_init 123 = .ok (.aload_n 0, 1) := by decide +kernel
theorem dX12_init_124 : decode cX12_init 124 = .ok (.bipush 16, 2) := by decide +kernel
theorem dX12_init_126 : decode cX12_init 126 = .ok (.newarray .int, 2) := by decide +kernel
theorem dX12_init_128 : decode cX12_init 128 = .ok (.putfield 53, 3) := by decide +kernel
theorem dX12_init_131 : decode cX12_init 131 = .ok (.aload_n 0, 1) := by decide +kernel
theorem dX12_init_132 : decode cX12_init 132 = .ok (.bipush 16, 2) := by decide +kernel
theorem dX12_init_134 : decode cX12_init 134 = .ok (.newarray .int, 2) := by decide +kernel
theorem dX12_init_136 : decode cX12_init 136 = .ok (.putfield 56, 3) := by decide +kernel
theorem dX12_init_139 : decode cX12_init 139 = .ok (.aload_n 0, 1) := by decide +kernel
theorem dX12_init_140 : decode cX12_init 140 = .ok (.bipush 16, 2) := by decide +kernel
theorem dX12_init_142 : decode cX12_init 142 = .ok (.newarray .int, 2) := by decide +kernel
theorem dX12_init_144 : decode cX12_init 144 = .ok (.putfield 59, 3) := by decide +kernel
theorem dX12_init_147 : decode cX12_init 147 = .ok (.aload_n 0, 1) := by decide +kernel
theorem dX12_init_148 : decode cX12_init 148 = .ok (.bipush 16, 2) := by decide +kernel
theorem dX12_init_150 : decode cX12_init 150 = .ok (.newarray .int, 2) := by decide +kernel
theorem dX12_init_152 : decode cX12_init 152 = .ok (.putfield 62, 3) := by decide +kernel
theorem dX12_init_155 : decode cX12_init 155 = .ok (.aload_n 0, 1) := by decide +kernel
theorem dX12_init_156 : decode cX12_init 156 = .ok (.sipush 260, 3) := by decide +kernel
theorem dX12_init_159 : decode cX12_init 159 = .ok (.newarray .int, 2) := by decide +kernel
theorem dX12_init_161 : decode cX12_init 161 = .ok (.putfield 65, 3) := by decide +kernel
theorem dX12_init_164 : decode cX12_init 164 = .ok (.aload_n 0, 1) := by decide +kernel
theorem dX12_init_165 : decode cX12_init 165 = .ok (.bipush 10, 2) := by decide +kernel
theorem dX12_init_167 : decode cX12_init 167 = .ok (.newarray .int, 2) := by decide +kernel
theorem dX12_init_169 : decode cX12_init 169 = .ok (.putfield 68, 3) := by decide +kernel
theorem dX12_init_172 : decode cX12_init 172 = .ok (.aload_n 0, 1) := by decide +kernel
theorem dX12_init_173 : decode cX12_init 173 = .ok (.bipush 48, 2) := by decide +kernel
theorem dX12_init_175 : decode cX12_init 175 = .ok (.newarray .int, 2) := by decide +kernel
theorem dX12_init_177 : decode cX12_init 177 = .ok (.putfield 71, 3) := by decide +kernel
theorem dX12_init_180 : decode cX12_init 180 = .ok (.aload_n 0, 1) := by decide +kernel
theorem dX12_init_181 : decode cX12_init 181 = .ok (.iconst 2, 1) := by decide +kernel
theorem dX12_init_182 : decode cX12_init 182 = .ok (.newarray .int, 2) := by decide +kernel
theorem dX12_init_184 : decode cX12_init 184 = .ok (.putfield 74, 3) := by decide +kernel
theorem dX12_init_187 : decode cX12_init 187 = .ok (.aload_n 0, 1) := by decide +kernel
theorem dX12_init_188 : decode cX12_init 188 = .ok (.iconst 2, 1) := by decide +kernel
theorem dX12_init_189 : decode cX12_init 189 = .ok (.newarray .int, 2) := by decide +kernel
theorem dX12_init_191 : decode cX12_init 191 = .ok (.putfield 77, 3) := by decide +kernel
theorem dX12_init_194 : decode cX12_init 194 = .ok (.aload_n 0, 1) := by decide +kernel
theorem dX12_init_195 : decode cX12_init 195 = .ok (.iconst 2, 1) := by decide +kernel
theorem dX12_init_196 : decode cX12_init 196 = .ok (.newarray .int, 2) := by decide +kernel
theorem dX12_init_198 : decode cX12_init 198 = .ok (.putfield 80, 3) := by decide +kernel
theorem dX12_init_201 : decode cX12_init 201 = .ok (.aload_n 0, 1) := by decide +kernel
theorem dX12_init_202 : decode cX12_init 202 = .ok (.sipush 392, 3) := by decide +kernel
theorem dX12_init_205 : decode cX12_init 205 = .ok (.newarray .int, 2) := by decide +kernel
theorem dX12_init_207 : decode cX12_init 207 = .ok (.putfield 83, 3) := by decide +kernel
theorem dX12_init_210 : decode cX12_init 210 = .ok (.aload_n 0, 1) := by decide +kernel
theorem dX12_init_211 : decode cX12_init 211 = .ok (.bipush 48, 2) := by decide +kernel
theorem dX12_init_213 : decode cX12_init 213 = .ok (.newarray .int, 2) := by decide +kernel
theorem dX12_init_215 : decode cX12_init 215 = .ok (.putfield 86, 3) := by decide +kernel
theorem dX12_init_218 : decode cX12_init 218 = .ok (.aload_n 0, 1) := by decide +kernel
theorem dX12_init_219 : decode cX12_init 219 = .ok (.bipush 8, 2) := by decide +kernel
theorem dX12_init_221 : decode cX12_init 221 = .ok (.newarray .int, 2) := by decide +kernel
theorem dX12_init_223 : decode cX12_init 223 = .ok (.putfield 89, 3) := by decide +kernel
theorem dX12_init_226 : decode cX12_init 226 = .ok (.aload_n 0, 1) := by decide +kernel
theorem dX12_init_227 : decode cX12_init 227 = .ok (.bipush 6, 2) := by decide +kernel
theorem dX12_init_229 : decode cX12_init 229 = .ok (.newarray .int, 2) := by decide +kernel
theorem dX12_init_231 : decode cX12_init 231 = .ok (.putfield 92, 3) := by decide +kernel
theorem dX12_init_234 : decode cX12_init 234 = .ok (.aload_n 0, 1) := by decide +kernel
theorem dX12_init_235 : decode cX12_init 235 = .ok (.bipush 7, 2) := by decide +kernel
theorem dX12_init_237 : decode cX12_init 237 = .ok (.newarray .int, 2) := by decide +kernel
theorem dX12_init_239 : decode cX12_init 239 = .ok (.putfield 95, 3) := by decide +kernel
theorem dX12_init_242 : decode cX12_init 242 = .ok (.aload_n 0, 1) := by decide +kernel
theorem dX12_init_243 : decode cX12_init 243 = .ok (.getfield 7, 3) := by decide +kernel
theorem dX12_init_246 : decode cX12_init 246 = .ok (.sipush 292, 3) := by decide +kernel
theorem dX12_init_249 : decode cX12_init 249 = .ok (.iconst 1, 1) := by decide +kernel
theorem dX12_init_250 : decode cX12_init 250 = .ok (.iastore, 1) := by decide +kernel
theorem dX12_init_251 : decode cX12_init 251 = .ok (.aload_n 0, 1) := by decide +kernel
theorem dX12_init_252 : decode cX12_init 252 = .ok (.getfield 7, 3) := by decide +kernel
theorem dX12_init_255 : decode cX12_init 255 = .ok (.sipush 288, 3) := by decide +kernel
theorem dX12_init_258 : decode cX12_init 258 = .ok (.bipush 20, 2) := by decide +kernel
theorem dX12_init_260 : decode cX12_init 260 = .ok (.iastore, 1) := by decide +kernel
theorem dX12_init_261 : decode cX12_init 261 = .ok (.iconst 0, 1) := by decide +kernel
theorem dX12_init_262 : decode cX12_init 262 = .ok (.istore_n 1, 1) := by decide +kernel
theorem dX12_init_263 : decode cX12_init 263 = .ok (.iload_n 1, 1) := by decide +kernel
theorem dX12_init_264 : decode cX12_init 264 = .ok (.bipush 16, 2) := by decide +kernel
theorem dX12_init_266 : decode cX12_init 266 = .ok (.if_icmp .ge 16, 3) := by decide +kernel
theorem dX12_init_269 : decode cX12_init 269 = .ok (.aload_n 0, 1) := by decide +kernel
theorem dX12_init_270 : decode cX12_init 270 = .ok (.getfield 19, 3) := by decide +kernel
theorem dX12_init_273 : decode cX12_init 273 = .ok (.iload_n 1, 1) := by decide +kernel
theorem dX12_init_274 : decode cX12_init 274 = .ok (.iload_n 1, 1) := by decide +kernel
theorem dX12_init_275 : decode cX12_init 275 = .ok (.iastore, 1) := by decide +kernel
theorem dX12_init_276 : decode cX12_init 276 = .ok (.iinc 1 1, 3) := by decide +kernel
theorem dX12_init_279 : decode cX12_init 279 = .ok (.goto (-16), 3) := by decide +kernel
theorem dX12_init_282 : decode cX12_init 282 = .ok (.return_, 1) := by decide +kernel
theorem dX12_in_0 : decode cX12_in 0 = .ok (.iload_n 0, 1) := by decide +kernel
theorem dX12_in_1 : decode cX12_in 1 = .ok (.iload_n 1, 1) := by decide +kernel
theorem dX12_in_2 : decode cX12_in 2 = .ok (.if_icmp .lt 12, 3) := by decide +kernel
theorem dX12_in_5 : decode cX12_in 5 = .ok (.iload_n 0, 1) := by decide +kernel
theorem dX12_in_6 : decode cX12_in 6 = .ok (.iload_n 2, 1) := by decide +kernel
theorem dX12_in_7 : decode cX12_in 7 = .ok (.if_icmp .gt 7, 3) := by decide +kernel
theorem dX12_in_10 : decode cX12_in 10 = .ok (.iconst 1, 1) := by decide +kernel
theorem dX12_in_11 : decode cX12_in 11 = .ok (.goto 4, 3) := by decide +kernel
theorem dX12_in_14 : decode cX12_in 14 = .ok (.iconst 0, 1) := by decide +kernel
theorem dX12_in_15 : decode cX12_in 15 = .ok (.ireturn, 1) := by decide +kernel
theorem dX12_min_0 : decode cX12_min 0 = .ok (.iload_n 0, 1) := by decide +kernel
theorem dX12_min_1 : decode cX12_min 1 = .ok (.iload_n 1, 1) := by decide +kernel
theorem dX12_min_2 : decode cX12_min 2 = .ok (.if_icmp .ge 7, 3) := by decide +kernel
theorem dX12_min_5 : decode cX12_min 5 = .ok (.iload_n 0, 1) := by decide +kernel
theorem dX12_min_6 : decode cX12_min 6 = .ok (.goto 4, 3) := by decide +kernel
theorem dX12_min_9 : decode cX12_min 9 = .ok (.iload_n 1, 1) := by decide +kernel
theorem dX12_min_10 : decode cX12_min 10 = .ok (.ireturn, 1) := by decide +kernel
theorem dX12_max_0 : decode cX12_max 0 = .ok (.iload_n 0, 1) := by decide +kernel
theorem dX12_max_1 : decode cX12_max 1 = .ok (.iload_n 1, 1) := by decide +kernel
theorem dX12_max_2 : decode cX12_max 2 = .ok (.if_icmp .le 7, 3) := by decide +kernel
theorem dX12_max_5 : decode cX12_max 5 = .ok (.iload_n 0, 1) := by decide +kernel
theorem dX12_max_6 : decode cX12_max 6 = .ok (.goto 4, 3) := by decide +kernel
theorem dX12_max_9 : decode cX12_max 9 = .ok (.iload_n 1, 1) := by decide +kernel
theorem dX12_max_10 : decode cX12_max 10 = .ok (.ireturn, 1) := by decide +kernel
theorem dX12_limit_0 : decode cX12_limit 0 = .ok (.iconst 0, 1) := by decide +kernel
theorem dX12_limit_1 : decode cX12_limit 1 = .ok (.bipush 99, 2) := by decide +kernel
theorem dX12_limit_3 : decode cX12_limit 3 = .ok (.iload_n 0, 1) := by decide +kernel
theorem dX12_limit_4 : decode cX12_limit 4 = .ok (.invokestatic 98, 3) := by decide +kernel
theorem dX12_limit_7 : decode cX12_limit 7 = .ok (.invokestatic 102, 3) := by decide +kernel
theorem dX12_limit_10 : decode cX12_limit 10 = .ok (.ireturn, 1) := by decide +kernel
theorem dX12_has_0 : decode cX12_has 0 = .ok (.iload_n 0, 1) := by decide +kernel
theorem dX12_has_1 : decode cX12_has 1 = .ok (.iload_n 1, 1) := by decide +kernel
theorem dX12_has_2 : decode cX12_has 2 = .ok (.ishr, 1) := by decide +kernel
theorem dX12_has_3 : decode cX12_has 3 = .ok (.iconst 1, 1) := by decide +kernel
theorem dX12_has_4 : decode cX12_has 4 = .ok (.iand, 1) := by decide +kernel
theorem dX12_has_5 : decode cX12_has 5 = .ok (.iconst 1, 1) := by decide +kernel
theorem dX12_has_6 : decode cX12_has 6 = .ok (.if_icmp .ne 7, 3) := by decide +kernel
theorem dX12_has_9 : decode cX12_has 9 = .ok (.iconst 1, 1) := by decide +kernel
theorem dX12_has_10 : decode cX12_has 10 = .ok (.goto 4, 3) := by decide +kernel
theorem dX12_has_13 : decode cX12_has 13 = .ok (.iconst 0, 1) := by decide +kernel
theorem dX12_has_14 : decode cX12_has 14 = .ok (.ireturn, 1) := by decide +kernel
theorem dX12_bits_0 : decode cX12_bits 0 = .ok (.iconst 0, 1) := by decide +kernel
theorem dX12_bits_1 : decode cX12_bits 1 = .ok (.istore_n 1, 1) := by decide +kernel
theorem dX12_bits_2 : decode cX12_bits 2 = .ok (.iconst 0, 1) := by decide +kernel
theorem dX12_bits_3 : decode cX12_bits 3 = .ok (.istore_n 2, 1) := by decide +kernel
theorem dX12_bits_4 : decode cX12_bits 4 = .ok (.iload_n 2, 1) := by decide +kernel
theorem dX12_bits_5 : decode cX12_bits 5 = .ok (.bipush 16, 2) := by decide +kernel
theorem dX12_bits_7 : decode cX12_bits 7 = .ok (.if_icmp .ge 17, 3) := by decide +kernel
theorem dX12_bits_10 : decode cX12_bits 10 = .ok (.iload_n 1, 1) := by decide +kernel
theorem dX12_bits_11 : decode cX12_bits 11 = .ok (.iload_n 0, 1) := by decide +kernel
theorem dX12_bits_12 : decode cX12_bits 12 = .ok (.iload_n 2, 1) := by decide +kernel
theorem dX12_bits_13 : decode cX12_bits 13 = .ok (.ishr, 1) := by decide +kernel
theorem dX12_bits_14 : decode cX12_bits 14 = .ok (.iconst 1, 1) := by decide +kernel
theorem dX12_bits_15 : decode cX12_bits 15 = .ok (.iand, 1) := by decide +kernel
theorem dX12_bits_16 : decode cX12_bits 16 = .ok (.iadd, 1) := by decide +kernel
theorem dX12_bits_17 : decode cX12_bits 17 = .ok (.istore_n 1, 1) := by decide +kernel
theorem dX12_bits_18 : decode cX12_bits 18 = .ok (.iinc 2 1, 3) := by decide +kernel
theorem dX12_bits_21 : decode cX12_bits 21 = .ok (.goto (-17), 3) := by decide +kernel
theorem dX12_bits_24 : decode cX12_bits 24 = .ok (.iload_n 1, 1) := by decide +kernel
theorem dX12_bits_25 : decode cX12_bits 25 = .ok (.ireturn, 1) := by decide +kernel
theorem dX12_copies_0 : decode cX12_copies 0 = .ok (.iconst 0, 1) := by decide +kernel
theorem dX12_copies_1 : decode cX12_copies 1 = .ok (.istore_n 2, 1) := by decide +kernel
theorem dX12_copies_2 : decode cX12_copies 2 = .ok (.iload_n 2, 1) := by decide +kernel
theorem dX12_copies_3 : decode cX12_copies 3 = .ok (.sipush 293, 3) := by decide +kernel
theorem dX12_copies_6 : decode cX12_copies 6 = .ok (.if_icmp .ge 15, 3) := by decide +kernel
theorem dX12_copies_9 : decode cX12_copies 9 = .ok (.aload_n 1, 1) := by decide +kernel
theorem dX12_copies_10 : decode cX12_copies 10 = .ok (.iload_n 2, 1) := by decide +kernel
theorem dX12_copies_11 : decode cX12_copies 11 = .ok (.aload_n 0, 1) := by decide +kernel
theorem dX12_copies_12 : decode cX12_copies 12 = .ok (.iload_n 2, 1) := by decide +kernel
theorem dX12_copies_13 : decode cX12_copies 13 = .ok (.iaload, 1) := by decide +kernel
theorem dX12_copies_14 : decode cX12_copies 14 = .ok (.iastore, 1) := by decide +kernel
theorem dX12_copies_15 : decode cX12_copies 15 = .ok (.iinc 2 1, 3) := by decide +kernel
theorem dX12_copies_18 : decode cX12_copies 18 = .ok (.goto (-16), 3) := by decide +kernel
theorem dX12_copies_21 : decode cX12_copies 21 = .ok (.return_, 1) := by decide +kernel
theorem dX12_isTold_0 : decode cX12_isTold 0 = .ok (.iload_n 1, 1) := by decide +kernel
theorem dX12_isTold_1 : decode cX12_isTold 1 = .ok (.iconst 0, 1) := by decide +kernel
theorem dX12_isTold_2 : decode cX12_isTold 2 = .ok (.bipush 7, 2) := by decide +kernel
theorem dX12_isTold_4 : decode cX12_isTold 4 = .ok (.invokestatic 105, 3) := by decide +kernel
theorem dX12_isTold_7 : decode cX12_isTold 7 = .ok (.ifCond .eq 19, 3) := by decide +kernel
theorem dX12_isTold_10 : decode cX12_isTold 10 = .ok (.aload_n 0, 1) := by decide +kernel
theorem dX12_isTold_11 : decode cX12_isTold 11 = .ok (.getfield 7, 3) := by decide +kernel
theorem dX12_isTold_14 : decode cX12_isTold 14 = .ok (.iconst 0, 1) := by decide +kernel
theorem dX12_isTold_15 : decode cX12_isTold 15 = .ok (.iload_n 1, 1) := by decide +kernel
theorem dX12_isTold_16 : decode cX12_isTold 16 = .ok (.iadd, 1) := by decide +kernel
theorem dX12_isTold_17 : decode cX12_isTold 17 = .ok (.iaload, 1) := by decide +kernel
theorem dX12_isTold_18 : decode cX12_isTold 18 = .ok (.iconst 1, 1) := by decide +kernel
theorem dX12_isTold_19 : decode cX12_isTold 19 = .ok (.if_icmp .ne 7, 3) := by decide +kernel
theorem dX12_isTold_22 : decode cX12_isTold 22 = .ok (.iconst 1, 1) := by decide +kernel
theorem dX12_isTold_23 : decode cX12_isTold 23 = .ok (.goto 4, 3) := by decide +kernel
theorem dX12_isTold_26 : decode cX12_isTold 26 = .ok (.iconst 0, 1) := by decide +kernel
theorem dX12_isTold_27 : decode cX12_isTold 27 = .ok (.ireturn, 1) := by decide +kernel
theorem dX12_isWord_0 : decode cX12_isWord 0 = .ok (.iload_n 0, 1) := by decide +kernel
theorem dX12_isWord_1 : decode cX12_isWord 1 = .ok (.iconst 0, 1) := by decide +kernel
theorem dX12_isWord_2 : decode cX12_isWord 2 = .ok (.bipush 15, 2) := by decide +kernel
theorem dX12_isWord_4 : decode cX12_isWord 4 = .ok (.invokestatic 105, 3) := by decide +kernel
theorem dX12_isWord_7 : decode cX12_isWord 7 = .ok (.ireturn, 1) := by decide +kernel
theorem dX12_toldSet_0 : decode cX12_toldSet 0 = .ok (.iconst 0, 1) := by decide +kernel
theorem dX12_toldSet_1 : decode cX12_toldSet 1 = .ok (.istore_n 1, 1) := by decide +kernel
theorem dX12_toldSet_2 : decode cX12_toldSet 2 = .ok (.iconst 0, 1) := by decide +kernel
theorem dX12_toldSet_3 : decode cX12_toldSet 3 = .ok (.istore_n 2, 1) := by decide +kernel
theorem dX12_toldSet_4 : decode cX12_toldSet 4 = .ok (.iload_n 2, 1) := by decide +kernel
theorem dX12_toldSet_5 : decode cX12_toldSet 5 = .ok (.bipush 8, 2) := by decide +kernel
theorem dX12_toldSet_7 : decode cX12_toldSet 7 = .ok (.if_icmp .ge 23, 3) := by decide +kernel
theorem dX12_toldSet_10 : decode cX12_toldSet 10 = .ok (.aload_n 0, 1) := by decide +kernel
theorem dX12_toldSet_11 : decode cX12_toldSet 11 = .ok (.iload_n 2, 1) := by decide +kernel
theorem dX12_toldSet_12 : decode cX12_toldSet 12 = .ok (.invokevirtual 109, 3) := by decide +kernel
theorem dX12_toldSet_15 : decode cX12_toldSet 15 = .ok (.ifCond .eq 9, 3) := by decide +kernel
theorem dX12_toldSet_18 : decode cX12_toldSet 18 = .ok (.iload_n 1, 1) := by decide +kernel
theorem dX12_toldSet_19 : decode cX12_toldSet 19 = .ok (.iconst 1, 1) := by decide +kernel
theorem dX12_toldSet_20 : decode cX12_toldSet 20 = .ok (.iload_n 2, 1) := by decide +kernel
theorem dX12_toldSet_21 : decode cX12_toldSet 21 = .ok (.ishl, 1) := by decide +kernel
theorem dX12_toldSet_22 : decode cX12_toldSet 22 = .ok (.ior, 1) := by decide +kernel
theorem dX12_toldSet_23 : decode cX12_toldSet 23 = .ok (.istore_n 1, 1) := by decide +kernel
theorem dX12_toldSet_24 : decode cX12_toldSet 24 = .ok (.iinc 2 1, 3) := by decide +kernel
theorem dX12_toldSet_27 : decode cX12_toldSet 27 = .ok (.goto (-23), 3) := by decide +kernel
theorem dX12_toldSet_30 : decode cX12_toldSet 30 = .ok (.iload_n 1, 1) := by decide +kernel
theorem dX12_toldSet_31 : decode cX12_toldSet 31 = .ok (.ireturn, 1) := by decide +kernel
theorem dX12_dreadOf_0 : decode cX12_dreadOf 0 = .ok (.aload_n 0, 1) := by decide +kernel
theorem dX12_dreadOf_1 : decode cX12_dreadOf 1 = .ok (.getfield 7, 3) := by decide +kernel
theorem dX12_dreadOf_4 : decode cX12_dreadOf 4 = .ok (.bipush 32, 2) := by decide +kernel
theorem dX12_dreadOf_6 : decode cX12_dreadOf 6 = .ok (.bipush 16, 2) := by decide +kernel
theorem dX12_dreadOf_8 : decode cX12_dreadOf 8 = .ok (.iload_n 1, 1) := by decide +kernel
theorem dX12_dreadOf_9 : decode cX12_dreadOf 9 = .ok (.imul, 1) := by decide +kernel
theorem dX12_dreadOf_10 : decode cX12_dreadOf 10 = .ok (.iadd, 1) := by decide +kernel
theorem dX12_dreadOf_11 : decode cX12_dreadOf 11 = .ok (.iload_n 2, 1) := by decide +kernel
theorem dX12_dreadOf_12 : decode cX12_dreadOf 12 = .ok (.iadd, 1) := by decide +kernel
theorem dX12_dreadOf_13 : decode cX12_dreadOf 13 = .ok (.iaload, 1) := by decide +kernel
theorem dX12_dreadOf_14 : decode cX12_dreadOf 14 = .ok (.ireturn, 1) := by decide +kernel
theorem dX12_shrinkingBy_0 : decode cX12_shrinkingBy 0 = .ok (.aload_n 0, 1) := by decide +kernel
theorem dX12_shrinkingBy_1 : decode cX12_shrinkingBy 1 = .ok (.iload_n 1, 1) := by decide +kernel
theorem dX12_shrinkingBy_2 : decode cX12_shrinkingBy 2 = .ok (.iload_n 2, 1) := by decide +kernel
theorem dX12_shrinkingBy_3 : decode cX12_shrinkingBy 3 = .ok (.invokevirtual 113, 3) := by decide +kernel
theorem dX12_shrinkingBy_6 : decode cX12_shrinkingBy 6 = .ok (.istore 4, 2) := by decide +kernel
theorem dX12_shrinkingBy_8 : decode cX12_shrinkingBy 8 = .ok (.aload_n 0, 1) := by decide +kernel
theorem dX12_shrinkingBy_9 : decode cX12_shrinkingBy 9 = .ok (.getfield 7, 3) := by decide +kernel
theorem dX12_shrinkingBy_12 : decode cX12_shrinkingBy 12 = .ok (.bipush 8, 2) := by decide +kernel
theorem dX12_shrinkingBy_14 : decode cX12_shrinkingBy 14 = .ok (.iload_n 1, 1) := by decide +kernel
theorem dX12_shrinkingBy_15 : decode cX12_shrinkingBy 15 = .ok (.iadd, 1) := by decide +kernel
theorem dX12_shrinkingBy_16 : decode cX12_shrinkingBy 16 = .ok (.iaload, 1) := by decide +kernel
theorem dX12_shrinkingBy_17 : decode cX12_shrinkingBy 17 = .ok (.tableswitch 61 0 3 #[31, 39, 49, 59], 31) := by decide +kernel
theorem dX12_shrinkingBy_48 : decode cX12_shrinkingBy 48 = .ok (.iload 4, 2) := by decide +kernel
theorem dX12_shrinkingBy_50 : decode cX12_shrinkingBy 50 = .ok (.iload_n 3, 1) := by decide +kernel
theorem dX12_shrinkingBy_51 : decode cX12_shrinkingBy 51 = .ok (.isub, 1) := by decide +kernel
theorem dX12_shrinkingBy_52 : decode cX12_shrinkingBy 52 = .ok (.invokestatic 116, 3) := by decide +kernel
theorem dX12_shrinkingBy_55 : decode cX12_shrinkingBy 55 = .ok (.ireturn, 1) := by decide +kernel
theorem dX12_shrinkingBy_56 : decode cX12_shrinkingBy 56 = .ok (.iconst 2, 1) := by decide +kernel
theorem dX12_shrinkingBy_57 : decode cX12_shrinkingBy 57 = .ok (.iload 4, 2) := by decide +kernel
theorem dX12_shrinkingBy_59 : decode cX12_shrinkingBy 59 = .ok (.imul, 1) := by decide +kernel
theorem dX12_shrinkingBy_60 : decode cX12_shrinkingBy 60 = .ok (.iload_n 3, 1) := by decide +kernel
theorem dX12_shrinkingBy_61 : decode cX12_shrinkingBy 61 = .ok (.isub, 1) := by decide +kernel
theorem dX12_shrinkingBy_62 : decode cX12_shrinkingBy 62 = .ok (.invokestatic 116, 3) := by decide +kernel
theorem dX12_shrinkingBy_65 : decode cX12_shrinkingBy 65 = .ok (.ireturn, 1) := by decide +kernel
theorem dX12_shrinkingBy_66 : decode cX12_shrinkingBy 66 = .ok (.iload 4, 2) := by decide +kernel
theorem dX12_shrinkingBy_68 : decode cX12_shrinkingBy 68 = .ok (.iconst 2, 1) := by decide +kernel
theorem dX12_shrinkingBy_69 : decode cX12_shrinkingBy 69 = .ok (.idiv, 1) := by decide +kernel
theorem dX12_shrinkingBy_70 : decode cX12_shrinkingBy 70 = .ok (.iload_n 3, 1) := by decide +kernel
theorem dX12_shrinkingBy_71 : decode cX12_shrinkingBy 71 = .ok (.isub, 1) := by decide +kernel
theorem dX12_shrinkingBy_72 : decode cX12_shrinkingBy 72 = .ok (.invokestatic 116, 3) := by decide +kernel
theorem dX12_shrinkingBy_75 : decode cX12_shrinkingBy 75 = .ok (.ireturn, 1) := by decide +kernel
theorem dX12_shrinkingBy_76 : decode cX12_shrinkingBy 76 = .ok (.iconst 0, 1) := by decide +kernel
theorem dX12_shrinkingBy_77 : decode cX12_shrinkingBy 77 = .ok (.ireturn, 1) := by decide +kernel
theorem dX12_shrinkingBy_78 : decode cX12_shrinkingBy 78 = .ok (.iload 4, 2) := by decide +kernel
theorem dX12_shrinkingBy_80 : decode cX12_shrinkingBy 80 = .ok (.aload_n 0, 1) := by decide +kernel
theorem dX12_shrinkingBy_81 : decode cX12_shrinkingBy 81 = .ok (.iload_n 1, 1) := by decide +kernel
theorem dX12_shrinkingBy_82 : decode cX12_shrinkingBy 82 = .ok (.aload_n 0, 1) := by decide +kernel
theorem dX12_shrinkingBy_83 : decode cX12_shrinkingBy 83 = .ok (.getfield 19, 3) := by decide +kernel
theorem dX12_shrinkingBy_86 : decode cX12_shrinkingBy 86 = .ok (.iload_n 2, 1) := by decide +kernel
theorem dX12_shrinkingBy_87 : decode cX12_shrinkingBy 87 = .ok (.iaload, 1) := by decide +kernel
theorem dX12_shrinkingBy_88 : decode cX12_shrinkingBy 88 = .ok (.invokevirtual 113, 3) := by decide +kernel
theorem dX12_shrinkingBy_91 : decode cX12_shrinkingBy 91 = .ok (.iadd, 1) := by decide +kernel
theorem dX12_shrinkingBy_92 : decode cX12_shrinkingBy 92 = .ok (.iconst 1, 1) := by decide +kernel
theorem dX12_shrinkingBy_93 : decode cX12_shrinkingBy 93 = .ok (.iadd, 1) := by decide +kernel
theorem dX12_shrinkingBy_94 : decode cX12_shrinkingBy 94 = .ok (.iconst 2, 1) := by decide +kernel
theorem dX12_shrinkingBy_95 : decode cX12_shrinkingBy 95 = .ok (.idiv, 1) := by decide +kernel
theorem dX12_shrinkingBy_96 : decode cX12_shrinkingBy 96 = .ok (.iload_n 3, 1) := by decide +kernel
theorem dX12_shrinkingBy_97 : decode cX12_shrinkingBy 97 = .ok (.isub, 1) := by decide +kernel
theorem dX12_shrinkingBy_98 : decode cX12_shrinkingBy 98 = .ok (.invokestatic 116, 3) := by decide +kernel
theorem dX12_shrinkingBy_101 : decode cX12_shrinkingBy 101 = .ok (.ireturn, 1) := by decide +kernel
theorem dX12_shrinking_0 : decode cX12_shrinking 0 = .ok (.aload_n 0, 1) := by decide +kernel
theorem dX12_shrinking_1 : decode cX12_shrinking 1 = .ok (.iload_n 1, 1) := by decide +kernel
theorem dX12_shrinking_2 : decode cX12_shrinking 2 = .ok (.iload_n 2, 1) := by decide +kernel
theorem dX12_shrinking_3 : decode cX12_shrinking 3 = .ok (.aload_n 0, 1) := by decide +kernel
theorem dX12_shrinking_4 : decode cX12_shrinking 4 = .ok (.getfield 7, 3) := by decide +kernel
theorem dX12_shrinking_7 : decode cX12_shrinking 7 = .ok (.bipush 16, 2) := by decide +kernel
theorem dX12_shrinking_9 : decode cX12_shrinking 9 = .ok (.iload_n 1, 1) := by decide +kernel
theorem dX12_shrinking_10 : decode cX12_shrinking 10 = .ok (.iadd, 1) := by decide +kernel
theorem dX12_shrinking_11 : decode cX12_shrinking 11 = .ok (.iaload, 1) := by decide +kernel
theorem dX12_shrinking_12 : decode cX12_shrinking 12 = .ok (.invokevirtual 120, 3) := by decide +kernel
theorem dX12_shrinking_15 : decode cX12_shrinking 15 = .ok (.ireturn, 1) := by decide +kernel
theorem dX12_bears_0 : decode cX12_bears 0 = .ok (.aload_n 0, 1) := by decide +kernel
theorem dX12_bears_1 : decode cX12_bears 1 = .ok (.iload_n 1, 1) := by decide +kernel
theorem dX12_bears_2 : decode cX12_bears 2 = .ok (.iload_n 2, 1) := by decide +kernel
theorem dX12_bears_3 : decode cX12_bears 3 = .ok (.invokevirtual 124, 3) := by decide +kernel
theorem dX12_bears_6 : decode cX12_bears 6 = .ok (.aload_n 0, 1) := by decide +kernel
theorem dX12_bears_7 : decode cX12_bears 7 = .ok (.getfield 7, 3) := by decide +kernel
theorem dX12_bears_10 : decode cX12_bears 10 = .ok (.sipush 288, 3) := by decide +kernel
theorem dX12_bears_13 : decode cX12_bears 13 = .ok (.iaload, 1) := by decide +kernel
theorem dX12_bears_14 : decode cX12_bears 14 = .ok (.if_icmp .gt 7, 3) := by decide +kernel
theorem dX12_bears_17 : decode cX12_bears 17 = .ok (.iconst 1, 1) := by decide +kernel
theorem dX12_bears_18 : decode cX12_bears 18 = .ok (.goto 4, 3) := by decide +kernel
theorem dX12_bears_21 : decode cX12_bears 21 = .ok (.iconst 0, 1) := by decide +kernel
theorem dX12_bears_22 : decode cX12_bears 22 = .ok (.ireturn, 1) := by decide +kernel
theorem dX12_bornBy_0 : decode cX12_bornBy 0 = .ok (.iconst 0, 1) := by decide +kernel
theorem dX12_bornBy_1 : decode cX12_bornBy 1 = .ok (.istore_n 2, 1) := by decide +kernel
theorem dX12_bornBy_2 : decode cX12_bornBy 2 = .ok (.iconst 0, 1) := by decide +kernel
theorem dX12_bornBy_3 : decode cX12_bornBy 3 = .ok (.istore_n 3, 1) := by decide +kernel
theorem dX12_bornBy_4 : decode cX12_bornBy 4 = .ok (.iload_n 3, 1) := by decide +kernel
theorem dX12_bornBy_5 : decode cX12_bornBy 5 = .ok (.bipush 16, 2) := by decide +kernel
theorem dX12_bornBy_7 : decode cX12_bornBy 7 = .ok (.if_icmp .ge 24, 3) := by decide +kernel
theorem dX12_bornBy_10 : decode cX12_bornBy 10 = .ok (.aload_n 0, 1) := by decide +kernel
theorem dX12_bornBy_11 : decode cX12_bornBy 11 = .ok (.iload_n 1, 1) := by decide +kernel
theorem dX12_bornBy_12 : decode cX12_bornBy 12 = .ok (.iload_n 3, 1) := by decide +kernel
theorem dX12_bornBy_13 : decode cX12_bornBy 13 = .ok (.invokevirtual 127, 3) := by decide +kernel
theorem dX12_bornBy_16 : decode cX12_bornBy 16 = .ok (.ifCond .eq 9, 3) := by decide +kernel
theorem dX12_bornBy_19 : decode cX12_bornBy 19 = .ok (.iload_n 2, 1) := by decide +kernel
theorem dX12_bornBy_20 : decode cX12_bornBy 20 = .ok (.iconst 1, 1) := by decide +kernel
theorem dX12_bornBy_21 : decode cX12_bornBy 21 = .ok (.iload_n 3, 1) := by decide +kernel
theorem dX12_bornBy_22 : decode cX12_bornBy 22 = .ok (.ishl, 1) := by decide +kernel
theorem dX12_bornBy_23 : decode cX12_bornBy 23 = .ok (.ior, 1) := by decide +kernel
theorem dX12_bornBy_24 : decode cX12_bornBy 24 = .ok (.istore_n 2, 1) := by decide +kernel
theorem dX12_bornBy_25 : decode cX12_bornBy 25 = .ok (.iinc 3 1, 3) := by decide +kernel
theorem dX12_bornBy_28 : decode cX12_bornBy 28 = .ok (.goto (-24), 3) := by decide +kernel
theorem dX12_bornBy_31 : decode cX12_bornBy 31 = .ok (.iload_n 2, 1) := by decide +kernel
theorem dX12_bornBy_32 : decode cX12_bornBy 32 = .ok (.ireturn, 1) := by decide +kernel
theorem dX12_becomesNew_0 : decode cX12_becomesNew 0 = .ok (.aload_n 0, 1) := by decide +kernel
theorem dX12_becomesNew_1 : decode cX12_becomesNew 1 = .ok (.getfield 7, 3) := by decide +kernel
theorem dX12_becomesNew_4 : decode cX12_becomesNew 4 = .ok (.bipush 16, 2) := by decide +kernel
theorem dX12_becomesNew_6 : decode cX12_becomesNew 6 = .ok (.iload_n 1, 1) := by decide +kernel
theorem dX12_becomesNew_7 : decode cX12_becomesNew 7 = .ok (.iadd, 1) := by decide +kernel
theorem dX12_becomesNew_8 : decode cX12_becomesNew 8 = .ok (.iconst 0, 1) := by decide +kernel
theorem dX12_becomesNew_9 : decode cX12_becomesNew 9 = .ok (.iastore, 1) := by decide +kernel
theorem dX12_becomesNew_10 : decode cX12_becomesNew 10 = .ok (.aload_n 0, 1) := by decide +kernel
theorem dX12_becomesNew_11 : decode cX12_becomesNew 11 = .ok (.getfield 7, 3) := by decide +kernel
theorem dX12_becomesNew_14 : decode cX12_becomesNew 14 = .ok (.bipush 24, 2) := by decide +kernel
theorem dX12_becomesNew_16 : decode cX12_becomesNew 16 = .ok (.iload_n 1, 1) := by decide +kernel
theorem dX12_becomesNew_17 : decode cX12_becomesNew 17 = .ok (.iadd, 1) := by decide +kernel
theorem dX12_becomesNew_18 : decode cX12_becomesNew 18 = .ok (.sipush 999, 3) := by decide +kernel
theorem dX12_becomesNew_21 : decode cX12_becomesNew 21 = .ok (.iastore, 1) := by decide +kernel
theorem dX12_becomesNew_22 : decode cX12_becomesNew 22 = .ok (.iconst 0, 1) := by decide +kernel
theorem dX12_becomesNew_23 : decode cX12_becomesNew 23 = .ok (.istore_n 2, 1) := by decide +kernel
theorem dX12_becomesNew_24 : decode cX12_becomesNew 24 = .ok (.iload_n 2, 1) := by decide +kernel
theorem dX12_becomesNew_25 : decode cX12_becomesNew 25 = .ok (.bipush 16, 2) := by decide +kernel
theorem dX12_becomesNew_27 : decode cX12_becomesNew 27 = .ok (.if_icmp .ge 40, 3) := by decide +kernel
theorem dX12_becomesNew_30 : decode cX12_becomesNew 30 = .ok (.aload_n 0, 1) := by decide +kernel
theorem dX12_becomesNew_31 : decode cX12_becomesNew 31 = .ok (.getfield 7, 3) := by decide +kernel
theorem dX12_becomesNew_34 : decode cX12_becomesNew 34 = .ok (.bipush 32, 2) := by decide +kernel
theorem dX12_becomesNew_36 : decode cX12_becomesNew 36 = .ok (.bipush 16, 2) := by decide +kernel
theorem dX12_becomesNew_38 : decode cX12_becomesNew 38 = .ok (.iload_n 1, 1) := by decide +kernel
theorem dX12_becomesNew_39 : decode cX12_becomesNew 39 = .ok (.imul, 1) := by decide +kernel
theorem dX12_becomesNew_40 : decode cX12_becomesNew 40 = .ok (.iadd, 1) := by decide +kernel
theorem dX12_becomesNew_41 : decode cX12_becomesNew 41 = .ok (.iload_n 2, 1) := by decide +kernel
theorem dX12_becomesNew_42 : decode cX12_becomesNew 42 = .ok (.iadd, 1) := by decide +kernel
theorem dX12_becomesNew_43 : decode cX12_becomesNew 43 = .ok (.iconst 0, 1) := by decide +kernel
theorem dX12_becomesNew_44 : decode cX12_becomesNew 44 = .ok (.iastore, 1) := by decide +kernel
theorem dX12_becomesNew_45 : decode cX12_becomesNew 45 = .ok (.aload_n 0, 1) := by decide +kernel
theorem dX12_becomesNew_46 : decode cX12_becomesNew 46 = .ok (.getfield 7, 3) := by decide +kernel
theorem dX12_becomesNew_49 : decode cX12_becomesNew 49 = .ok (.sipush 160, 3) := by decide +kernel
theorem dX12_becomesNew_52 : decode cX12_becomesNew 52 = .ok (.bipush 16, 2) := by decide +kernel
theorem dX12_becomesNew_54 : decode cX12_becomesNew 54 = .ok (.iload_n 1, 1) := by decide +kernel
theorem dX12_becomesNew_55 : decode cX12_becomesNew 55 = .ok (.imul, 1) := by decide +kernel
theorem dX12_becomesNew_56 : decode cX12_becomesNew 56 = .ok (.iadd, 1) := by decide +kernel
theorem dX12_becomesNew_57 : decode cX12_becomesNew 57 = .ok (.iload_n 2, 1) := by decide +kernel
theorem dX12_becomesNew_58 : decode cX12_becomesNew 58 = .ok (.iadd, 1) := by decide +kernel
theorem dX12_becomesNew_59 : decode cX12_becomesNew 59 = .ok (.iconst 0, 1) := by decide +kernel
theorem dX12_becomesNew_60 : decode cX12_becomesNew 60 = .ok (.iastore, 1) := by decide +kernel
theorem dX12_becomesNew_61 : decode cX12_becomesNew 61 = .ok (.iinc 2 1, 3) := by decide +kernel
theorem dX12_becomesNew_64 : decode cX12_becomesNew 64 = .ok (.goto (-40), 3) := by decide +kernel
theorem dX12_becomesNew_67 : decode cX12_becomesNew 67 = .ok (.return_, 1) := by decide +kernel
theorem dX12_bottle_0 : decode cX12_bottle 0 = .ok (.iload_n 1, 1) := by decide +kernel
theorem dX12_bottle_1 : decode cX12_bottle 1 = .ok (.iconst 0, 1) := by decide +kernel
theorem dX12_bottle_2 : decode cX12_bottle 2 = .ok (.bipush 7, 2) := by decide +kernel
theorem dX12_bottle_4 : decode cX12_bottle 4 = .ok (.invokestatic 105, 3) := by decide +kernel
theorem dX12_bottle_7 : decode cX12_bottle 7 = .ok (.ifCond .eq 12, 3) := by decide +kernel
theorem dX12_bottle_10 : decode cX12_bottle 10 = .ok (.iload_n 2, 1) := by decide +kernel
theorem dX12_bottle_11 : decode cX12_bottle 11 = .ok (.iconst 0, 1) := by decide +kernel
theorem dX12_bottle_12 : decode cX12_bottle 12 = .ok (.iconst 4, 1) := by decide +kernel
theorem dX12_bottle_13 : decode cX12_bottle 13 = .ok (.invokestatic 105, 3) := by decide +kernel
theorem dX12_bottle_16 : decode cX12_bottle 16 = .ok (.ifCond .ne 5, 3) := by decide +kernel
theorem dX12_bottle_19 : decode cX12_bottle 19 = .ok (.iconst 0, 1) := by decide +kernel
theorem dX12_bottle_20 : decode cX12_bottle 20 = .ok (.ireturn, 1) := by decide +kernel
theorem dX12_bottle_21 : decode cX12_bottle 21 = .ok (.aload_n 0, 1) := by decide +kernel
theorem dX12_bottle_22 : decode cX12_bottle 22 = .ok (.iload_n 1, 1) := by decide +kernel
theorem dX12_bottle_23 : decode cX12_bottle 23 = .ok (.invokevirtual 131, 3) := by decide +kernel
theorem dX12_bottle_26 : decode cX12_bottle 26 = .ok (.aload_n 0, 1) := by decide +kernel
theorem dX12_bottle_27 : decode cX12_bottle 27 = .ok (.getfield 7, 3) := by decide +kernel
theorem dX12_bottle_30 : decode cX12_bottle 30 = .ok (.iconst 0, 1) := by decide +kernel
theorem dX12_bottle_31 : decode cX12_bottle 31 = .ok (.iload_n 1, 1) := by decide +kernel
theorem dX12_bottle_32 : decode cX12_bottle 32 = .ok (.iadd, 1) := by decide +kernel
theorem dX12_bottle_33 : decode cX12_bottle 33 = .ok (.iconst 1, 1) := by decide +kernel
theorem dX12_bottle_34 : decode cX12_bottle 34 = .ok (.iastore, 1) := by decide +kernel
theorem dX12_bottle_35 : decode cX12_bottle 35 = .ok (.aload_n 0, 1) := by decide +kernel
theorem dX12_bottle_36 : decode cX12_bottle 36 = .ok (.getfield 7, 3) := by decide +kernel
theorem dX12_bottle_39 : decode cX12_bottle 39 = .ok (.bipush 8, 2) := by decide +kernel
theorem dX12_bottle_41 : decode cX12_bottle 41 = .ok (.iload_n 1, 1) := by decide +kernel
theorem dX12_bottle_42 : decode cX12_bottle 42 = .ok (.iadd, 1) := by decide +kernel
theorem dX12_bottle_43 : decode cX12_bottle 43 = .ok (.iload_n 2, 1) := by decide +kernel
theorem dX12_bottle_44 : decode cX12_bottle 44 = .ok (.iastore, 1) := by decide +kernel
theorem dX12_bottle_45 : decode cX12_bottle 45 = .ok (.iconst 1, 1) := by decide +kernel
theorem dX12_bottle_46 : decode cX12_bottle 46 = .ok (.ireturn, 1) := by decide +kernel
theorem dX12_ink_0 : decode cX12_ink 0 = .ok (.aload_n 0, 1) := by decide +kernel
theorem dX12_ink_1 : decode cX12_ink 1 = .ok (.iload_n 1, 1) := by decide +kernel
theorem dX12_ink_2 : decode cX12_ink 2 = .ok (.invokevirtual 109, 3) := by decide +kernel
theorem dX12_ink_5 : decode cX12_ink 5 = .ok (.ifCond .eq 14, 3) := by decide +kernel
theorem dX12_ink_8 : decode cX12_ink 8 = .ok (.iload_n 2, 1) := by decide +kernel
theorem dX12_ink_9 : decode cX12_ink 9 = .ok (.iconst 0, 1) := by decide +kernel
theorem dX12_ink_10 : decode cX12_ink 10 = .ok (.sipush 999, 3) := by decide +kernel
theorem dX12_ink_13 : decode cX12_ink 13 = .ok (.invokestatic 105, 3) := by decide +kernel
theorem dX12_ink_16 : decode cX12_ink 16 = .ok (.ifCond .ne 5, 3) := by decide +kernel
theorem dX12_ink_19 : decode cX12_ink 19 = .ok (.iconst 0, 1) := by decide +kernel
theorem dX12_ink_20 : decode cX12_ink 20 = .ok (.ireturn, 1) := by decide +kernel
theorem dX12_ink_21 : decode cX12_ink 21 = .ok (.aload_n 0, 1) := by decide +kernel
theorem dX12_ink_22 : decode cX12_ink 22 = .ok (.getfield 7, 3) := by decide +kernel
theorem dX12_ink_25 : decode cX12_ink 25 = .ok (.bipush 24, 2) := by decide +kernel
theorem dX12_ink_27 : decode cX12_ink 27 = .ok (.iload_n 1, 1) := by decide +kernel
theorem dX12_ink_28 : decode cX12_ink 28 = .ok (.iadd, 1) := by decide +kernel
theorem dX12_ink_29 : decode cX12_ink 29 = .ok (.iload_n 2, 1) := by decide +kernel
theorem dX12_ink_30 : decode cX12_ink 30 = .ok (.iastore, 1) := by decide +kernel
theorem dX12_ink_31 : decode cX12_ink 31 = .ok (.iconst 1, 1) := by decide +kernel
theorem dX12_ink_32 : decode cX12_ink 32 = .ok (.ireturn, 1) := by decide +kernel
theorem dX12_nerve_0 : decode cX12_nerve 0 = .ok (.iload_n 1, 1) := by decide +kernel
theorem dX12_nerve_1 : decode cX12_nerve 1 = .ok (.iconst 0, 1) := by decide +kernel
theorem dX12_nerve_2 : decode cX12_nerve 2 = .ok (.bipush 99, 2) := by decide +kernel
theorem dX12_nerve_4 : decode cX12_nerve 4 = .ok (.invokestatic 105, 3) := by decide +kernel
theorem dX12_nerve_7 : decode cX12_nerve 7 = .ok (.ifCond .ne 5, 3) := by decide +kernel
theorem dX12_nerve_10 : decode cX12_nerve 10 = .ok (.iconst 0, 1) := by decide +kernel
theorem dX12_nerve_11 : decode cX12_nerve 11 = .ok (.ireturn, 1) := by decide +kernel
theorem dX12_nerve_12 : decode cX12_nerve 12 = .ok (.aload_n 0, 1) := by decide +kernel
theorem dX12_nerve_13 : decode cX12_nerve 13 = .ok (.getfield 7, 3) := by decide +kernel
theorem dX12_nerve_16 : decode cX12_nerve 16 = .ok (.sipush 288, 3) := by decide +kernel
theorem dX12_nerve_19 : decode cX12_nerve 19 = .ok (.iload_n 1, 1) := by decide +kernel
theorem dX12_nerve_20 : decode cX12_nerve 20 = .ok (.iastore, 1) := by decide +kernel
theorem dX12_nerve_21 : decode cX12_nerve 21 = .ok (.iconst 1, 1) := by decide +kernel
theorem dX12_nerve_22 : decode cX12_nerve 22 = .ok (.ireturn, 1) := by decide +kernel
theorem dX12_nextLot_0 : decode cX12_nextLot 0 = .ok (.sipush 25173, 3) := by decide +kernel
theorem dX12_nextLot_3 : decode cX12_nextLot 3 = .ok (.iload_n 0, 1) := by decide +kernel
theorem dX12_nextLot_4 : decode cX12_nextLot 4 = .ok (.imul, 1) := by decide +kernel
theorem dX12_nextLot_5 : decode cX12_nextLot 5 = .ok (.sipush 13849, 3) := by decide +kernel
theorem dX12_nextLot_8 : decode cX12_nextLot 8 = .ok (.iadd, 1) := by decide +kernel
theorem dX12_nextLot_9 : decode cX12_nextLot 9 = .ok (.ldc 135, 2) := by decide +kernel
theorem dX12_nextLot_11 : decode cX12_nextLot 11 = .ok (.irem, 1) := by decide +kernel
theorem dX12_nextLot_12 : decode cX12_nextLot 12 = .ok (.ireturn, 1) := by decide +kernel
theorem dX12_dreadSum_0 : decode cX12_dreadSum 0 = .ok (.iconst 0, 1) := by decide +kernel
theorem dX12_dreadSum_1 : decode cX12_dreadSum 1 = .ok (.istore_n 2, 1) := by decide +kernel
theorem dX12_dreadSum_2 : decode cX12_dreadSum 2 = .ok (.iconst 0, 1) := by decide +kernel
theorem dX12_dreadSum_3 : decode cX12_dreadSum 3 = .ok (.istore_n 3, 1) := by decide +kernel
theorem dX12_dreadSum_4 : decode cX12_dreadSum 4 = .ok (.iload_n 3, 1) := by decide +kernel
theorem dX12_dreadSum_5 : decode cX12_dreadSum 5 = .ok (.bipush 16, 2) := by decide +kernel
theorem dX12_dreadSum_7 : decode cX12_dreadSum 7 = .ok (.if_icmp .ge 18, 3) := by decide +kernel
theorem dX12_dreadSum_10 : decode cX12_dreadSum 10 = .ok (.iload_n 2, 1) := by decide +kernel
theorem dX12_dreadSum_11 : decode cX12_dreadSum 11 = .ok (.aload_n 0, 1) := by decide +kernel
theorem dX12_dreadSum_12 : decode cX12_dreadSum 12 = .ok (.iload_n 1, 1) := by decide +kernel
theorem dX12_dreadSum_13 : decode cX12_dreadSum 13 = .ok (.iload_n 3, 1) := by decide +kernel
theorem dX12_dreadSum_14 : decode cX12_dreadSum 14 = .ok (.invokevirtual 113, 3) := by decide +kernel
theorem dX12_dreadSum_17 : decode cX12_dreadSum 17 = .ok (.iadd, 1) := by decide +kernel
theorem dX12_dreadSum_18 : decode cX12_dreadSum 18 = .ok (.istore_n 2, 1) := by decide +kernel
theorem dX12_dreadSum_19 : decode cX12_dreadSum 19 = .ok (.iinc 3 1, 3) := by decide +kernel
theorem dX12_dreadSum_22 : decode cX12_dreadSum 22 = .ok (.goto (-18), 3) := by decide +kernel
theorem dX12_dreadSum_25 : decode cX12_dreadSum 25 = .ok (.iload_n 2, 1) := by decide +kernel
theorem dX12_dreadSum_26 : decode cX12_dreadSum 26 = .ok (.ireturn, 1) := by decide +kernel
theorem dX12_pressed_0 : decode cX12_pressed 0 = .ok (.aload_n 0, 1) := by decide +kernel
theorem dX12_pressed_1 : decode cX12_pressed 1 = .ok (.iload_n 1, 1) := by decide +kernel
theorem dX12_pressed_2 : decode cX12_pressed 2 = .ok (.invokevirtual 109, 3) := by decide +kernel
theorem dX12_pressed_5 : decode cX12_pressed 5 = .ok (.ifCond .eq 13, 3) := by decide +kernel
theorem dX12_pressed_8 : decode cX12_pressed 8 = .ok (.iload_n 2, 1) := by decide +kernel
theorem dX12_pressed_9 : decode cX12_pressed 9 = .ok (.iconst 0, 1) := by decide +kernel
theorem dX12_pressed_10 : decode cX12_pressed 10 = .ok (.ldc 136, 2) := by decide +kernel
theorem dX12_pressed_12 : decode cX12_pressed 12 = .ok (.invokestatic 105, 3) := by decide +kernel
theorem dX12_pressed_15 : decode cX12_pressed 15 = .ok (.ifCond .ne 5, 3) := by decide +kernel
theorem dX12_pressed_18 : decode cX12_pressed 18 = .ok (.iconst (-1), 1) := by decide +kernel
theorem dX12_pressed_19 : decode cX12_pressed 19 = .ok (.ireturn, 1) := by decide +kernel
theorem dX12_pressed_20 : decode cX12_pressed 20 = .ok (.aload_n 0, 1) := by decide +kernel
theorem dX12_pressed_21 : decode cX12_pressed 21 = .ok (.iload_n 1, 1) := by decide +kernel
theorem dX12_pressed_22 : decode cX12_pressed 22 = .ok (.invokevirtual 131, 3) := by decide +kernel
theorem dX12_pressed_25 : decode cX12_pressed 25 = .ok (.iload_n 2, 1) := by decide +kernel
theorem dX12_pressed_26 : decode cX12_pressed 26 = .ok (.istore_n 3, 1) := by decide +kernel
theorem dX12_pressed_27 : decode cX12_pressed 27 = .ok (.iconst 0, 1) := by decide +kernel
theorem dX12_pressed_28 : decode cX12_pressed 28 = .ok (.istore 4, 2) := by decide +kernel
theorem dX12_pressed_30 : decode cX12_pressed 30 = .ok (.iload 4, 2) := by decide +kernel
theorem dX12_pressed_32 : decode cX12_pressed 32 = .ok (.bipush 16, 2) := by decide +kernel
theorem dX12_pressed_34 : decode cX12_pressed 34 = .ok (.if_icmp .ge 50, 3) := by decide +kernel
theorem dX12_pressed_37 : decode cX12_pressed 37 = .ok (.iload_n 3, 1) := by decide +kernel
theorem dX12_pressed_38 : decode cX12_pressed 38 = .ok (.invokestatic 137, 3) := by decide +kernel
theorem dX12_pressed_41 : decode cX12_pressed 41 = .ok (.istore_n 3, 1) := by decide +kernel
theorem dX12_pressed_42 : decode cX12_pressed 42 = .ok (.iload_n 3, 1) := by decide +kernel
theorem dX12_pressed_43 : decode cX12_pressed 43 = .ok (.bipush 10, 2) := by decide +kernel
theorem dX12_pressed_45 : decode cX12_pressed 45 = .ok (.irem, 1) := by decide +kernel
theorem dX12_pressed_46 : decode cX12_pressed 46 = .ok (.istore 5, 2) := by decide +kernel
theorem dX12_pressed_48 : decode cX12_pressed 48 = .ok (.iload_n 3, 1) := by decide +kernel
theorem dX12_pressed_49 : decode cX12_pressed 49 = .ok (.invokestatic 137, 3) := by decide +kernel
theorem dX12_pressed_52 : decode cX12_pressed 52 = .ok (.istore_n 3, 1) := by decide +kernel
theorem dX12_pressed_53 : decode cX12_pressed 53 = .ok (.aload_n 0, 1) := by decide +kernel
theorem dX12_pressed_54 : decode cX12_pressed 54 = .ok (.getfield 7, 3) := by decide +kernel
theorem dX12_pressed_57 : decode cX12_pressed 57 = .ok (.bipush 32, 2) := by decide +kernel
theorem dX12_pressed_59 : decode cX12_pressed 59 = .ok (.bipush 16, 2) := by decide +kernel
theorem dX12_pressed_61 : decode cX12_pressed 61 = .ok (.iload_n 1, 1) := by decide +kernel
theorem dX12_pressed_62 : decode cX12_pressed 62 = .ok (.imul, 1) := by decide +kernel
theorem dX12_pressed_63 : decode cX12_pressed 63 = .ok (.iadd, 1) := by decide +kernel
theorem dX12_pressed_64 : decode cX12_pressed 64 = .ok (.iload 4, 2) := by decide +kernel
theorem dX12_pressed_66 : decode cX12_pressed 66 = .ok (.iadd, 1) := by decide +kernel
theorem dX12_pressed_67 : decode cX12_pressed 67 = .ok (.bipush 10, 2) := by decide +kernel
theorem dX12_pressed_69 : decode cX12_pressed 69 = .ok (.iload 5, 2) := by decide +kernel
theorem dX12_pressed_71 : decode cX12_pressed 71 = .ok (.imul, 1) := by decide +kernel
theorem dX12_pressed_72 : decode cX12_pressed 72 = .ok (.iload_n 3, 1) := by decide +kernel
theorem dX12_pressed_73 : decode cX12_pressed 73 = .ok (.bipush 10, 2) := by decide +kernel
theorem dX12_pressed_75 : decode cX12_pressed 75 = .ok (.irem, 1) := by decide +kernel
theorem dX12_pressed_76 : decode cX12_pressed 76 = .ok (.iadd, 1) := by decide +kernel
theorem dX12_pressed_77 : decode cX12_pressed 77 = .ok (.iastore, 1) := by decide +kernel
theorem dX12_pressed_78 : decode cX12_pressed 78 = .ok (.iinc 4 1, 3) := by decide +kernel
theorem dX12_pressed_81 : decode cX12_pressed 81 = .ok (.goto (-51), 3) := by decide +kernel
theorem dX12_pressed_84 : decode cX12_pressed 84 = .ok (.aload_n 0, 1) := by decide +kernel
theorem dX12_pressed_85 : decode cX12_pressed 85 = .ok (.iload_n 1, 1) := by decide +kernel
theorem dX12_pressed_86 : decode cX12_pressed 86 = .ok (.invokevirtual 140, 3) := by decide +kernel
theorem dX12_pressed_89 : decode cX12_pressed 89 = .ok (.ireturn, 1) := by decide +kernel
theorem dX12_types_0 : decode cX12_types 0 = .ok (.iconst 3, 1) := by decide +kernel
theorem dX12_types_1 : decode cX12_types 1 = .ok (.istore_n 2, 1) := by decide +kernel
theorem dX12_types_2 : decode cX12_types 2 = .ok (.iload_n 2, 1) := by decide +kernel
theorem dX12_types_3 : decode cX12_types 3 = .ok (.ifCond .lt 35, 3) := by decide +kernel
theorem dX12_types_6 : decode cX12_types 6 = .ok (.aload_n 0, 1) := by decide +kernel
theorem dX12_types_7 : decode cX12_types 7 = .ok (.getfield 28, 3) := by decide +kernel
theorem dX12_types_10 : decode cX12_types 10 = .ok (.aload_n 0, 1) := by decide +kernel
theorem dX12_types_11 : decode cX12_types 11 = .ok (.getfield 143, 3) := by decide +kernel
theorem dX12_types_14 : decode cX12_types 14 = .ok (.iload_n 1, 1) := by decide +kernel
theorem dX12_types_15 : decode cX12_types 15 = .ok (.bipush 8, 2) := by decide +kernel
theorem dX12_types_17 : decode cX12_types 17 = .ok (.iload_n 2, 1) := by decide +kernel
theorem dX12_types_18 : decode cX12_types 18 = .ok (.imul, 1) := by decide +kernel
theorem dX12_types_19 : decode cX12_types 19 = .ok (.ishr, 1) := by decide +kernel
theorem dX12_types_20 : decode cX12_types 20 = .ok (.i2b, 1) := by decide +kernel
theorem dX12_types_21 : decode cX12_types 21 = .ok (.bastore, 1) := by decide +kernel
theorem dX12_types_22 : decode cX12_types 22 = .ok (.aload_n 0, 1) := by decide +kernel
theorem dX12_types_23 : decode cX12_types 23 = .ok (.aload_n 0, 1) := by decide +kernel
theorem dX12_types_24 : decode cX12_types 24 = .ok (.getfield 143, 3) := by decide +kernel
theorem dX12_types_27 : decode cX12_types 27 = .ok (.iconst 1, 1) := by decide +kernel
theorem dX12_types_28 : decode cX12_types 28 = .ok (.iadd, 1) := by decide +kernel
theorem dX12_types_29 : decode cX12_types 29 = .ok (.putfield 143, 3) := by decide +kernel
theorem dX12_types_32 : decode cX12_types 32 = .ok (.iinc 2 (-1), 3) := by decide +kernel
theorem dX12_types_35 : decode cX12_types 35 = .ok (.goto (-33), 3) := by decide +kernel
theorem dX12_types_38 : decode cX12_types 38 = .ok (.return_, 1) := by decide +kernel
theorem dX12_feed_0 : decode cX12_feed 0 = .ok (.aload_n 0, 1) := by decide +kernel
theorem dX12_feed_1 : decode cX12_feed 1 = .ok (.getfield 143, 3) := by decide +kernel
theorem dX12_feed_4 : decode cX12_feed 4 = .ok (.bipush 20, 2) := by decide +kernel
theorem dX12_feed_6 : decode cX12_feed 6 = .ok (.iadd, 1) := by decide +kernel
theorem dX12_feed_7 : decode cX12_feed 7 = .ok (.sipush 260, 3) := by decide +kernel
theorem dX12_feed_10 : decode cX12_feed 10 = .ok (.if_icmp .le 5, 3) := by decide +kernel
theorem dX12_feed_13 : decode cX12_feed 13 = .ok (.iconst (-1), 1) := by decide +kernel
theorem dX12_feed_14 : decode cX12_feed 14 = .ok (.ireturn, 1) := by decide +kernel
theorem dX12_feed_15 : decode cX12_feed 15 = .ok (.aload_n 0, 1) := by decide +kernel
theorem dX12_feed_16 : decode cX12_feed 16 = .ok (.iload_n 1, 1) := by decide +kernel
theorem dX12_feed_17 : decode cX12_feed 17 = .ok (.invokevirtual 147, 3) := by decide +kernel
theorem dX12_feed_20 : decode cX12_feed 20 = .ok (.aload_n 0, 1) := by decide +kernel
theorem dX12_feed_21 : decode cX12_feed 21 = .ok (.iload_n 2, 1) := by decide +kernel
theorem dX12_feed_22 : decode cX12_feed 22 = .ok (.invokevirtual 147, 3) := by decide +kernel
theorem dX12_feed_25 : decode cX12_feed 25 = .ok (.aload_n 0, 1) := by decide +kernel
theorem dX12_feed_26 : decode cX12_feed 26 = .ok (.iload_n 3, 1) := by decide +kernel
theorem dX12_feed_27 : decode cX12_feed 27 = .ok (.invokevirtual 147, 3) := by decide +kernel
theorem dX12_feed_30 : decode cX12_feed 30 = .ok (.aload_n 0, 1) := by decide +kernel
theorem dX12_feed_31 : decode cX12_feed 31 = .ok (.iload 4, 2) := by decide +kernel
theorem dX12_feed_33 : decode cX12_feed 33 = .ok (.invokevirtual 147, 3) := by decide +kernel
theorem dX12_feed_36 : decode cX12_feed 36 = .ok (.aload_n 0, 1) := by decide +kernel
theorem dX12_feed_37 : decode cX12_feed 37 = .ok (.iload 5, 2) := by decide +kernel
theorem dX12_feed_39 : decode cX12_feed 39 = .ok (.invokevirtual 147, 3) := by decide +kernel
theorem dX12_feed_42 : decode cX12_feed 42 = .ok (.aload_n 0, 1) := by decide +kernel
theorem dX12_feed_43 : decode cX12_feed 43 = .ok (.getfield 143, 3) := by decide +kernel
theorem dX12_feed_46 : decode cX12_feed 46 = .ok (.ireturn, 1) := by decide +kernel
theorem dX12_octet_0 : decode cX12_octet 0 = .ok (.aload_n 0, 1) := by decide +kernel
theorem dX12_octet_1 : decode cX12_octet 1 = .ok (.getfield 28, 3) := by decide +kernel
theorem dX12_octet_4 : decode cX12_octet 4 = .ok (.iload_n 1, 1) := by decide +kernel
theorem dX12_octet_5 : decode cX12_octet 5 = .ok (.baload, 1) := by decide +kernel
theorem dX12_octet_6 : decode cX12_octet 6 = .ok (.sipush 255, 3) := by decide +kernel
theorem dX12_octet_9 : decode cX12_octet 9 = .ok (.iand, 1) := by decide +kernel
theorem dX12_octet_10 : decode cX12_octet 10 = .ok (.ireturn, 1) := by decide +kernel
theorem dX12_here_0 : decode cX12_here 0 = .ok (.aload_n 0, 1) := by decide +kernel
theorem dX12_here_1 : decode cX12_here 1 = .ok (.getfield 150, 3) := by decide +kernel
theorem dX12_here_4 : decode cX12_here 4 = .ok (.aload_n 0, 1) := by decide +kernel
theorem dX12_here_5 : decode cX12_here 5 = .ok (.getfield 153, 3) := by decide +kernel
theorem dX12_here_8 : decode cX12_here 8 = .ok (.if_icmp .ge 19, 3) := by decide +kernel
theorem dX12_here_11 : decode cX12_here 11 = .ok (.aload_n 0, 1) := by decide +kernel
theorem dX12_here_12 : decode cX12_here 12 = .ok (.getfield 28, 3) := by decide +kernel
theorem dX12_here_15 : decode cX12_here 15 = .ok (.aload_n 0, 1) := by decide +kernel
theorem dX12_here_16 : decode cX12_here 16 = .ok (.getfield 150, 3) := by decide +kernel
theorem dX12_here_19 : decode cX12_here 19 = .ok (.baload, 1) := by decide +kernel
theorem dX12_here_20 : decode cX12_here 20 = .ok (.sipush 255, 3) := by decide +kernel
theorem dX12_here_23 : decode cX12_here 23 = .ok (.iand, 1) := by decide +kernel
theorem dX12_here_24 : decode cX12_here 24 = .ok (.goto 4, 3) := by decide +kernel
theorem dX12_here_27 : decode cX12_here 27 = .ok (.iconst (-1), 1) := by decide +kernel
theorem dX12_here_28 : decode cX12_here 28 = .ok (.ireturn, 1) := by decide +kernel
theorem dX12_isDigit_0 : decode cX12_isDigit 0 = .ok (.aload_n 0, 1) := by decide +kernel
theorem dX12_isDigit_1 : decode cX12_isDigit 1 = .ok (.invokevirtual 156, 3) := by decide +kernel
theorem dX12_isDigit_4 : decode cX12_isDigit 4 = .ok (.bipush 48, 2) := by decide +kernel
theorem dX12_isDigit_6 : decode cX12_isDigit 6 = .ok (.if_icmp .lt 16, 3) := by decide +kernel
theorem dX12_isDigit_9 : decode cX12_isDigit 9 = .ok (.aload_n 0, 1) := by decide +kernel
theorem dX12_isDigit_10 : decode cX12_isDigit 10 = .ok (.invokevirtual 156, 3) := by decide +kernel
theorem dX12_isDigit_13 : decode cX12_isDigit 13 = .ok (.bipush 57, 2) := by decide +kernel
theorem dX12_isDigit_15 : decode cX12_isDigit 15 = .ok (.if_icmp .gt 7, 3) := by decide +kernel
theorem dX12_isDigit_18 : decode cX12_isDigit 18 = .ok (.iconst 1, 1) := by decide +kernel
theorem dX12_isDigit_19 : decode cX12_isDigit 19 = .ok (.goto 4, 3) := by decide +kernel
theorem dX12_isDigit_22 : decode cX12_isDigit 22 = .ok (.iconst 0, 1) := by decide +kernel
theorem dX12_isDigit_23 : decode cX12_isDigit 23 = .ok (.ireturn, 1) := by decide +kernel
theorem dX12_wrongAt_0 : decode cX12_wrongAt 0 = .ok (.aload_n 0, 1) := by decide +kernel
theorem dX12_wrongAt_1 : decode cX12_wrongAt 1 = .ok (.sipush (-1000), 3) := by decide +kernel
theorem dX12_wrongAt_4 : decode cX12_wrongAt 4 = .ok (.iload_n 1, 1) := by decide +kernel
theorem dX12_wrongAt_5 : decode cX12_wrongAt 5 = .ok (.imul, 1) := by decide +kernel
theorem dX12_wrongAt_6 : decode cX12_wrongAt 6 = .ok (.iload_n 2, 1) := by decide +kernel
theorem dX12_wrongAt_7 : decode cX12_wrongAt 7 = .ok (.isub, 1) := by decide +kernel
theorem dX12_wrongAt_8 : decode cX12_wrongAt 8 = .ok (.putfield 160, 3) := by decide +kernel
theorem dX12_wrongAt_11 : decode cX12_wrongAt 11 = .ok (.iconst 0, 1) := by decide +kernel
theorem dX12_wrongAt_12 : decode cX12_wrongAt 12 = .ok (.ireturn, 1) := by decide +kernel
theorem dX12_takes_0 : decode cX12_takes 0 = .ok (.aload_n 0, 1) := by decide +kernel
theorem dX12_takes_1 : decode cX12_takes 1 = .ok (.invokevirtual 156, 3) := by decide +kernel
theorem dX12_takes_4 : decode cX12_takes 4 = .ok (.iload_n 1, 1) := by decide +kernel
theorem dX12_takes_5 : decode cX12_takes 5 = .ok (.if_icmp .eq 13, 3) := by decide +kernel
theorem dX12_takes_8 : decode cX12_takes 8 = .ok (.aload_n 0, 1) := by decide +kernel
theorem dX12_takes_9 : decode cX12_takes 9 = .ok (.iconst 1, 1) := by decide +kernel
theorem dX12_takes_10 : decode cX12_takes 10 = .ok (.aload_n 0, 1) := by decide +kernel
theorem dX12_takes_11 : decode cX12_takes 11 = .ok (.getfield 150, 3) := by decide +kernel
theorem dX12_takes_14 : decode cX12_takes 14 = .ok (.invokevirtual 163, 3) := by decide +kernel
theorem dX12_takes_17 : decode cX12_takes 17 = .ok (.ireturn, 1) := by decide +kernel
theorem dX12_takes_18 : decode cX12_takes 18 = .ok (.aload_n 0, 1) := by decide +kernel
theorem dX12_takes_19 : decode cX12_takes 19 = .ok (.aload_n 0, 1) := by decide +kernel
theorem dX12_takes_20 : decode cX12_takes 20 = .ok (.getfield 150, 3) := by decide +kernel
theorem dX12_takes_23 : decode cX12_takes 23 = .ok (.iconst 1, 1) := by decide +kernel
theorem dX12_takes_24 : decode cX12_takes 24 = .ok (.iadd, 1) := by decide +kernel
theorem dX12_takes_25 : decode cX12_takes 25 = .ok (.putfield 150, 3) := by decide +kernel
theorem dX12_takes_28 : decode cX12_takes 28 = .ok (.iconst 1, 1) := by decide +kernel
theorem dX12_takes_29 : decode cX12_takes 29 = .ok (.ireturn, 1) := by decide +kernel
theorem dX12_readsNumber_0 : decode cX12_readsNumber 0 = .ok (.aload_n 0, 1) := by decide +kernel
theorem dX12_readsNumber_1 : decode cX12_readsNumber 1 = .ok (.getfield 150, 3) := by decide +kernel
theorem dX12_readsNumber_4 : decode cX12_readsNumber 4 = .ok (.istore_n 1, 1) := by decide +kernel
theorem dX12_readsNumber_5 : decode cX12_readsNumber 5 = .ok (.aload_n 0, 1) := by decide +kernel
theorem dX12_readsNumber_6 : decode cX12_readsNumber 6 = .ok (.iconst 0, 1) := by decide +kernel
theorem dX12_readsNumber_7 : decode cX12_readsNumber 7 = .ok (.putfield 166, 3) := by decide +kernel
theorem dX12_readsNumber_10 : decode cX12_readsNumber 10 = .ok (.aload_n 0, 1) := by decide +kernel
theorem dX12_readsNumber_11 : decode cX12_readsNumber 11 = .ok (.invokevirtual 169, 3) := by decide +kernel
theorem dX12_readsNumber_14 : decode cX12_readsNumber 14 = .ok (.ifCond .eq 55, 3) := by decide +kernel
theorem dX12_readsNumber_17 : decode cX12_readsNumber 17 = .ok (.aload_n 0, 1) := by decide +kernel
theorem dX12_readsNumber_18 : decode cX12_readsNumber 18 = .ok (.getfield 150, 3) := by decide +kernel
theorem dX12_readsNumber_21 : decode cX12_readsNumber 21 = .ok (.iload_n 1, 1) := by decide +kernel
theorem dX12_readsNumber_22 : decode cX12_readsNumber 22 = .ok (.iconst 5, 1) := by decide +kernel
theorem dX12_readsNumber_23 : decode cX12_readsNumber 23 = .ok (.iadd, 1) := by decide +kernel
theorem dX12_readsNumber_24 : decode cX12_readsNumber 24 = .ok (.if_icmp .ne 13, 3) := by decide +kernel
theorem dX12_readsNumber_27 : decode cX12_readsNumber 27 = .ok (.aload_n 0, 1) := by decide +kernel
theorem dX12_readsNumber_28 : decode cX12_readsNumber 28 = .ok (.iconst 2, 1) := by decide +kernel
theorem dX12_readsNumber_29 : decode cX12_readsNumber 29 = .ok (.aload_n 0, 1) := by decide +kernel
theorem dX12_readsNumber_30 : decode cX12_readsNumber 30 = .ok (.getfield 150, 3) := by decide +kernel
theorem dX12_readsNumber_33 : decode cX12_readsNumber 33 = .ok (.invokevirtual 163, 3) := by decide +kernel
theorem dX12_readsNumber_36 : decode cX12_readsNumber 36 = .ok (.ireturn, 1) := by decide +kernel
theorem dX12_readsNumber_37 : decode cX12_readsNumber 37 = .ok (.aload_n 0, 1) := by decide +kernel
theorem dX12_readsNumber_38 : decode cX12_readsNumber 38 = .ok (.bipush 10, 2) := by decide +kernel
theorem dX12_readsNumber_40 : decode cX12_readsNumber 40 = .ok (.aload_n 0, 1) := by decide +kernel
theorem dX12_readsNumber_41 : decode cX12_readsNumber 41 = .ok (.getfield 166, 3) := by decide +kernel
theorem dX12_readsNumber_44 : decode cX12_readsNumber 44 = .ok (.imul, 1) := by decide +kernel
theorem dX12_readsNumber_45 : decode cX12_readsNumber 45 = .ok (.aload_n 0, 1) := by decide +kernel
theorem dX12_readsNumber_46 : decode cX12_readsNumber 46 = .ok (.invokevirtual 156, 3) := by decide +kernel
theorem dX12_readsNumber_49 : decode cX12_readsNumber 49 = .ok (.iadd, 1) := by decide +kernel
theorem dX12_readsNumber_50 : decode cX12_readsNumber 50 = .ok (.bipush 48, 2) := by decide +kernel
theorem dX12_readsNumber_52 : decode cX12_readsNumber 52 = .ok (.isub, 1) := by decide +kernel
theorem dX12_readsNumber_53 : decode cX12_readsNumber 53 = .ok (.putfield 166, 3) := by decide +kernel
theorem dX12_readsNumber_56 : decode cX12_readsNumber 56 = .ok (.aload_n 0, 1) := by decide +kernel
theorem dX12_readsNumber_57 : decode cX12_readsNumber 57 = .ok (.aload_n 0, 1) := by decide +kernel
theorem dX12_readsNumber_58 : decode cX12_readsNumber 58 = .ok (.getfield 150, 3) := by decide +kernel
theorem dX12_readsNumber_61 : decode cX12_readsNumber 61 = .ok (.iconst 1, 1) := by decide +kernel
theorem dX12_readsNumber_62 : decode cX12_readsNumber 62 = .ok (.iadd, 1) := by decide +kernel
theorem dX12_readsNumber_63 : decode cX12_readsNumber 63 = .ok (.putfield 150, 3) := by decide +kernel
theorem dX12_readsNumber_66 : decode cX12_readsNumber 66 = .ok (.goto (-56), 3) := by decide +kernel
theorem dX12_readsNumber_69 : decode cX12_readsNumber 69 = .ok (.iconst 1, 1) := by decide +kernel
theorem dX12_readsNumber_70 : decode cX12_readsNumber 70 = .ok (.ireturn, 1) := by decide +kernel
theorem dX12_notes_0 : decode cX12_notes 0 = .ok (.aload_n 0, 1) := by decide +kernel
theorem dX12_notes_1 : decode cX12_notes 1 = .ok (.getfield 32, 3) := by decide +kernel
theorem dX12_notes_4 : decode cX12_notes 4 = .ok (.aload_n 0, 1) := by decide +kernel
theorem dX12_notes_5 : decode cX12_notes 5 = .ok (.getfield 173, 3) := by decide +kernel
theorem dX12_notes_8 : decode cX12_notes 8 = .ok (.ldc 176, 2) := by decide +kernel
theorem dX12_notes_10 : decode cX12_notes 10 = .ok (.iload_n 1, 1) := by decide +kernel
theorem dX12_notes_11 : decode cX12_notes 11 = .ok (.imul, 1) := by decide +kernel
theorem dX12_notes_12 : decode cX12_notes 12 = .ok (.iload_n 2, 1) := by decide +kernel
theorem dX12_notes_13 : decode cX12_notes 13 = .ok (.iadd, 1) := by decide +kernel
theorem dX12_notes_14 : decode cX12_notes 14 = .ok (.iastore, 1) := by decide +kernel
theorem dX12_notes_15 : decode cX12_notes 15 = .ok (.aload_n 0, 1) := by decide +kernel
theorem dX12_notes_16 : decode cX12_notes 16 = .ok (.aload_n 0, 1) := by decide +kernel
theorem dX12_notes_17 : decode cX12_notes 17 = .ok (.getfield 173, 3) := by decide +kernel
theorem dX12_notes_20 : decode cX12_notes 20 = .ok (.iconst 1, 1) := by decide +kernel
theorem dX12_notes_21 : decode cX12_notes 21 = .ok (.iadd, 1) := by decide +kernel
theorem dX12_notes_22 : decode cX12_notes 22 = .ok (.putfield 173, 3) := by decide +kernel
theorem dX12_notes_25 : decode cX12_notes 25 = .ok (.return_, 1) := by decide +kernel
theorem dX12_opens_0 : decode cX12_opens 0 = .ok (.aload_n 0, 1) := by decide +kernel
theorem dX12_opens_1 : decode cX12_opens 1 = .ok (.getfield 177, 3) := by decide +kernel
theorem dX12_opens_4 : decode cX12_opens 4 = .ok (.bipush 6, 2) := by decide +kernel
theorem dX12_opens_6 : decode cX12_opens 6 = .ok (.if_icmp .ne 13, 3) := by decide +kernel
theorem dX12_opens_9 : decode cX12_opens 9 = .ok (.aload_n 0, 1) := by decide +kernel
theorem dX12_opens_10 : decode cX12_opens 10 = .ok (.iconst 5, 1) := by decide +kernel
theorem dX12_opens_11 : decode cX12_opens 11 = .ok (.aload_n 0, 1) := by decide +kernel
theorem dX12_opens_12 : decode cX12_opens 12 = .ok (.getfield 150, 3) := by decide +kernel
theorem dX12_opens_15 : decode cX12_opens 15 = .ok (.invokevirtual 163, 3) := by decide +kernel
theorem dX12_opens_18 : decode cX12_opens 18 = .ok (.ireturn, 1) := by decide +kernel
theorem dX12_opens_19 : decode cX12_opens 19 = .ok (.aload_n 0, 1) := by decide +kernel
theorem dX12_opens_20 : decode cX12_opens 20 = .ok (.aload_n 0, 1) := by decide +kernel
theorem dX12_opens_21 : decode cX12_opens 21 = .ok (.getfield 177, 3) := by decide +kernel
theorem dX12_opens_24 : decode cX12_opens 24 = .ok (.iconst 1, 1) := by decide +kernel
theorem dX12_opens_25 : decode cX12_opens 25 = .ok (.iadd, 1) := by decide +kernel
theorem dX12_opens_26 : decode cX12_opens 26 = .ok (.putfield 177, 3) := by decide +kernel
theorem dX12_opens_29 : decode cX12_opens 29 = .ok (.aload_n 0, 1) := by decide +kernel
theorem dX12_opens_30 : decode cX12_opens 30 = .ok (.getfield 35, 3) := by decide +kernel
theorem dX12_opens_33 : decode cX12_opens 33 = .ok (.aload_n 0, 1) := by decide +kernel
theorem dX12_opens_34 : decode cX12_opens 34 = .ok (.getfield 180, 3) := by decide +kernel
theorem dX12_opens_37 : decode cX12_opens 37 = .ok (.ldc 176, 2) := by decide +kernel
theorem dX12_opens_39 : decode cX12_opens 39 = .ok (.iload_n 1, 1) := by decide +kernel
theorem dX12_opens_40 : decode cX12_opens 40 = .ok (.imul, 1) := by decide +kernel
theorem dX12_opens_41 : decode cX12_opens 41 = .ok (.iastore, 1) := by decide +kernel
theorem dX12_opens_42 : decode cX12_opens 42 = .ok (.aload_n 0, 1) := by decide +kernel
theorem dX12_opens_43 : decode cX12_opens 43 = .ok (.aload_n 0, 1) := by decide +kernel
theorem dX12_opens_44 : decode cX12_opens 44 = .ok (.getfield 180, 3) := by decide +kernel
theorem dX12_opens_47 : decode cX12_opens 47 = .ok (.iconst 1, 1) := by decide +kernel
theorem dX12_opens_48 : decode cX12_opens 48 = .ok (.iadd, 1) := by decide +kernel
theorem dX12_opens_49 : decode cX12_opens 49 = .ok (.putfield 180, 3) := by decide +kernel
theorem dX12_opens_52 : decode cX12_opens 52 = .ok (.aload_n 0, 1) := by decide +kernel
theorem dX12_opens_53 : decode cX12_opens 53 = .ok (.aload_n 0, 1) := by decide +kernel
theorem dX12_opens_54 : decode cX12_opens 54 = .ok (.getfield 150, 3) := by decide +kernel
theorem dX12_opens_57 : decode cX12_opens 57 = .ok (.iconst 1, 1) := by decide +kernel
theorem dX12_opens_58 : decode cX12_opens 58 = .ok (.iadd, 1) := by decide +kernel
theorem dX12_opens_59 : decode cX12_opens 59 = .ok (.putfield 150, 3) := by decide +kernel
theorem dX12_opens_62 : decode cX12_opens 62 = .ok (.iconst 1, 1) := by decide +kernel
theorem dX12_opens_63 : decode cX12_opens 63 = .ok (.ireturn, 1) := by decide +kernel
theorem dX12_waitTop_0 : decode cX12_waitTop 0 = .ok (.aload_n 0, 1) := by decide +kernel
theorem dX12_waitTop_1 : decode cX12_waitTop 1 = .ok (.getfield 180, 3) := by decide +kernel
theorem dX12_waitTop_4 : decode cX12_waitTop 4 = .ok (.ifCond .ne 7, 3) := by decide +kernel
theorem dX12_waitTop_7 : decode cX12_waitTop 7 = .ok (.iconst (-1), 1) := by decide +kernel
theorem dX12_waitTop_8 : decode cX12_waitTop 8 = .ok (.goto 17, 3) := by decide +kernel
theorem dX12_waitTop_11 : decode cX12_waitTop 11 = .ok (.aload_n 0, 1) := by decide +kernel
theorem dX12_waitTop_12 : decode cX12_waitTop 12 = .ok (.getfield 35, 3) := by decide +kernel
theorem dX12_waitTop_15 : decode cX12_waitTop 15 = .ok (.aload_n 0, 1) := by decide +kernel
theorem dX12_waitTop_16 : decode cX12_waitTop 16 = .ok (.getfield 180, 3) := by decide +kernel
theorem dX12_waitTop_19 : decode cX12_waitTop 19 = .ok (.iconst 1, 1) := by decide +kernel
theorem dX12_waitTop_20 : decode cX12_waitTop 20 = .ok (.isub, 1) := by decide +kernel
theorem dX12_waitTop_21 : decode cX12_waitTop 21 = .ok (.iaload, 1) := by decide +kernel
theorem dX12_waitTop_22 : decode cX12_waitTop 22 = .ok (.ldc 176, 2) := by decide +kernel
theorem dX12_waitTop_24 : decode cX12_waitTop 24 = .ok (.idiv, 1) := by decide +kernel
theorem dX12_waitTop_25 : decode cX12_waitTop 25 = .ok (.ireturn, 1) := by decide +kernel
theorem dX12_factOf_0 : decode cX12_factOf 0 = .ok (.iload_n 0, 1) := by decide +kernel
theorem dX12_factOf_1 : decode cX12_factOf 1 = .ok (.tableswitch 127 98 119 #[103, 127, 121, 127, 127, 127, 127, 118, 127, 105, 127, 127, 111, 127, 127, 115, 127, 113, 127, 124, 109, 107], 103) := by decide +kernel
theorem dX12_factOf_104 : decode cX12_factOf 104 = .ok (.iconst 0, 1) := by decide +kernel
theorem dX12_factOf_105 : decode cX12_factOf 105 = .ok (.ireturn, 1) := by decide +kernel
theorem dX12_factOf_106 : decode cX12_factOf 106 = .ok (.iconst 1, 1) := by decide +kernel
theorem dX12_factOf_107 : decode cX12_factOf 107 = .ok (.ireturn, 1) := by decide +kernel
theorem dX12_factOf_108 : decode cX12_factOf 108 = .ok (.iconst 2, 1) := by decide +kernel
theorem dX12_factOf_109 : decode cX12_factOf 109 = .ok (.ireturn, 1) := by decide +kernel
theorem dX12_factOf_110 : decode cX12_factOf 110 = .ok (.iconst 3, 1) := by decide +kernel
theorem dX12_factOf_111 : decode cX12_factOf 111 = .ok (.ireturn, 1) := by decide +kernel
theorem dX12_factOf_112 : decode cX12_factOf 112 = .ok (.iconst 4, 1) := by decide +kernel
theorem dX12_factOf_113 : decode cX12_factOf 113 = .ok (.ireturn, 1) := by decide +kernel
theorem dX12_factOf_114 : decode cX12_factOf 114 = .ok (.iconst 5, 1) := by decide +kernel
theorem dX12_factOf_115 : decode cX12_factOf 115 = .ok (.ireturn, 1) := by decide +kernel
theorem dX12_factOf_116 : decode cX12_factOf 116 = .ok (.bipush 6, 2) := by decide +kernel
theorem dX12_factOf_118 : decode cX12_factOf 118 = .ok (.ireturn, 1) := by decide +kernel
theorem dX12_factOf_119 : decode cX12_factOf 119 = .ok (.bipush 7, 2) := by decide +kernel
theorem dX12_factOf_121 : decode cX12_factOf 121 = .ok (.ireturn, 1) := by decide +kernel
theorem dX12_factOf_122 : decode cX12_factOf 122 = .ok (.bipush 8, 2) := by decide +kernel
theorem dX12_factOf_124 : decode cX12_factOf 124 = .ok (.ireturn, 1) := by decide +kernel
theorem dX12_factOf_125 : decode cX12_factOf 125 = .ok (.bipush 9, 2) := by decide +kernel
theorem dX12_factOf_127 : decode cX12_factOf 127 = .ok (.ireturn, 1) := by decide +kernel
theorem dX12_factOf_128 : decode cX12_factOf 128 = .ok (.iconst (-1), 1) := by decide +kernel
theorem dX12_factOf_129 : decode cX12_factOf 129 = .ok (.ireturn, 1) := by decide +kernel
theorem dX12_sumSign_0 : decode cX12_sumSign 0 = .ok (.iload_n 0, 1) := by decide +kernel
theorem dX12_sumSign_1 : decode cX12_sumSign 1 = .ok (.bipush 43, 2) := by decide +kernel
theorem dX12_sumSign_3 : decode cX12_sumSign 3 = .ok (.if_icmp .ne 7, 3) := by decide +kernel
theorem dX12_sumSign_6 : decode cX12_sumSign 6 = .ok (.iconst 2, 1) := by decide +kernel
theorem dX12_sumSign_7 : decode cX12_sumSign 7 = .ok (.goto 45, 3) := by decide +kernel
theorem dX12_sumSign_10 : decode cX12_sumSign 10 = .ok (.iload_n 0, 1) := by decide +kernel
theorem dX12_sumSign_11 : decode cX12_sumSign 11 = .ok (.bipush 45, 2) := by decide +kernel
theorem dX12_sumSign_13 : decode cX12_sumSign 13 = .ok (.if_icmp .ne 7, 3) := by decide +kernel
theorem dX12_sumSign_16 : decode cX12_sumSign 16 = .ok (.iconst 3, 1) := by decide +kernel
theorem dX12_sumSign_17 : decode cX12_sumSign 17 = .ok (.goto 35, 3) := by decide +kernel
theorem dX12_sumSign_20 : decode cX12_sumSign 20 = .ok (.iload_n 0, 1) := by decide +kernel
theorem dX12_sumSign_21 : decode cX12_sumSign 21 = .ok (.bipush 42, 2) := by decide +kernel
theorem dX12_sumSign_23 : decode cX12_sumSign 23 = .ok (.if_icmp .ne 7, 3) := by decide +kernel
theorem dX12_sumSign_26 : decode cX12_sumSign 26 = .ok (.iconst 4, 1) := by decide +kernel
theorem dX12_sumSign_27 : decode cX12_sumSign 27 = .ok (.goto 25, 3) := by decide +kernel
theorem dX12_sumSign_30 : decode cX12_sumSign 30 = .ok (.iload_n 0, 1) := by decide +kernel
theorem dX12_sumSign_31 : decode cX12_sumSign 31 = .ok (.bipush 47, 2) := by decide +kernel
theorem dX12_sumSign_33 : decode cX12_sumSign 33 = .ok (.if_icmp .ne 7, 3) := by decide +kernel
theorem dX12_sumSign_36 : decode cX12_sumSign 36 = .ok (.iconst 5, 1) := by decide +kernel
theorem dX12_sumSign_37 : decode cX12_sumSign 37 = .ok (.goto 15, 3) := by decide +kernel
theorem dX12_sumSign_40 : decode cX12_sumSign 40 = .ok (.iload_n 0, 1) := by decide +kernel
theorem dX12_sumSign_41 : decode cX12_sumSign 41 = .ok (.bipush 37, 2) := by decide +kernel
theorem dX12_sumSign_43 : decode cX12_sumSign 43 = .ok (.if_icmp .ne 8, 3) := by decide +kernel
theorem dX12_sumSign_46 : decode cX12_sumSign 46 = .ok (.bipush 6, 2) := by decide +kernel
theorem dX12_sumSign_48 : decode cX12_sumSign 48 = .ok (.goto 4, 3) := by decide +kernel
theorem dX12_sumSign_51 : decode cX12_sumSign 51 = .ok (.iconst (-1), 1) := by decide +kernel
theorem dX12_sumSign_52 : decode cX12_sumSign 52 = .ok (.ireturn, 1) := by decide +kernel
theorem dX12_closesSums_0 : decode cX12_closesSums 0 = .ok (.aload_n 0, 1) := by decide +kernel
theorem dX12_closesSums_1 : decode cX12_closesSums 1 = .ok (.invokevirtual 183, 3) := by decide +kernel
theorem dX12_closesSums_4 : decode cX12_closesSums 4 = .ok (.iconst 4, 1) := by decide +kernel
theorem dX12_closesSums_5 : decode cX12_closesSums 5 = .ok (.if_icmp .lt 12, 3) := by decide +kernel
theorem dX12_closesSums_8 : decode cX12_closesSums 8 = .ok (.aload_n 0, 1) := by decide +kernel
theorem dX12_closesSums_9 : decode cX12_closesSums 9 = .ok (.invokevirtual 183, 3) := by decide +kernel
theorem dX12_closesSums_12 : decode cX12_closesSums 12 = .ok (.bipush 6, 2) := by decide +kernel
theorem dX12_closesSums_14 : decode cX12_closesSums 14 = .ok (.if_icmp .le 23, 3) := by decide +kernel
theorem dX12_closesSums_17 : decode cX12_closesSums 17 = .ok (.iload_n 1, 1) := by decide +kernel
theorem dX12_closesSums_18 : decode cX12_closesSums 18 = .ok (.ifCond .eq 41, 3) := by decide +kernel
theorem dX12_closesSums_21 : decode cX12_closesSums 21 = .ok (.aload_n 0, 1) := by decide +kernel
theorem dX12_closesSums_22 : decode cX12_closesSums 22 = .ok (.invokevirtual 183, 3) := by decide +kernel
theorem dX12_closesSums_25 : decode cX12_closesSums 25 = .ok (.iconst 2, 1) := by decide +kernel
theorem dX12_closesSums_26 : decode cX12_closesSums 26 = .ok (.if_icmp .eq 11, 3) := by decide +kernel
theorem dX12_closesSums_29 : decode cX12_closesSums 29 = .ok (.aload_n 0, 1) := by decide +kernel
theorem dX12_closesSums_30 : decode cX12_closesSums 30 = .ok (.invokevirtual 183, 3) := by decide +kernel
theorem dX12_closesSums_33 : decode cX12_closesSums 33 = .ok (.iconst 3, 1) := by decide +kernel
theorem dX12_closesSums_34 : decode cX12_closesSums 34 = .ok (.if_icmp .ne 25, 3) := by decide +kernel
theorem dX12_closesSums_37 : decode cX12_closesSums 37 = .ok (.aload_n 0, 1) := by decide +kernel
theorem dX12_closesSums_38 : decode cX12_closesSums 38 = .ok (.aload_n 0, 1) := by decide +kernel
theorem dX12_closesSums_39 : decode cX12_closesSums 39 = .ok (.invokevirtual 183, 3) := by decide +kernel
theorem dX12_closesSums_42 : decode cX12_closesSums 42 = .ok (.iconst 0, 1) := by decide +kernel
theorem dX12_closesSums_43 : decode cX12_closesSums 43 = .ok (.invokevirtual 186, 3) := by decide +kernel
theorem dX12_closesSums_46 : decode cX12_closesSums 46 = .ok (.aload_n 0, 1) := by decide +kernel
theorem dX12_closesSums_47 : decode cX12_closesSums 47 = .ok (.aload_n 0, 1) := by decide +kernel
theorem dX12_closesSums_48 : decode cX12_closesSums 48 = .ok (.getfield 180, 3) := by decide +kernel
theorem dX12_closesSums_51 : decode cX12_closesSums 51 = .ok (.iconst 1, 1) := by decide +kernel
theorem dX12_closesSums_52 : decode cX12_closesSums 52 = .ok (.isub, 1) := by decide +kernel
theorem dX12_closesSums_53 : decode cX12_closesSums 53 = .ok (.putfield 180, 3) := by decide +kernel
theorem dX12_closesSums_56 : decode cX12_closesSums 56 = .ok (.goto (-56), 3) := by decide +kernel
theorem dX12_closesSums_59 : decode cX12_closesSums 59 = .ok (.return_, 1) := by decide +kernel
theorem dX12_readsFactor_0 : decode cX12_readsFactor 0 = .ok (.aload_n 0, 1) := by decide +kernel
theorem dX12_readsFactor_1 : decode cX12_readsFactor 1 = .ok (.invokevirtual 156, 3) := by decide +kernel
theorem dX12_readsFactor_4 : decode cX12_readsFactor 4 = .ok (.bipush 91, 2) := by decide +kernel
theorem dX12_readsFactor_6 : decode cX12_readsFactor 6 = .ok (.if_icmp .ne 14, 3) := by decide +kernel
theorem dX12_readsFactor_9 : decode cX12_readsFactor 9 = .ok (.aload_n 0, 1) := by decide +kernel
theorem dX12_readsFactor_10 : decode cX12_readsFactor 10 = .ok (.bipush 14, 2) := by decide +kernel
theorem dX12_readsFactor_12 : decode cX12_readsFactor 12 = .ok (.invokevirtual 190, 3) := by decide +kernel
theorem dX12_readsFactor_15 : decode cX12_readsFactor 15 = .ok (.ifCond .ne (-15), 3) := by decide +kernel
theorem dX12_readsFactor_18 : decode cX12_readsFactor 18 = .ok (.iconst 0, 1) := by decide +kernel
theorem dX12_readsFactor_19 : decode cX12_readsFactor 19 = .ok (.ireturn, 1) := by decide +kernel
theorem dX12_readsFactor_20 : decode cX12_readsFactor 20 = .ok (.aload_n 0, 1) := by decide +kernel
theorem dX12_readsFactor_21 : decode cX12_readsFactor 21 = .ok (.invokevirtual 169, 3) := by decide +kernel
theorem dX12_readsFactor_24 : decode cX12_readsFactor 24 = .ok (.ifCond .eq 23, 3) := by decide +kernel
theorem dX12_readsFactor_27 : decode cX12_readsFactor 27 = .ok (.aload_n 0, 1) := by decide +kernel
theorem dX12_readsFactor_28 : decode cX12_readsFactor 28 = .ok (.invokevirtual 193, 3) := by decide +kernel
theorem dX12_readsFactor_31 : decode cX12_readsFactor 31 = .ok (.ifCond .ne 5, 3) := by decide +kernel
theorem dX12_readsFactor_34 : decode cX12_readsFactor 34 = .ok (.iconst 0, 1) := by decide +kernel
theorem dX12_readsFactor_35 : decode cX12_readsFactor 35 = .ok (.ireturn, 1) := by decide +kernel
theorem dX12_readsFactor_36 : decode cX12_readsFactor 36 = .ok (.aload_n 0, 1) := by decide +kernel
theorem dX12_readsFactor_37 : decode cX12_readsFactor 37 = .ok (.iconst 0, 1) := by decide +kernel
theorem dX12_readsFactor_38 : decode cX12_readsFactor 38 = .ok (.aload_n 0, 1) := by decide +kernel
theorem dX12_readsFactor_39 : decode cX12_readsFactor 39 = .ok (.getfield 166, 3) := by decide +kernel
theorem dX12_readsFactor_42 : decode cX12_readsFactor 42 = .ok (.invokevirtual 186, 3) := by decide +kernel
theorem dX12_readsFactor_45 : decode cX12_readsFactor 45 = .ok (.iconst 1, 1) := by decide +kernel
theorem dX12_readsFactor_46 : decode cX12_readsFactor 46 = .ok (.ireturn, 1) := by decide +kernel
theorem dX12_readsFactor_47 : decode cX12_readsFactor 47 = .ok (.aload_n 0, 1) := by decide +kernel
theorem dX12_readsFactor_48 : decode cX12_readsFactor 48 = .ok (.invokevirtual 156, 3) := by decide +kernel
theorem dX12_readsFactor_51 : decode cX12_readsFactor 51 = .ok (.invokestatic 196, 3) := by decide +kernel
theorem dX12_readsFactor_54 : decode cX12_readsFactor 54 = .ok (.istore_n 1, 1) := by decide +kernel
theorem dX12_readsFactor_55 : decode cX12_readsFactor 55 = .ok (.iload_n 1, 1) := by decide +kernel
theorem dX12_readsFactor_56 : decode cX12_readsFactor 56 = .ok (.iconst (-1), 1) := by decide +kernel
theorem dX12_readsFactor_57 : decode cX12_readsFactor 57 = .ok (.if_icmp .ne 13, 3) := by decide +kernel
theorem dX12_readsFactor_60 : decode cX12_readsFactor 60 = .ok (.aload_n 0, 1) := by decide +kernel
theorem dX12_readsFactor_61 : decode cX12_readsFactor 61 = .ok (.iconst 1, 1) := by decide +kernel
theorem dX12_readsFactor_62 : decode cX12_readsFactor 62 = .ok (.aload_n 0, 1) := by decide +kernel
theorem dX12_readsFactor_63 : decode cX12_readsFactor 63 = .ok (.getfield 150, 3) := by decide +kernel
theorem dX12_readsFactor_66 : decode cX12_readsFactor 66 = .ok (.invokevirtual 163, 3) := by decide +kernel
theorem dX12_readsFactor_69 : decode cX12_readsFactor 69 = .ok (.ireturn, 1) := by decide +kernel
theorem dX12_readsFactor_70 : decode cX12_readsFactor 70 = .ok (.aload_n 0, 1) := by decide +kernel
theorem dX12_readsFactor_71 : decode cX12_readsFactor 71 = .ok (.iconst 1, 1) := by decide +kernel
theorem dX12_readsFactor_72 : decode cX12_readsFactor 72 = .ok (.iload_n 1, 1) := by decide +kernel
theorem dX12_readsFactor_73 : decode cX12_readsFactor 73 = .ok (.invokevirtual 186, 3) := by decide +kernel
theorem dX12_readsFactor_76 : decode cX12_readsFactor 76 = .ok (.aload_n 0, 1) := by decide +kernel
theorem dX12_readsFactor_77 : decode cX12_readsFactor 77 = .ok (.aload_n 0, 1) := by decide +kernel
theorem dX12_readsFactor_78 : decode cX12_readsFactor 78 = .ok (.getfield 150, 3) := by decide +kernel
theorem dX12_readsFactor_81 : decode cX12_readsFactor 81 = .ok (.iconst 1, 1) := by decide +kernel
theorem dX12_readsFactor_82 : decode cX12_readsFactor 82 = .ok (.iadd, 1) := by decide +kernel
theorem dX12_readsFactor_83 : decode cX12_readsFactor 83 = .ok (.putfield 150, 3) := by decide +kernel
theorem dX12_readsFactor_86 : decode cX12_readsFactor 86 = .ok (.iconst 1, 1) := by decide +kernel
theorem dX12_readsFactor_87 : decode cX12_readsFactor 87 = .ok (.ireturn, 1) := by decide +kernel
theorem dX12_hasOpenSum_0 : decode cX12_hasOpenSum 0 = .ok (.iload_n 1, 1) := by decide +kernel
theorem dX12_hasOpenSum_1 : decode cX12_hasOpenSum 1 = .ok (.istore_n 2, 1) := by decide +kernel
theorem dX12_hasOpenSum_2 : decode cX12_hasOpenSum 2 = .ok (.iload_n 2, 1) := by decide +kernel
theorem dX12_hasOpenSum_3 : decode cX12_hasOpenSum 3 = .ok (.aload_n 0, 1) := by decide +kernel
theorem dX12_hasOpenSum_4 : decode cX12_hasOpenSum 4 = .ok (.getfield 180, 3) := by decide +kernel
theorem dX12_hasOpenSum_7 : decode cX12_hasOpenSum 7 = .ok (.if_icmp .ge 25, 3) := by decide +kernel
theorem dX12_hasOpenSum_10 : decode cX12_hasOpenSum 10 = .ok (.aload_n 0, 1) := by decide +kernel
theorem dX12_hasOpenSum_11 : decode cX12_hasOpenSum 11 = .ok (.getfield 35, 3) := by decide +kernel
theorem dX12_hasOpenSum_14 : decode cX12_hasOpenSum 14 = .ok (.iload_n 2, 1) := by decide +kernel
theorem dX12_hasOpenSum_15 : decode cX12_hasOpenSum 15 = .ok (.iaload, 1) := by decide +kernel
theorem dX12_hasOpenSum_16 : decode cX12_hasOpenSum 16 = .ok (.ldc 176, 2) := by decide +kernel
theorem dX12_hasOpenSum_18 : decode cX12_hasOpenSum 18 = .ok (.idiv, 1) := by decide +kernel
theorem dX12_hasOpenSum_19 : decode cX12_hasOpenSum 19 = .ok (.bipush 14, 2) := by decide +kernel
theorem dX12_hasOpenSum_21 : decode cX12_hasOpenSum 21 = .ok (.if_icmp .ne 5, 3) := by decide +kernel
theorem dX12_hasOpenSum_24 : decode cX12_hasOpenSum 24 = .ok (.iconst 1, 1) := by decide +kernel
theorem dX12_hasOpenSum_25 : decode cX12_hasOpenSum 25 = .ok (.ireturn, 1) := by decide +kernel
theorem dX12_hasOpenSum_26 : decode cX12_hasOpenSum 26 = .ok (.iinc 2 1, 3) := by decide +kernel
theorem dX12_hasOpenSum_29 : decode cX12_hasOpenSum 29 = .ok (.goto (-27), 3) := by decide +kernel
theorem dX12_hasOpenSum_32 : decode cX12_hasOpenSum 32 = .ok (.iconst 0, 1) := by decide +kernel
theorem dX12_hasOpenSum_33 : decode cX12_hasOpenSum 33 = .ok (.ireturn, 1) := by decide +kernel
theorem dX12_readsSum_0 : decode cX12_readsSum 0 = .ok (.aload_n 0, 1) := by decide +kernel
theorem dX12_readsSum_1 : decode cX12_readsSum 1 = .ok (.getfield 180, 3) := by decide +kernel
theorem dX12_readsSum_4 : decode cX12_readsSum 4 = .ok (.istore_n 1, 1) := by decide +kernel
theorem dX12_readsSum_5 : decode cX12_readsSum 5 = .ok (.aload_n 0, 1) := by decide +kernel
theorem dX12_readsSum_6 : decode cX12_readsSum 6 = .ok (.invokevirtual 199, 3) := by decide +kernel
theorem dX12_readsSum_9 : decode cX12_readsSum 9 = .ok (.ifCond .ne 5, 3) := by decide +kernel
theorem dX12_readsSum_12 : decode cX12_readsSum 12 = .ok (.iconst 0, 1) := by decide +kernel
theorem dX12_readsSum_13 : decode cX12_readsSum 13 = .ok (.ireturn, 1) := by decide +kernel
theorem dX12_readsSum_14 : decode cX12_readsSum 14 = .ok (.aload_n 0, 1) := by decide +kernel
theorem dX12_readsSum_15 : decode cX12_readsSum 15 = .ok (.invokevirtual 156, 3) := by decide +kernel
theorem dX12_readsSum_18 : decode cX12_readsSum 18 = .ok (.invokestatic 202, 3) := by decide +kernel
theorem dX12_readsSum_21 : decode cX12_readsSum 21 = .ok (.istore_n 2, 1) := by decide +kernel
theorem dX12_readsSum_22 : decode cX12_readsSum 22 = .ok (.iload_n 2, 1) := by decide +kernel
theorem dX12_readsSum_23 : decode cX12_readsSum 23 = .ok (.iconst (-1), 1) := by decide +kernel
theorem dX12_readsSum_24 : decode cX12_readsSum 24 = .ok (.if_icmp .eq 59, 3) := by decide +kernel
theorem dX12_readsSum_27 : decode cX12_readsSum 27 = .ok (.aload_n 0, 1) := by decide +kernel
theorem dX12_readsSum_28 : decode cX12_readsSum 28 = .ok (.iload_n 2, 1) := by decide +kernel
theorem dX12_readsSum_29 : decode cX12_readsSum 29 = .ok (.iconst 4, 1) := by decide +kernel
theorem dX12_readsSum_30 : decode cX12_readsSum 30 = .ok (.if_icmp .ge 7, 3) := by decide +kernel
theorem dX12_readsSum_33 : decode cX12_readsSum 33 = .ok (.iconst 1, 1) := by decide +kernel
theorem dX12_readsSum_34 : decode cX12_readsSum 34 = .ok (.goto 4, 3) := by decide +kernel
theorem dX12_readsSum_37 : decode cX12_readsSum 37 = .ok (.iconst 0, 1) := by decide +kernel
theorem dX12_readsSum_38 : decode cX12_readsSum 38 = .ok (.invokevirtual 205, 3) := by decide +kernel
theorem dX12_readsSum_41 : decode cX12_readsSum 41 = .ok (.aload_n 0, 1) := by decide +kernel
theorem dX12_readsSum_42 : decode cX12_readsSum 42 = .ok (.getfield 35, 3) := by decide +kernel
theorem dX12_readsSum_45 : decode cX12_readsSum 45 = .ok (.aload_n 0, 1) := by decide +kernel
theorem dX12_readsSum_46 : decode cX12_readsSum 46 = .ok (.getfield 180, 3) := by decide +kernel
theorem dX12_readsSum_49 : decode cX12_readsSum 49 = .ok (.ldc 176, 2) := by decide +kernel
theorem dX12_readsSum_51 : decode cX12_readsSum 51 = .ok (.iload_n 2, 1) := by decide +kernel
theorem dX12_readsSum_52 : decode cX12_readsSum 52 = .ok (.imul, 1) := by decide +kernel
theorem dX12_readsSum_53 : decode cX12_readsSum 53 = .ok (.iastore, 1) := by decide +kernel
theorem dX12_readsSum_54 : decode cX12_readsSum 54 = .ok (.aload_n 0, 1) := by decide +kernel
theorem dX12_readsSum_55 : decode cX12_readsSum 55 = .ok (.aload_n 0, 1) := by decide +kernel
theorem dX12_readsSum_56 : decode cX12_readsSum 56 = .ok (.getfield 180, 3) := by decide +kernel
theorem dX12_readsSum_59 : decode cX12_readsSum 59 = .ok (.iconst 1, 1) := by decide +kernel
theorem dX12_readsSum_60 : decode cX12_readsSum 60 = .ok (.iadd, 1) := by decide +kernel
theorem dX12_readsSum_61 : decode cX12_readsSum 61 = .ok (.putfield 180, 3) := by decide +kernel
theorem dX12_readsSum_64 : decode cX12_readsSum 64 = .ok (.aload_n 0, 1) := by decide +kernel
theorem dX12_readsSum_65 : decode cX12_readsSum 65 = .ok (.aload_n 0, 1) := by decide +kernel
theorem dX12_readsSum_66 : decode cX12_readsSum 66 = .ok (.getfield 150, 3) := by decide +kernel
theorem dX12_readsSum_69 : decode cX12_readsSum 69 = .ok (.iconst 1, 1) := by decide +kernel
theorem dX12_readsSum_70 : decode cX12_readsSum 70 = .ok (.iadd, 1) := by decide +kernel
theorem dX12_readsSum_71 : decode cX12_readsSum 71 = .ok (.putfield 150, 3) := by decide +kernel
theorem dX12_readsSum_74 : decode cX12_readsSum 74 = .ok (.aload_n 0, 1) := by decide +kernel
theorem dX12_readsSum_75 : decode cX12_readsSum 75 = .ok (.invokevirtual 199, 3) := by decide +kernel
theorem dX12_readsSum_78 : decode cX12_readsSum 78 = .ok (.ifCond .ne 85, 3) := by decide +kernel
theorem dX12_readsSum_81 : decode cX12_readsSum 81 = .ok (.iconst 0, 1) := by decide +kernel
theorem dX12_readsSum_82 : decode cX12_readsSum 82 = .ok (.ireturn, 1) := by decide +kernel
theorem dX12_readsSum_83 : decode cX12_readsSum 83 = .ok (.aload_n 0, 1) := by decide +kernel
theorem dX12_readsSum_84 : decode cX12_readsSum 84 = .ok (.invokevirtual 156, 3) := by decide +kernel
theorem dX12_readsSum_87 : decode cX12_readsSum 87 = .ok (.bipush 93, 2) := by decide +kernel
theorem dX12_readsSum_89 : decode cX12_readsSum 89 = .ok (.if_icmp .ne 49, 3) := by decide +kernel
theorem dX12_readsSum_92 : decode cX12_readsSum 92 = .ok (.aload_n 0, 1) := by decide +kernel
theorem dX12_readsSum_93 : decode cX12_readsSum 93 = .ok (.iload_n 1, 1) := by decide +kernel
theorem dX12_readsSum_94 : decode cX12_readsSum 94 = .ok (.invokevirtual 209, 3) := by decide +kernel
theorem dX12_readsSum_97 : decode cX12_readsSum 97 = .ok (.ifCond .eq 41, 3) := by decide +kernel
theorem dX12_readsSum_100 : decode cX12_readsSum 100 = .ok (.aload_n 0, 1) := by decide +kernel
theorem dX12_readsSum_101 : decode cX12_readsSum 101 = .ok (.iconst 1, 1) := by decide +kernel
theorem dX12_readsSum_102 : decode cX12_readsSum 102 = .ok (.invokevirtual 205, 3) := by decide +kernel
theorem dX12_readsSum_105 : decode cX12_readsSum 105 = .ok (.aload_n 0, 1) := by decide +kernel
theorem dX12_readsSum_106 : decode cX12_readsSum 106 = .ok (.aload_n 0, 1) := by decide +kernel
theorem dX12_readsSum_107 : decode cX12_readsSum 107 = .ok (.getfield 180, 3) := by decide +kernel
theorem dX12_readsSum_110 : decode cX12_readsSum 110 = .ok (.iconst 1, 1) := by decide +kernel
theorem dX12_readsSum_111 : decode cX12_readsSum 111 = .ok (.isub, 1) := by decide +kernel
theorem dX12_readsSum_112 : decode cX12_readsSum 112 = .ok (.putfield 180, 3) := by decide +kernel
theorem dX12_readsSum_115 : decode cX12_readsSum 115 = .ok (.aload_n 0, 1) := by decide +kernel
theorem dX12_readsSum_116 : decode cX12_readsSum 116 = .ok (.aload_n 0, 1) := by decide +kernel
theorem dX12_readsSum_117 : decode cX12_readsSum 117 = .ok (.getfield 177, 3) := by decide +kernel
theorem dX12_readsSum_120 : decode cX12_readsSum 120 = .ok (.iconst 1, 1) := by decide +kernel
theorem dX12_readsSum_121 : decode cX12_readsSum 121 = .ok (.isub, 1) := by decide +kernel
theorem dX12_readsSum_122 : decode cX12_readsSum 122 = .ok (.putfield 177, 3) := by decide +kernel
theorem dX12_readsSum_125 : decode cX12_readsSum 125 = .ok (.aload_n 0, 1) := by decide +kernel
theorem dX12_readsSum_126 : decode cX12_readsSum 126 = .ok (.aload_n 0, 1) := by decide +kernel
theorem dX12_readsSum_127 : decode cX12_readsSum 127 = .ok (.getfield 150, 3) := by decide +kernel
theorem dX12_readsSum_130 : decode cX12_readsSum 130 = .ok (.iconst 1, 1) := by decide +kernel
theorem dX12_readsSum_131 : decode cX12_readsSum 131 = .ok (.iadd, 1) := by decide +kernel
theorem dX12_readsSum_132 : decode cX12_readsSum 132 = .ok (.putfield 150, 3) := by decide +kernel
theorem dX12_readsSum_135 : decode cX12_readsSum 135 = .ok (.goto 28, 3) := by decide +kernel
theorem dX12_readsSum_138 : decode cX12_readsSum 138 = .ok (.aload_n 0, 1) := by decide +kernel
theorem dX12_readsSum_139 : decode cX12_readsSum 139 = .ok (.iload_n 1, 1) := by decide +kernel
theorem dX12_readsSum_140 : decode cX12_readsSum 140 = .ok (.invokevirtual 209, 3) := by decide +kernel
theorem dX12_readsSum_143 : decode cX12_readsSum 143 = .ok (.ifCond .eq 13, 3) := by decide +kernel
theorem dX12_readsSum_146 : decode cX12_readsSum 146 = .ok (.aload_n 0, 1) := by decide +kernel
theorem dX12_readsSum_147 : decode cX12_readsSum 147 = .ok (.iconst 1, 1) := by decide +kernel
theorem dX12_readsSum_148 : decode cX12_readsSum 148 = .ok (.aload_n 0, 1) := by decide +kernel
theorem dX12_readsSum_149 : decode cX12_readsSum 149 = .ok (.getfield 150, 3) := by decide +kernel
theorem dX12_readsSum_152 : decode cX12_readsSum 152 = .ok (.invokevirtual 163, 3) := by decide +kernel
theorem dX12_readsSum_155 : decode cX12_readsSum 155 = .ok (.ireturn, 1) := by decide +kernel
theorem dX12_readsSum_156 : decode cX12_readsSum 156 = .ok (.aload_n 0, 1) := by decide +kernel
theorem dX12_readsSum_157 : decode cX12_readsSum 157 = .ok (.iconst 1, 1) := by decide +kernel
theorem dX12_readsSum_158 : decode cX12_readsSum 158 = .ok (.invokevirtual 205, 3) := by decide +kernel
theorem dX12_readsSum_161 : decode cX12_readsSum 161 = .ok (.iconst 1, 1) := by decide +kernel
theorem dX12_readsSum_162 : decode cX12_readsSum 162 = .ok (.ireturn, 1) := by decide +kernel
theorem dX12_readsSum_163 : decode cX12_readsSum 163 = .ok (.goto (-149), 3) := by decide +kernel
theorem dX12_endsPiece_0 : decode cX12_endsPiece 0 = .ok (.aload_n 0, 1) := by decide +kernel
theorem dX12_endsPiece_1 : decode cX12_endsPiece 1 = .ok (.invokevirtual 183, 3) := by decide +kernel
theorem dX12_endsPiece_4 : decode cX12_endsPiece 4 = .ok (.bipush 10, 2) := by decide +kernel
theorem dX12_endsPiece_6 : decode cX12_endsPiece 6 = .ok (.if_icmp .ne 33, 3) := by decide +kernel
theorem dX12_endsPiece_9 : decode cX12_endsPiece 9 = .ok (.aload_n 0, 1) := by decide +kernel
theorem dX12_endsPiece_10 : decode cX12_endsPiece 10 = .ok (.bipush 10, 2) := by decide +kernel
theorem dX12_endsPiece_12 : decode cX12_endsPiece 12 = .ok (.iconst 0, 1) := by decide +kernel
theorem dX12_endsPiece_13 : decode cX12_endsPiece 13 = .ok (.invokevirtual 186, 3) := by decide +kernel
theorem dX12_endsPiece_16 : decode cX12_endsPiece 16 = .ok (.aload_n 0, 1) := by decide +kernel
theorem dX12_endsPiece_17 : decode cX12_endsPiece 17 = .ok (.aload_n 0, 1) := by decide +kernel
theorem dX12_endsPiece_18 : decode cX12_endsPiece 18 = .ok (.getfield 180, 3) := by decide +kernel
theorem dX12_endsPiece_21 : decode cX12_endsPiece 21 = .ok (.iconst 1, 1) := by decide +kernel
theorem dX12_endsPiece_22 : decode cX12_endsPiece 22 = .ok (.isub, 1) := by decide +kernel
theorem dX12_endsPiece_23 : decode cX12_endsPiece 23 = .ok (.putfield 180, 3) := by decide +kernel
theorem dX12_endsPiece_26 : decode cX12_endsPiece 26 = .ok (.aload_n 0, 1) := by decide +kernel
theorem dX12_endsPiece_27 : decode cX12_endsPiece 27 = .ok (.aload_n 0, 1) := by decide +kernel
theorem dX12_endsPiece_28 : decode cX12_endsPiece 28 = .ok (.getfield 177, 3) := by decide +kernel
theorem dX12_endsPiece_31 : decode cX12_endsPiece 31 = .ok (.iconst 1, 1) := by decide +kernel
theorem dX12_endsPiece_32 : decode cX12_endsPiece 32 = .ok (.isub, 1) := by decide +kernel
theorem dX12_endsPiece_33 : decode cX12_endsPiece 33 = .ok (.putfield 177, 3) := by decide +kernel
theorem dX12_endsPiece_36 : decode cX12_endsPiece 36 = .ok (.goto (-36), 3) := by decide +kernel
theorem dX12_endsPiece_39 : decode cX12_endsPiece 39 = .ok (.return_, 1) := by decide +kernel
theorem dX12_lands_0 : decode cX12_lands 0 = .ok (.aload_n 0, 1) := by decide +kernel
theorem dX12_lands_1 : decode cX12_lands 1 = .ok (.invokevirtual 183, 3) := by decide +kernel
theorem dX12_lands_4 : decode cX12_lands 4 = .ok (.bipush 11, 2) := by decide +kernel
theorem dX12_lands_6 : decode cX12_lands 6 = .ok (.if_icmp .eq 16, 3) := by decide +kernel
theorem dX12_lands_9 : decode cX12_lands 9 = .ok (.iload_n 1, 1) := by decide +kernel
theorem dX12_lands_10 : decode cX12_lands 10 = .ok (.ifCond .eq 63, 3) := by decide +kernel
theorem dX12_lands_13 : decode cX12_lands 13 = .ok (.aload_n 0, 1) := by decide +kernel
theorem dX12_lands_14 : decode cX12_lands 14 = .ok (.invokevirtual 183, 3) := by decide +kernel
theorem dX12_lands_17 : decode cX12_lands 17 = .ok (.bipush 12, 2) := by decide +kernel
theorem dX12_lands_19 : decode cX12_lands 19 = .ok (.if_icmp .ne 54, 3) := by decide +kernel
theorem dX12_lands_22 : decode cX12_lands 22 = .ok (.aload_n 0, 1) := by decide +kernel
theorem dX12_lands_23 : decode cX12_lands 23 = .ok (.getfield 35, 3) := by decide +kernel
theorem dX12_lands_26 : decode cX12_lands 26 = .ok (.aload_n 0, 1) := by decide +kernel
theorem dX12_lands_27 : decode cX12_lands 27 = .ok (.getfield 180, 3) := by decide +kernel
theorem dX12_lands_30 : decode cX12_lands 30 = .ok (.iconst 1, 1) := by decide +kernel
theorem dX12_lands_31 : decode cX12_lands 31 = .ok (.isub, 1) := by decide +kernel
theorem dX12_lands_32 : decode cX12_lands 32 = .ok (.iaload, 1) := by decide +kernel
theorem dX12_lands_33 : decode cX12_lands 33 = .ok (.ldc 176, 2) := by decide +kernel
theorem dX12_lands_35 : decode cX12_lands 35 = .ok (.irem, 1) := by decide +kernel
theorem dX12_lands_36 : decode cX12_lands 36 = .ok (.istore_n 2, 1) := by decide +kernel
theorem dX12_lands_37 : decode cX12_lands 37 = .ok (.aload_n 0, 1) := by decide +kernel
theorem dX12_lands_38 : decode cX12_lands 38 = .ok (.getfield 32, 3) := by decide +kernel
theorem dX12_lands_41 : decode cX12_lands 41 = .ok (.iload_n 2, 1) := by decide +kernel
theorem dX12_lands_42 : decode cX12_lands 42 = .ok (.ldc 176, 2) := by decide +kernel
theorem dX12_lands_44 : decode cX12_lands 44 = .ok (.aload_n 0, 1) := by decide +kernel
theorem dX12_lands_45 : decode cX12_lands 45 = .ok (.getfield 32, 3) := by decide +kernel
theorem dX12_lands_48 : decode cX12_lands 48 = .ok (.iload_n 2, 1) := by decide +kernel
theorem dX12_lands_49 : decode cX12_lands 49 = .ok (.iaload, 1) := by decide +kernel
theorem dX12_lands_50 : decode cX12_lands 50 = .ok (.ldc 176, 2) := by decide +kernel
theorem dX12_lands_52 : decode cX12_lands 52 = .ok (.idiv, 1) := by decide +kernel
theorem dX12_lands_53 : decode cX12_lands 53 = .ok (.imul, 1) := by decide +kernel
theorem dX12_lands_54 : decode cX12_lands 54 = .ok (.aload_n 0, 1) := by decide +kernel
theorem dX12_lands_55 : decode cX12_lands 55 = .ok (.getfield 173, 3) := by decide +kernel
theorem dX12_lands_58 : decode cX12_lands 58 = .ok (.iadd, 1) := by decide +kernel
theorem dX12_lands_59 : decode cX12_lands 59 = .ok (.iastore, 1) := by decide +kernel
theorem dX12_lands_60 : decode cX12_lands 60 = .ok (.aload_n 0, 1) := by decide +kernel
theorem dX12_lands_61 : decode cX12_lands 61 = .ok (.aload_n 0, 1) := by decide +kernel
theorem dX12_lands_62 : decode cX12_lands 62 = .ok (.getfield 180, 3) := by decide +kernel
theorem dX12_lands_65 : decode cX12_lands 65 = .ok (.iconst 1, 1) := by decide +kernel
theorem dX12_lands_66 : decode cX12_lands 66 = .ok (.isub, 1) := by decide +kernel
theorem dX12_lands_67 : decode cX12_lands 67 = .ok (.putfield 180, 3) := by decide +kernel
theorem dX12_lands_70 : decode cX12_lands 70 = .ok (.goto (-70), 3) := by decide +kernel
theorem dX12_lands_73 : decode cX12_lands 73 = .ok (.return_, 1) := by decide +kernel
theorem dX12_jumps_0 : decode cX12_jumps 0 = .ok (.aload_n 0, 1) := by decide +kernel
theorem dX12_jumps_1 : decode cX12_jumps 1 = .ok (.getfield 35, 3) := by decide +kernel
theorem dX12_jumps_4 : decode cX12_jumps 4 = .ok (.aload_n 0, 1) := by decide +kernel
theorem dX12_jumps_5 : decode cX12_jumps 5 = .ok (.getfield 180, 3) := by decide +kernel
theorem dX12_jumps_8 : decode cX12_jumps 8 = .ok (.ldc 176, 2) := by decide +kernel
theorem dX12_jumps_10 : decode cX12_jumps 10 = .ok (.iload_n 1, 1) := by decide +kernel
theorem dX12_jumps_11 : decode cX12_jumps 11 = .ok (.imul, 1) := by decide +kernel
theorem dX12_jumps_12 : decode cX12_jumps 12 = .ok (.aload_n 0, 1) := by decide +kernel
theorem dX12_jumps_13 : decode cX12_jumps 13 = .ok (.getfield 173, 3) := by decide +kernel
theorem dX12_jumps_16 : decode cX12_jumps 16 = .ok (.iadd, 1) := by decide +kernel
theorem dX12_jumps_17 : decode cX12_jumps 17 = .ok (.iastore, 1) := by decide +kernel
theorem dX12_jumps_18 : decode cX12_jumps 18 = .ok (.aload_n 0, 1) := by decide +kernel
theorem dX12_jumps_19 : decode cX12_jumps 19 = .ok (.aload_n 0, 1) := by decide +kernel
theorem dX12_jumps_20 : decode cX12_jumps 20 = .ok (.getfield 180, 3) := by decide +kernel
theorem dX12_jumps_23 : decode cX12_jumps 23 = .ok (.iconst 1, 1) := by decide +kernel
theorem dX12_jumps_24 : decode cX12_jumps 24 = .ok (.iadd, 1) := by decide +kernel
theorem dX12_jumps_25 : decode cX12_jumps 25 = .ok (.putfield 180, 3) := by decide +kernel
theorem dX12_jumps_28 : decode cX12_jumps 28 = .ok (.aload_n 0, 1) := by decide +kernel
theorem dX12_jumps_29 : decode cX12_jumps 29 = .ok (.iload_n 1, 1) := by decide +kernel
theorem dX12_jumps_30 : decode cX12_jumps 30 = .ok (.iconst 0, 1) := by decide +kernel
theorem dX12_jumps_31 : decode cX12_jumps 31 = .ok (.invokevirtual 186, 3) := by decide +kernel
theorem dX12_jumps_34 : decode cX12_jumps 34 = .ok (.aload_n 0, 1) := by decide +kernel
theorem dX12_jumps_35 : decode cX12_jumps 35 = .ok (.aload_n 0, 1) := by decide +kernel
theorem dX12_jumps_36 : decode cX12_jumps 36 = .ok (.getfield 150, 3) := by decide +kernel
theorem dX12_jumps_39 : decode cX12_jumps 39 = .ok (.iconst 1, 1) := by decide +kernel
theorem dX12_jumps_40 : decode cX12_jumps 40 = .ok (.iadd, 1) := by decide +kernel
theorem dX12_jumps_41 : decode cX12_jumps 41 = .ok (.putfield 150, 3) := by decide +kernel
theorem dX12_jumps_44 : decode cX12_jumps 44 = .ok (.return_, 1) := by decide +kernel
theorem dX12_readsCompared_0 : decode cX12_readsCompared 0 = .ok (.aload_n 0, 1) := by decide +kernel
theorem dX12_readsCompared_1 : decode cX12_readsCompared 1 = .ok (.invokevirtual 212, 3) := by decide +kernel
theorem dX12_readsCompared_4 : decode cX12_readsCompared 4 = .ok (.ifCond .ne 5, 3) := by decide +kernel
theorem dX12_readsCompared_7 : decode cX12_readsCompared 7 = .ok (.iconst 0, 1) := by decide +kernel
theorem dX12_readsCompared_8 : decode cX12_readsCompared 8 = .ok (.ireturn, 1) := by decide +kernel
theorem dX12_readsCompared_9 : decode cX12_readsCompared 9 = .ok (.aload_n 0, 1) := by decide +kernel
theorem dX12_readsCompared_10 : decode cX12_readsCompared 10 = .ok (.invokevirtual 156, 3) := by decide +kernel
theorem dX12_readsCompared_13 : decode cX12_readsCompared 13 = .ok (.bipush 60, 2) := by decide +kernel
theorem dX12_readsCompared_15 : decode cX12_readsCompared 15 = .ok (.if_icmp .ne 8, 3) := by decide +kernel
theorem dX12_readsCompared_18 : decode cX12_readsCompared 18 = .ok (.bipush 7, 2) := by decide +kernel
theorem dX12_readsCompared_20 : decode cX12_readsCompared 20 = .ok (.goto 32, 3) := by decide +kernel
theorem dX12_readsCompared_23 : decode cX12_readsCompared 23 = .ok (.aload_n 0, 1) := by decide +kernel
theorem dX12_readsCompared_24 : decode cX12_readsCompared 24 = .ok (.invokevirtual 156, 3) := by decide +kernel
theorem dX12_readsCompared_27 : decode cX12_readsCompared 27 = .ok (.bipush 62, 2) := by decide +kernel
theorem dX12_readsCompared_29 : decode cX12_readsCompared 29 = .ok (.if_icmp .ne 8, 3) := by decide +kernel
theorem dX12_readsCompared_32 : decode cX12_readsCompared 32 = .ok (.bipush 8, 2) := by decide +kernel
theorem dX12_readsCompared_34 : decode cX12_readsCompared 34 = .ok (.goto 18, 3) := by decide +kernel
theorem dX12_readsCompared_37 : decode cX12_readsCompared 37 = .ok (.aload_n 0, 1) := by decide +kernel
theorem dX12_readsCompared_38 : decode cX12_readsCompared 38 = .ok (.invokevirtual 156, 3) := by decide +kernel
theorem dX12_readsCompared_41 : decode cX12_readsCompared 41 = .ok (.bipush 61, 2) := by decide +kernel
theorem dX12_readsCompared_43 : decode cX12_readsCompared 43 = .ok (.if_icmp .ne 8, 3) := by decide +kernel
theorem dX12_readsCompared_46 : decode cX12_readsCompared 46 = .ok (.bipush 9, 2) := by decide +kernel
theorem dX12_readsCompared_48 : decode cX12_readsCompared 48 = .ok (.goto 4, 3) := by decide +kernel
theorem dX12_readsCompared_51 : decode cX12_readsCompared 51 = .ok (.iconst (-1), 1) := by decide +kernel
theorem dX12_readsCompared_52 : decode cX12_readsCompared 52 = .ok (.istore_n 1, 1) := by decide +kernel
theorem dX12_readsCompared_53 : decode cX12_readsCompared 53 = .ok (.iload_n 1, 1) := by decide +kernel
theorem dX12_readsCompared_54 : decode cX12_readsCompared 54 = .ok (.iconst (-1), 1) := by decide +kernel
theorem dX12_readsCompared_55 : decode cX12_readsCompared 55 = .ok (.if_icmp .ne 13, 3) := by decide +kernel
theorem dX12_readsCompared_58 : decode cX12_readsCompared 58 = .ok (.aload_n 0, 1) := by decide +kernel
theorem dX12_readsCompared_59 : decode cX12_readsCompared 59 = .ok (.iconst 1, 1) := by decide +kernel
theorem dX12_readsCompared_60 : decode cX12_readsCompared 60 = .ok (.aload_n 0, 1) := by decide +kernel
theorem dX12_readsCompared_61 : decode cX12_readsCompared 61 = .ok (.getfield 150, 3) := by decide +kernel
theorem dX12_readsCompared_64 : decode cX12_readsCompared 64 = .ok (.invokevirtual 163, 3) := by decide +kernel
theorem dX12_readsCompared_67 : decode cX12_readsCompared 67 = .ok (.ireturn, 1) := by decide +kernel
theorem dX12_readsCompared_68 : decode cX12_readsCompared 68 = .ok (.aload_n 0, 1) := by decide +kernel
theorem dX12_readsCompared_69 : decode cX12_readsCompared 69 = .ok (.aload_n 0, 1) := by decide +kernel
theorem dX12_readsCompared_70 : decode cX12_readsCompared 70 = .ok (.getfield 150, 3) := by decide +kernel
theorem dX12_readsCompared_73 : decode cX12_readsCompared 73 = .ok (.iconst 1, 1) := by decide +kernel
theorem dX12_readsCompared_74 : decode cX12_readsCompared 74 = .ok (.iadd, 1) := by decide +kernel
theorem dX12_readsCompared_75 : decode cX12_readsCompared 75 = .ok (.putfield 150, 3) := by decide +kernel
theorem dX12_readsCompared_78 : decode cX12_readsCompared 78 = .ok (.aload_n 0, 1) := by decide +kernel
theorem dX12_readsCompared_79 : decode cX12_readsCompared 79 = .ok (.invokevirtual 212, 3) := by decide +kernel
theorem dX12_readsCompared_82 : decode cX12_readsCompared 82 = .ok (.ifCond .ne 5, 3) := by decide +kernel
theorem dX12_readsCompared_85 : decode cX12_readsCompared 85 = .ok (.iconst 0, 1) := by decide +kernel
theorem dX12_readsCompared_86 : decode cX12_readsCompared 86 = .ok (.ireturn, 1) := by decide +kernel
theorem dX12_readsCompared_87 : decode cX12_readsCompared 87 = .ok (.aload_n 0, 1) := by decide +kernel
theorem dX12_readsCompared_88 : decode cX12_readsCompared 88 = .ok (.iload_n 1, 1) := by decide +kernel
theorem dX12_readsCompared_89 : decode cX12_readsCompared 89 = .ok (.iconst 0, 1) := by decide +kernel
theorem dX12_readsCompared_90 : decode cX12_readsCompared 90 = .ok (.invokevirtual 186, 3) := by decide +kernel
theorem dX12_readsCompared_93 : decode cX12_readsCompared 93 = .ok (.aload_n 0, 1) := by decide +kernel
theorem dX12_readsCompared_94 : decode cX12_readsCompared 94 = .ok (.invokevirtual 215, 3) := by decide +kernel
theorem dX12_readsCompared_97 : decode cX12_readsCompared 97 = .ok (.iconst 1, 1) := by decide +kernel
theorem dX12_readsCompared_98 : decode cX12_readsCompared 98 = .ok (.ireturn, 1) := by decide +kernel
theorem dX12_readsCondition_0 : decode cX12_readsCondition 0 = .ok (.aload_n 0, 1) := by decide +kernel
theorem dX12_readsCondition_1 : decode cX12_readsCondition 1 = .ok (.invokevirtual 156, 3) := by decide +kernel
theorem dX12_readsCondition_4 : decode cX12_readsCondition 4 = .ok (.bipush 40, 2) := by decide +kernel
theorem dX12_readsCondition_6 : decode cX12_readsCondition 6 = .ok (.if_icmp .eq 13, 3) := by decide +kernel
theorem dX12_readsCondition_9 : decode cX12_readsCondition 9 = .ok (.aload_n 0, 1) := by decide +kernel
theorem dX12_readsCondition_10 : decode cX12_readsCondition 10 = .ok (.iconst 1, 1) := by decide +kernel
theorem dX12_readsCondition_11 : decode cX12_readsCondition 11 = .ok (.aload_n 0, 1) := by decide +kernel
theorem dX12_readsCondition_12 : decode cX12_readsCondition 12 = .ok (.getfield 150, 3) := by decide +kernel
theorem dX12_readsCondition_15 : decode cX12_readsCondition 15 = .ok (.invokevirtual 163, 3) := by decide +kernel
theorem dX12_readsCondition_18 : decode cX12_readsCondition 18 = .ok (.ireturn, 1) := by decide +kernel
theorem dX12_readsCondition_19 : decode cX12_readsCondition 19 = .ok (.aload_n 0, 1) := by decide +kernel
theorem dX12_readsCondition_20 : decode cX12_readsCondition 20 = .ok (.iconst 0, 1) := by decide +kernel
theorem dX12_readsCondition_21 : decode cX12_readsCondition 21 = .ok (.putfield 177, 3) := by decide +kernel
theorem dX12_readsCondition_24 : decode cX12_readsCondition 24 = .ok (.aload_n 0, 1) := by decide +kernel
theorem dX12_readsCondition_25 : decode cX12_readsCondition 25 = .ok (.iconst 0, 1) := by decide +kernel
theorem dX12_readsCondition_26 : decode cX12_readsCondition 26 = .ok (.putfield 180, 3) := by decide +kernel
theorem dX12_readsCondition_29 : decode cX12_readsCondition 29 = .ok (.aload_n 0, 1) := by decide +kernel
theorem dX12_readsCondition_30 : decode cX12_readsCondition 30 = .ok (.bipush 13, 2) := by decide +kernel
theorem dX12_readsCondition_32 : decode cX12_readsCondition 32 = .ok (.invokevirtual 190, 3) := by decide +kernel
theorem dX12_readsCondition_35 : decode cX12_readsCondition 35 = .ok (.ifCond .ne 5, 3) := by decide +kernel
theorem dX12_readsCondition_38 : decode cX12_readsCondition 38 = .ok (.iconst 0, 1) := by decide +kernel
theorem dX12_readsCondition_39 : decode cX12_readsCondition 39 = .ok (.ireturn, 1) := by decide +kernel
theorem dX12_readsCondition_40 : decode cX12_readsCondition 40 = .ok (.aload_n 0, 1) := by decide +kernel
theorem dX12_readsCondition_41 : decode cX12_readsCondition 41 = .ok (.invokevirtual 156, 3) := by decide +kernel
theorem dX12_readsCondition_44 : decode cX12_readsCondition 44 = .ok (.bipush 33, 2) := by decide +kernel
theorem dX12_readsCondition_46 : decode cX12_readsCondition 46 = .ok (.if_icmp .eq 12, 3) := by decide +kernel
theorem dX12_readsCondition_49 : decode cX12_readsCondition 49 = .ok (.aload_n 0, 1) := by decide +kernel
theorem dX12_readsCondition_50 : decode cX12_readsCondition 50 = .ok (.invokevirtual 156, 3) := by decide +kernel
theorem dX12_readsCondition_53 : decode cX12_readsCondition 53 = .ok (.bipush 40, 2) := by decide +kernel
theorem dX12_readsCondition_55 : decode cX12_readsCondition 55 = .ok (.if_icmp .ne 28, 3) := by decide +kernel
theorem dX12_readsCondition_58 : decode cX12_readsCondition 58 = .ok (.aload_n 0, 1) := by decide +kernel
theorem dX12_readsCondition_59 : decode cX12_readsCondition 59 = .ok (.aload_n 0, 1) := by decide +kernel
theorem dX12_readsCondition_60 : decode cX12_readsCondition 60 = .ok (.invokevirtual 156, 3) := by decide +kernel
theorem dX12_readsCondition_63 : decode cX12_readsCondition 63 = .ok (.bipush 33, 2) := by decide +kernel
theorem dX12_readsCondition_65 : decode cX12_readsCondition 65 = .ok (.if_icmp .ne 8, 3) := by decide +kernel
theorem dX12_readsCondition_68 : decode cX12_readsCondition 68 = .ok (.bipush 10, 2) := by decide +kernel
theorem dX12_readsCondition_70 : decode cX12_readsCondition 70 = .ok (.goto 5, 3) := by decide +kernel
theorem dX12_readsCondition_73 : decode cX12_readsCondition 73 = .ok (.bipush 13, 2) := by decide +kernel
theorem dX12_readsCondition_75 : decode cX12_readsCondition 75 = .ok (.invokevirtual 190, 3) := by decide +kernel
theorem dX12_readsCondition_78 : decode cX12_readsCondition 78 = .ok (.ifCond .ne (-38), 3) := by decide +kernel
theorem dX12_readsCondition_81 : decode cX12_readsCondition 81 = .ok (.iconst 0, 1) := by decide +kernel
theorem dX12_readsCondition_82 : decode cX12_readsCondition 82 = .ok (.ireturn, 1) := by decide +kernel
theorem dX12_readsCondition_83 : decode cX12_readsCondition 83 = .ok (.aload_n 0, 1) := by decide +kernel
theorem dX12_readsCondition_84 : decode cX12_readsCondition 84 = .ok (.invokevirtual 218, 3) := by decide +kernel
theorem dX12_readsCondition_87 : decode cX12_readsCondition 87 = .ok (.ifCond .ne 5, 3) := by decide +kernel
theorem dX12_readsCondition_90 : decode cX12_readsCondition 90 = .ok (.iconst 0, 1) := by decide +kernel
theorem dX12_readsCondition_91 : decode cX12_readsCondition 91 = .ok (.ireturn, 1) := by decide +kernel
theorem dX12_readsCondition_92 : decode cX12_readsCondition 92 = .ok (.aload_n 0, 1) := by decide +kernel
theorem dX12_readsCondition_93 : decode cX12_readsCondition 93 = .ok (.invokevirtual 156, 3) := by decide +kernel
theorem dX12_readsCondition_96 : decode cX12_readsCondition 96 = .ok (.bipush 41, 2) := by decide +kernel
theorem dX12_readsCondition_98 : decode cX12_readsCondition 98 = .ok (.if_icmp .ne 54, 3) := by decide +kernel
theorem dX12_readsCondition_101 : decode cX12_readsCondition 101 = .ok (.aload_n 0, 1) := by decide +kernel
theorem dX12_readsCondition_102 : decode cX12_readsCondition 102 = .ok (.iconst 1, 1) := by decide +kernel
theorem dX12_readsCondition_103 : decode cX12_readsCondition 103 = .ok (.invokevirtual 221, 3) := by decide +kernel
theorem dX12_readsCondition_106 : decode cX12_readsCondition 106 = .ok (.aload_n 0, 1) := by decide +kernel
theorem dX12_readsCondition_107 : decode cX12_readsCondition 107 = .ok (.aload_n 0, 1) := by decide +kernel
theorem dX12_readsCondition_108 : decode cX12_readsCondition 108 = .ok (.getfield 180, 3) := by decide +kernel
theorem dX12_readsCondition_111 : decode cX12_readsCondition 111 = .ok (.iconst 1, 1) := by decide +kernel
theorem dX12_readsCondition_112 : decode cX12_readsCondition 112 = .ok (.isub, 1) := by decide +kernel
theorem dX12_readsCondition_113 : decode cX12_readsCondition 113 = .ok (.putfield 180, 3) := by decide +kernel
theorem dX12_readsCondition_116 : decode cX12_readsCondition 116 = .ok (.aload_n 0, 1) := by decide +kernel
theorem dX12_readsCondition_117 : decode cX12_readsCondition 117 = .ok (.aload_n 0, 1) := by decide +kernel
theorem dX12_readsCondition_118 : decode cX12_readsCondition 118 = .ok (.getfield 177, 3) := by decide +kernel
theorem dX12_readsCondition_121 : decode cX12_readsCondition 121 = .ok (.iconst 1, 1) := by decide +kernel
theorem dX12_readsCondition_122 : decode cX12_readsCondition 122 = .ok (.isub, 1) := by decide +kernel
theorem dX12_readsCondition_123 : decode cX12_readsCondition 123 = .ok (.putfield 177, 3) := by decide +kernel
theorem dX12_readsCondition_126 : decode cX12_readsCondition 126 = .ok (.aload_n 0, 1) := by decide +kernel
theorem dX12_readsCondition_127 : decode cX12_readsCondition 127 = .ok (.aload_n 0, 1) := by decide +kernel
theorem dX12_readsCondition_128 : decode cX12_readsCondition 128 = .ok (.getfield 150, 3) := by decide +kernel
theorem dX12_readsCondition_131 : decode cX12_readsCondition 131 = .ok (.iconst 1, 1) := by decide +kernel
theorem dX12_readsCondition_132 : decode cX12_readsCondition 132 = .ok (.iadd, 1) := by decide +kernel
theorem dX12_readsCondition_133 : decode cX12_readsCondition 133 = .ok (.putfield 150, 3) := by decide +kernel
theorem dX12_readsCondition_136 : decode cX12_readsCondition 136 = .ok (.aload_n 0, 1) := by decide +kernel
theorem dX12_readsCondition_137 : decode cX12_readsCondition 137 = .ok (.getfield 180, 3) := by decide +kernel
theorem dX12_readsCondition_140 : decode cX12_readsCondition 140 = .ok (.ifCond .ne 5, 3) := by decide +kernel
theorem dX12_readsCondition_143 : decode cX12_readsCondition 143 = .ok (.iconst 1, 1) := by decide +kernel
theorem dX12_readsCondition_144 : decode cX12_readsCondition 144 = .ok (.ireturn, 1) := by decide +kernel
theorem dX12_readsCondition_145 : decode cX12_readsCondition 145 = .ok (.aload_n 0, 1) := by decide +kernel
theorem dX12_readsCondition_146 : decode cX12_readsCondition 146 = .ok (.invokevirtual 215, 3) := by decide +kernel
theorem dX12_readsCondition_149 : decode cX12_readsCondition 149 = .ok (.goto (-57), 3) := by decide +kernel
theorem dX12_readsCondition_152 : decode cX12_readsCondition 152 = .ok (.aload_n 0, 1) := by decide +kernel
theorem dX12_readsCondition_153 : decode cX12_readsCondition 153 = .ok (.invokevirtual 156, 3) := by decide +kernel
theorem dX12_readsCondition_156 : decode cX12_readsCondition 156 = .ok (.bipush 38, 2) := by decide +kernel
theorem dX12_readsCondition_158 : decode cX12_readsCondition 158 = .ok (.if_icmp .eq 22, 3) := by decide +kernel
theorem dX12_readsCondition_161 : decode cX12_readsCondition 161 = .ok (.aload_n 0, 1) := by decide +kernel
theorem dX12_readsCondition_162 : decode cX12_readsCondition 162 = .ok (.invokevirtual 156, 3) := by decide +kernel
theorem dX12_readsCondition_165 : decode cX12_readsCondition 165 = .ok (.bipush 124, 2) := by decide +kernel
theorem dX12_readsCondition_167 : decode cX12_readsCondition 167 = .ok (.if_icmp .eq 13, 3) := by decide +kernel
theorem dX12_readsCondition_170 : decode cX12_readsCondition 170 = .ok (.aload_n 0, 1) := by decide +kernel
theorem dX12_readsCondition_171 : decode cX12_readsCondition 171 = .ok (.iconst 1, 1) := by decide +kernel
theorem dX12_readsCondition_172 : decode cX12_readsCondition 172 = .ok (.aload_n 0, 1) := by decide +kernel
theorem dX12_readsCondition_173 : decode cX12_readsCondition 173 = .ok (.getfield 150, 3) := by decide +kernel
theorem dX12_readsCondition_176 : decode cX12_readsCondition 176 = .ok (.invokevirtual 163, 3) := by decide +kernel
theorem dX12_readsCondition_179 : decode cX12_readsCondition 179 = .ok (.ireturn, 1) := by decide +kernel
theorem dX12_readsCondition_180 : decode cX12_readsCondition 180 = .ok (.aload_n 0, 1) := by decide +kernel
theorem dX12_readsCondition_181 : decode cX12_readsCondition 181 = .ok (.aload_n 0, 1) := by decide +kernel
theorem dX12_readsCondition_182 : decode cX12_readsCondition 182 = .ok (.invokevirtual 156, 3) := by decide +kernel
theorem dX12_readsCondition_185 : decode cX12_readsCondition 185 = .ok (.bipush 124, 2) := by decide +kernel
theorem dX12_readsCondition_187 : decode cX12_readsCondition 187 = .ok (.if_icmp .ne 7, 3) := by decide +kernel
theorem dX12_readsCondition_190 : decode cX12_readsCondition 190 = .ok (.iconst 1, 1) := by decide +kernel
theorem dX12_readsCondition_191 : decode cX12_readsCondition 191 = .ok (.goto 4, 3) := by decide +kernel
theorem dX12_readsCondition_194 : decode cX12_readsCondition 194 = .ok (.iconst 0, 1) := by decide +kernel
theorem dX12_readsCondition_195 : decode cX12_readsCondition 195 = .ok (.invokevirtual 221, 3) := by decide +kernel
theorem dX12_readsCondition_198 : decode cX12_readsCondition 198 = .ok (.aload_n 0, 1) := by decide +kernel
theorem dX12_readsCondition_199 : decode cX12_readsCondition 199 = .ok (.aload_n 0, 1) := by decide +kernel
theorem dX12_readsCondition_200 : decode cX12_readsCondition 200 = .ok (.invokevirtual 156, 3) := by decide +kernel
theorem dX12_readsCondition_203 : decode cX12_readsCondition 203 = .ok (.bipush 38, 2) := by decide +kernel
theorem dX12_readsCondition_205 : decode cX12_readsCondition 205 = .ok (.if_icmp .ne 8, 3) := by decide +kernel
theorem dX12_readsCondition_208 : decode cX12_readsCondition 208 = .ok (.bipush 11, 2) := by decide +kernel
theorem dX12_readsCondition_210 : decode cX12_readsCondition 210 = .ok (.goto 5, 3) := by decide +kernel
theorem dX12_readsCondition_213 : decode cX12_readsCondition 213 = .ok (.bipush 12, 2) := by decide +kernel
theorem dX12_readsCondition_215 : decode cX12_readsCondition 215 = .ok (.invokevirtual 224, 3) := by decide +kernel
theorem dX12_readsCondition_218 : decode cX12_readsCondition 218 = .ok (.goto (-178), 3) := by decide +kernel
theorem dX12_readsRule_0 : decode cX12_readsRule 0 = .ok (.aload_n 0, 1) := by decide +kernel
theorem dX12_readsRule_1 : decode cX12_readsRule 1 = .ok (.invokevirtual 156, 3) := by decide +kernel
theorem dX12_readsRule_4 : decode cX12_readsRule 4 = .ok (.istore_n 1, 1) := by decide +kernel
theorem dX12_readsRule_5 : decode cX12_readsRule 5 = .ok (.iload_n 1, 1) := by decide +kernel
theorem dX12_readsRule_6 : decode cX12_readsRule 6 = .ok (.bipush 102, 2) := by decide +kernel
theorem dX12_readsRule_8 : decode cX12_readsRule 8 = .ok (.if_icmp .eq 25, 3) := by decide +kernel
theorem dX12_readsRule_11 : decode cX12_readsRule 11 = .ok (.iload_n 1, 1) := by decide +kernel
theorem dX12_readsRule_12 : decode cX12_readsRule 12 = .ok (.bipush 101, 2) := by decide +kernel
theorem dX12_readsRule_14 : decode cX12_readsRule 14 = .ok (.if_icmp .eq 19, 3) := by decide +kernel
theorem dX12_readsRule_17 : decode cX12_readsRule 17 = .ok (.iload_n 1, 1) := by decide +kernel
theorem dX12_readsRule_18 : decode cX12_readsRule 18 = .ok (.bipush 120, 2) := by decide +kernel
theorem dX12_readsRule_20 : decode cX12_readsRule 20 = .ok (.if_icmp .eq 13, 3) := by decide +kernel
theorem dX12_readsRule_23 : decode cX12_readsRule 23 = .ok (.aload_n 0, 1) := by decide +kernel
theorem dX12_readsRule_24 : decode cX12_readsRule 24 = .ok (.iconst 1, 1) := by decide +kernel
theorem dX12_readsRule_25 : decode cX12_readsRule 25 = .ok (.aload_n 0, 1) := by decide +kernel
theorem dX12_readsRule_26 : decode cX12_readsRule 26 = .ok (.getfield 150, 3) := by decide +kernel
theorem dX12_readsRule_29 : decode cX12_readsRule 29 = .ok (.invokevirtual 163, 3) := by decide +kernel
theorem dX12_readsRule_32 : decode cX12_readsRule 32 = .ok (.ireturn, 1) := by decide +kernel
theorem dX12_readsRule_33 : decode cX12_readsRule 33 = .ok (.aload_n 0, 1) := by decide +kernel
theorem dX12_readsRule_34 : decode cX12_readsRule 34 = .ok (.getfield 227, 3) := by decide +kernel
theorem dX12_readsRule_37 : decode cX12_readsRule 37 = .ok (.bipush 16, 2) := by decide +kernel
theorem dX12_readsRule_39 : decode cX12_readsRule 39 = .ok (.if_icmp .ne 13, 3) := by decide +kernel
theorem dX12_readsRule_42 : decode cX12_readsRule 42 = .ok (.aload_n 0, 1) := by decide +kernel
theorem dX12_readsRule_43 : decode cX12_readsRule 43 = .ok (.iconst 4, 1) := by decide +kernel
theorem dX12_readsRule_44 : decode cX12_readsRule 44 = .ok (.aload_n 0, 1) := by decide +kernel
theorem dX12_readsRule_45 : decode cX12_readsRule 45 = .ok (.getfield 150, 3) := by decide +kernel
theorem dX12_readsRule_48 : decode cX12_readsRule 48 = .ok (.invokevirtual 163, 3) := by decide +kernel
theorem dX12_readsRule_51 : decode cX12_readsRule 51 = .ok (.ireturn, 1) := by decide +kernel
theorem dX12_readsRule_52 : decode cX12_readsRule 52 = .ok (.aload_n 0, 1) := by decide +kernel
theorem dX12_readsRule_53 : decode cX12_readsRule 53 = .ok (.getfield 38, 3) := by decide +kernel
theorem dX12_readsRule_56 : decode cX12_readsRule 56 = .ok (.aload_n 0, 1) := by decide +kernel
theorem dX12_readsRule_57 : decode cX12_readsRule 57 = .ok (.getfield 227, 3) := by decide +kernel
theorem dX12_readsRule_60 : decode cX12_readsRule 60 = .ok (.iload_n 1, 1) := by decide +kernel
theorem dX12_readsRule_61 : decode cX12_readsRule 61 = .ok (.iastore, 1) := by decide +kernel
theorem dX12_readsRule_62 : decode cX12_readsRule 62 = .ok (.aload_n 0, 1) := by decide +kernel
theorem dX12_readsRule_63 : decode cX12_readsRule 63 = .ok (.aload_n 0, 1) := by decide +kernel
theorem dX12_readsRule_64 : decode cX12_readsRule 64 = .ok (.getfield 150, 3) := by decide +kernel
theorem dX12_readsRule_67 : decode cX12_readsRule 67 = .ok (.iconst 1, 1) := by decide +kernel
theorem dX12_readsRule_68 : decode cX12_readsRule 68 = .ok (.iadd, 1) := by decide +kernel
theorem dX12_readsRule_69 : decode cX12_readsRule 69 = .ok (.putfield 150, 3) := by decide +kernel
theorem dX12_readsRule_72 : decode cX12_readsRule 72 = .ok (.aload_n 0, 1) := by decide +kernel
theorem dX12_readsRule_73 : decode cX12_readsRule 73 = .ok (.getfield 41, 3) := by decide +kernel
theorem dX12_readsRule_76 : decode cX12_readsRule 76 = .ok (.aload_n 0, 1) := by decide +kernel
theorem dX12_readsRule_77 : decode cX12_readsRule 77 = .ok (.getfield 227, 3) := by decide +kernel
theorem dX12_readsRule_80 : decode cX12_readsRule 80 = .ok (.aload_n 0, 1) := by decide +kernel
theorem dX12_readsRule_81 : decode cX12_readsRule 81 = .ok (.getfield 173, 3) := by decide +kernel
theorem dX12_readsRule_84 : decode cX12_readsRule 84 = .ok (.iastore, 1) := by decide +kernel
theorem dX12_readsRule_85 : decode cX12_readsRule 85 = .ok (.aload_n 0, 1) := by decide +kernel
theorem dX12_readsRule_86 : decode cX12_readsRule 86 = .ok (.iconst 0, 1) := by decide +kernel
theorem dX12_readsRule_87 : decode cX12_readsRule 87 = .ok (.putfield 177, 3) := by decide +kernel
theorem dX12_readsRule_90 : decode cX12_readsRule 90 = .ok (.aload_n 0, 1) := by decide +kernel
theorem dX12_readsRule_91 : decode cX12_readsRule 91 = .ok (.iconst 0, 1) := by decide +kernel
theorem dX12_readsRule_92 : decode cX12_readsRule 92 = .ok (.putfield 180, 3) := by decide +kernel
theorem dX12_readsRule_95 : decode cX12_readsRule 95 = .ok (.iload_n 1, 1) := by decide +kernel
theorem dX12_readsRule_96 : decode cX12_readsRule 96 = .ok (.bipush 120, 2) := by decide +kernel
theorem dX12_readsRule_98 : decode cX12_readsRule 98 = .ok (.if_icmp .eq 12, 3) := by decide +kernel
theorem dX12_readsRule_101 : decode cX12_readsRule 101 = .ok (.aload_n 0, 1) := by decide +kernel
theorem dX12_readsRule_102 : decode cX12_readsRule 102 = .ok (.invokevirtual 212, 3) := by decide +kernel
theorem dX12_readsRule_105 : decode cX12_readsRule 105 = .ok (.ifCond .ne 5, 3) := by decide +kernel
theorem dX12_readsRule_108 : decode cX12_readsRule 108 = .ok (.iconst 0, 1) := by decide +kernel
theorem dX12_readsRule_109 : decode cX12_readsRule 109 = .ok (.ireturn, 1) := by decide +kernel
theorem dX12_readsRule_110 : decode cX12_readsRule 110 = .ok (.aload_n 0, 1) := by decide +kernel
theorem dX12_readsRule_111 : decode cX12_readsRule 111 = .ok (.getfield 44, 3) := by decide +kernel
theorem dX12_readsRule_114 : decode cX12_readsRule 114 = .ok (.aload_n 0, 1) := by decide +kernel
theorem dX12_readsRule_115 : decode cX12_readsRule 115 = .ok (.getfield 227, 3) := by decide +kernel
theorem dX12_readsRule_118 : decode cX12_readsRule 118 = .ok (.aload_n 0, 1) := by decide +kernel
theorem dX12_readsRule_119 : decode cX12_readsRule 119 = .ok (.getfield 173, 3) := by decide +kernel
theorem dX12_readsRule_122 : decode cX12_readsRule 122 = .ok (.iastore, 1) := by decide +kernel
theorem dX12_readsRule_123 : decode cX12_readsRule 123 = .ok (.aload_n 0, 1) := by decide +kernel
theorem dX12_readsRule_124 : decode cX12_readsRule 124 = .ok (.invokevirtual 230, 3) := by decide +kernel
theorem dX12_readsRule_127 : decode cX12_readsRule 127 = .ok (.ifCond .ne 5, 3) := by decide +kernel
theorem dX12_readsRule_130 : decode cX12_readsRule 130 = .ok (.iconst 0, 1) := by decide +kernel
theorem dX12_readsRule_131 : decode cX12_readsRule 131 = .ok (.ireturn, 1) := by decide +kernel
theorem dX12_readsRule_132 : decode cX12_readsRule 132 = .ok (.aload_n 0, 1) := by decide +kernel
theorem dX12_readsRule_133 : decode cX12_readsRule 133 = .ok (.getfield 47, 3) := by decide +kernel
theorem dX12_readsRule_136 : decode cX12_readsRule 136 = .ok (.aload_n 0, 1) := by decide +kernel
theorem dX12_readsRule_137 : decode cX12_readsRule 137 = .ok (.getfield 227, 3) := by decide +kernel
theorem dX12_readsRule_140 : decode cX12_readsRule 140 = .ok (.aload_n 0, 1) := by decide +kernel
theorem dX12_readsRule_141 : decode cX12_readsRule 141 = .ok (.getfield 173, 3) := by decide +kernel
theorem dX12_readsRule_144 : decode cX12_readsRule 144 = .ok (.iastore, 1) := by decide +kernel
theorem dX12_readsRule_145 : decode cX12_readsRule 145 = .ok (.aload_n 0, 1) := by decide +kernel
theorem dX12_readsRule_146 : decode cX12_readsRule 146 = .ok (.aload_n 0, 1) := by decide +kernel
theorem dX12_readsRule_147 : decode cX12_readsRule 147 = .ok (.getfield 227, 3) := by decide +kernel
theorem dX12_readsRule_150 : decode cX12_readsRule 150 = .ok (.iconst 1, 1) := by decide +kernel
theorem dX12_readsRule_151 : decode cX12_readsRule 151 = .ok (.iadd, 1) := by decide +kernel
theorem dX12_readsRule_152 : decode cX12_readsRule 152 = .ok (.putfield 227, 3) := by decide +kernel
theorem dX12_readsRule_155 : decode cX12_readsRule 155 = .ok (.iconst 1, 1) := by decide +kernel
theorem dX12_readsRule_156 : decode cX12_readsRule 156 = .ok (.ireturn, 1) := by decide +kernel
theorem dX12_beginsText_0 : decode cX12_beginsText 0 = .ok (.aload_n 0, 1) := by decide +kernel
theorem dX12_beginsText_1 : decode cX12_beginsText 1 = .ok (.iconst 0, 1) := by decide +kernel
theorem dX12_beginsText_2 : decode cX12_beginsText 2 = .ok (.putfield 150, 3) := by decide +kernel
theorem dX12_beginsText_5 : decode cX12_beginsText 5 = .ok (.aload_n 0, 1) := by decide +kernel
theorem dX12_beginsText_6 : decode cX12_beginsText 6 = .ok (.iload_n 1, 1) := by decide +kernel
theorem dX12_beginsText_7 : decode cX12_beginsText 7 = .ok (.putfield 153, 3) := by decide +kernel
theorem dX12_beginsText_10 : decode cX12_beginsText 10 = .ok (.aload_n 0, 1) := by decide +kernel
theorem dX12_beginsText_11 : decode cX12_beginsText 11 = .ok (.iconst 0, 1) := by decide +kernel
theorem dX12_beginsText_12 : decode cX12_beginsText 12 = .ok (.putfield 173, 3) := by decide +kernel
theorem dX12_beginsText_15 : decode cX12_beginsText 15 = .ok (.aload_n 0, 1) := by decide +kernel
theorem dX12_beginsText_16 : decode cX12_beginsText 16 = .ok (.iconst 0, 1) := by decide +kernel
theorem dX12_beginsText_17 : decode cX12_beginsText 17 = .ok (.putfield 227, 3) := by decide +kernel
theorem dX12_beginsText_20 : decode cX12_beginsText 20 = .ok (.return_, 1) := by decide +kernel
theorem dX12_law_0 : decode cX12_law 0 = .ok (.iload_n 1, 1) := by decide +kernel
theorem dX12_law_1 : decode cX12_law 1 = .ok (.iconst 1, 1) := by decide +kernel
theorem dX12_law_2 : decode cX12_law 2 = .ok (.sipush 240, 3) := by decide +kernel
theorem dX12_law_5 : decode cX12_law 5 = .ok (.invokestatic 105, 3) := by decide +kernel
theorem dX12_law_8 : decode cX12_law 8 = .ok (.ifCond .eq 11, 3) := by decide +kernel
theorem dX12_law_11 : decode cX12_law 11 = .ok (.iload_n 1, 1) := by decide +kernel
theorem dX12_law_12 : decode cX12_law 12 = .ok (.aload_n 0, 1) := by decide +kernel
theorem dX12_law_13 : decode cX12_law 13 = .ok (.getfield 143, 3) := by decide +kernel
theorem dX12_law_16 : decode cX12_law 16 = .ok (.if_icmp .le 5, 3) := by decide +kernel
theorem dX12_law_19 : decode cX12_law 19 = .ok (.iconst (-1), 1) := by decide +kernel
theorem dX12_law_20 : decode cX12_law 20 = .ok (.ireturn, 1) := by decide +kernel
theorem dX12_law_21 : decode cX12_law 21 = .ok (.aload_n 0, 1) := by decide +kernel
theorem dX12_law_22 : decode cX12_law 22 = .ok (.iload_n 1, 1) := by decide +kernel
theorem dX12_law_23 : decode cX12_law 23 = .ok (.invokevirtual 233, 3) := by decide +kernel
theorem dX12_law_26 : decode cX12_law 26 = .ok (.aload_n 0, 1) := by decide +kernel
theorem dX12_law_27 : decode cX12_law 27 = .ok (.invokevirtual 236, 3) := by decide +kernel
theorem dX12_law_30 : decode cX12_law 30 = .ok (.istore_n 2, 1) := by decide +kernel
theorem dX12_law_31 : decode cX12_law 31 = .ok (.iload_n 2, 1) := by decide +kernel
theorem dX12_law_32 : decode cX12_law 32 = .ok (.ifCond .eq 39, 3) := by decide +kernel
theorem dX12_law_35 : decode cX12_law 35 = .ok (.aload_n 0, 1) := by decide +kernel
theorem dX12_law_36 : decode cX12_law 36 = .ok (.getfield 150, 3) := by decide +kernel
theorem dX12_law_39 : decode cX12_law 39 = .ok (.aload_n 0, 1) := by decide +kernel
theorem dX12_law_40 : decode cX12_law 40 = .ok (.getfield 153, 3) := by decide +kernel
theorem dX12_law_43 : decode cX12_law 43 = .ok (.if_icmp .ge 28, 3) := by decide +kernel
theorem dX12_law_46 : decode cX12_law 46 = .ok (.aload_n 0, 1) := by decide +kernel
theorem dX12_law_47 : decode cX12_law 47 = .ok (.bipush 59, 2) := by decide +kernel
theorem dX12_law_49 : decode cX12_law 49 = .ok (.invokevirtual 239, 3) := by decide +kernel
theorem dX12_law_52 : decode cX12_law 52 = .ok (.ifCond .eq 14, 3) := by decide +kernel
theorem dX12_law_55 : decode cX12_law 55 = .ok (.aload_n 0, 1) := by decide +kernel
theorem dX12_law_56 : decode cX12_law 56 = .ok (.invokevirtual 236, 3) := by decide +kernel
theorem dX12_law_59 : decode cX12_law 59 = .ok (.ifCond .eq 7, 3) := by decide +kernel
theorem dX12_law_62 : decode cX12_law 62 = .ok (.iconst 1, 1) := by decide +kernel
theorem dX12_law_63 : decode cX12_law 63 = .ok (.goto 4, 3) := by decide +kernel
theorem dX12_law_66 : decode cX12_law 66 = .ok (.iconst 0, 1) := by decide +kernel
theorem dX12_law_67 : decode cX12_law 67 = .ok (.istore_n 2, 1) := by decide +kernel
theorem dX12_law_68 : decode cX12_law 68 = .ok (.goto (-37), 3) := by decide +kernel
theorem dX12_law_71 : decode cX12_law 71 = .ok (.aload_n 0, 1) := by decide +kernel
theorem dX12_law_72 : decode cX12_law 72 = .ok (.iconst 0, 1) := by decide +kernel
theorem dX12_law_73 : decode cX12_law 73 = .ok (.putfield 143, 3) := by decide +kernel
theorem dX12_law_76 : decode cX12_law 76 = .ok (.iload_n 2, 1) := by decide +kernel
theorem dX12_law_77 : decode cX12_law 77 = .ok (.ifCond .ne 8, 3) := by decide +kernel
theorem dX12_law_80 : decode cX12_law 80 = .ok (.aload_n 0, 1) := by decide +kernel
theorem dX12_law_81 : decode cX12_law 81 = .ok (.getfield 160, 3) := by decide +kernel
theorem dX12_law_84 : decode cX12_law 84 = .ok (.ireturn, 1) := by decide +kernel
theorem dX12_law_85 : decode cX12_law 85 = .ok (.aload_n 0, 1) := by decide +kernel
theorem dX12_law_86 : decode cX12_law 86 = .ok (.aload_n 0, 1) := by decide +kernel
theorem dX12_law_87 : decode cX12_law 87 = .ok (.getfield 227, 3) := by decide +kernel
theorem dX12_law_90 : decode cX12_law 90 = .ok (.putfield 242, 3) := by decide +kernel
theorem dX12_law_93 : decode cX12_law 93 = .ok (.iconst 0, 1) := by decide +kernel
theorem dX12_law_94 : decode cX12_law 94 = .ok (.istore_n 3, 1) := by decide +kernel
theorem dX12_law_95 : decode cX12_law 95 = .ok (.iload_n 3, 1) := by decide +kernel
theorem dX12_law_96 : decode cX12_law 96 = .ok (.aload_n 0, 1) := by decide +kernel
theorem dX12_law_97 : decode cX12_law 97 = .ok (.getfield 173, 3) := by decide +kernel
theorem dX12_law_100 : decode cX12_law 100 = .ok (.if_icmp .ge 21, 3) := by decide +kernel
theorem dX12_law_103 : decode cX12_law 103 = .ok (.aload_n 0, 1) := by decide +kernel
theorem dX12_law_104 : decode cX12_law 104 = .ok (.getfield 50, 3) := by decide +kernel
theorem dX12_law_107 : decode cX12_law 107 = .ok (.iload_n 3, 1) := by decide +kernel
theorem dX12_law_108 : decode cX12_law 108 = .ok (.aload_n 0, 1) := by decide +kernel
theorem dX12_law_109 : decode cX12_law 109 = .ok (.getfield 32, 3) := by decide +kernel
theorem dX12_law_112 : decode cX12_law 112 = .ok (.iload_n 3, 1) := by decide +kernel
theorem dX12_law_113 : decode cX12_law 113 = .ok (.iaload, 1) := by decide +kernel
theorem dX12_law_114 : decode cX12_law 114 = .ok (.iastore, 1) := by decide +kernel
theorem dX12_law_115 : decode cX12_law 115 = .ok (.iinc 3 1, 3) := by decide +kernel
theorem dX12_law_118 : decode cX12_law 118 = .ok (.goto (-23), 3) := by decide +kernel
theorem dX12_law_121 : decode cX12_law 121 = .ok (.iconst 0, 1) := by decide +kernel
theorem dX12_law_122 : decode cX12_law 122 = .ok (.istore_n 3, 1) := by decide +kernel
theorem dX12_law_123 : decode cX12_law 123 = .ok (.iload_n 3, 1) := by decide +kernel
theorem dX12_law_124 : decode cX12_law 124 = .ok (.aload_n 0, 1) := by decide +kernel
theorem dX12_law_125 : decode cX12_law 125 = .ok (.getfield 227, 3) := by decide +kernel
theorem dX12_law_128 : decode cX12_law 128 = .ok (.if_icmp .ge 57, 3) := by decide +kernel
theorem dX12_law_131 : decode cX12_law 131 = .ok (.aload_n 0, 1) := by decide +kernel
theorem dX12_law_132 : decode cX12_law 132 = .ok (.getfield 53, 3) := by decide +kernel
theorem dX12_law_135 : decode cX12_law 135 = .ok (.iload_n 3, 1) := by decide +kernel
theorem dX12_law_136 : decode cX12_law 136 = .ok (.aload_n 0, 1) := by decide +kernel
theorem dX12_law_137 : decode cX12_law 137 = .ok (.getfield 38, 3) := by decide +kernel
theorem dX12_law_140 : decode cX12_law 140 = .ok (.iload_n 3, 1) := by decide +kernel
theorem dX12_law_141 : decode cX12_law 141 = .ok (.iaload, 1) := by decide +kernel
theorem dX12_law_142 : decode cX12_law 142 = .ok (.iastore, 1) := by decide +kernel
theorem dX12_law_143 : decode cX12_law 143 = .ok (.aload_n 0, 1) := by decide +kernel
theorem dX12_law_144 : decode cX12_law 144 = .ok (.getfield 56, 3) := by decide +kernel
theorem dX12_law_147 : decode cX12_law 147 = .ok (.iload_n 3, 1) := by decide +kernel
theorem dX12_law_148 : decode cX12_law 148 = .ok (.aload_n 0, 1) := by decide +kernel
theorem dX12_law_149 : decode cX12_law 149 = .ok (.getfield 41, 3) := by decide +kernel
theorem dX12_law_152 : decode cX12_law 152 = .ok (.iload_n 3, 1) := by decide +kernel
theorem dX12_law_153 : decode cX12_law 153 = .ok (.iaload, 1) := by decide +kernel
theorem dX12_law_154 : decode cX12_law 154 = .ok (.iastore, 1) := by decide +kernel
theorem dX12_law_155 : decode cX12_law 155 = .ok (.aload_n 0, 1) := by decide +kernel
theorem dX12_law_156 : decode cX12_law 156 = .ok (.getfield 59, 3) := by decide +kernel
theorem dX12_law_159 : decode cX12_law 159 = .ok (.iload_n 3, 1) := by decide +kernel
theorem dX12_law_160 : decode cX12_law 160 = .ok (.aload_n 0, 1) := by decide +kernel
theorem dX12_law_161 : decode cX12_law 161 = .ok (.getfield 44, 3) := by decide +kernel
theorem dX12_law_164 : decode cX12_law 164 = .ok (.iload_n 3, 1) := by decide +kernel
theorem dX12_law_165 : decode cX12_law 165 = .ok (.iaload, 1) := by decide +kernel
theorem dX12_law_166 : decode cX12_law 166 = .ok (.iastore, 1) := by decide +kernel
theorem dX12_law_167 : decode cX12_law 167 = .ok (.aload_n 0, 1) := by decide +kernel
theorem dX12_law_168 : decode cX12_law 168 = .ok (.getfield 62, 3) := by decide +kernel
theorem dX12_law_171 : decode cX12_law 171 = .ok (.iload_n 3, 1) := by decide +kernel
theorem dX12_law_172 : decode cX12_law 172 = .ok (.aload_n 0, 1) := by decide +kernel
theorem dX12_law_173 : decode cX12_law 173 = .ok (.getfield 47, 3) := by decide +kernel
theorem dX12_law_176 : decode cX12_law 176 = .ok (.iload_n 3, 1) := by decide +kernel
theorem dX12_law_177 : decode cX12_law 177 = .ok (.iaload, 1) := by decide +kernel
theorem dX12_law_178 : decode cX12_law 178 = .ok (.iastore, 1) := by decide +kernel
theorem dX12_law_179 : decode cX12_law 179 = .ok (.iinc 3 1, 3) := by decide +kernel
theorem dX12_law_182 : decode cX12_law 182 = .ok (.goto (-59), 3) := by decide +kernel
theorem dX12_law_185 : decode cX12_law 185 = .ok (.aload_n 0, 1) := by decide +kernel
theorem dX12_law_186 : decode cX12_law 186 = .ok (.getfield 227, 3) := by decide +kernel
theorem dX12_law_189 : decode cX12_law 189 = .ok (.ireturn, 1) := by decide +kernel
theorem dX12_reckon_0 : decode cX12_reckon 0 = .ok (.iload_n 0, 1) := by decide +kernel
theorem dX12_reckon_1 : decode cX12_reckon 1 = .ok (.tableswitch 85 2 8 #[43, 47, 51, 55, 59, 63, 74], 43) := by decide +kernel
theorem dX12_reckon_44 : decode cX12_reckon 44 = .ok (.iload_n 1, 1) := by decide +kernel
theorem dX12_reckon_45 : decode cX12_reckon 45 = .ok (.iload_n 2, 1) := by decide +kernel
theorem dX12_reckon_46 : decode cX12_reckon 46 = .ok (.iadd, 1) := by decide +kernel
theorem dX12_reckon_47 : decode cX12_reckon 47 = .ok (.ireturn, 1) := by decide +kernel
theorem dX12_reckon_48 : decode cX12_reckon 48 = .ok (.iload_n 1, 1) := by decide +kernel
theorem dX12_reckon_49 : decode cX12_reckon 49 = .ok (.iload_n 2, 1) := by decide +kernel
theorem dX12_reckon_50 : decode cX12_reckon 50 = .ok (.isub, 1) := by decide +kernel
theorem dX12_reckon_51 : decode cX12_reckon 51 = .ok (.ireturn, 1) := by decide +kernel
theorem dX12_reckon_52 : decode cX12_reckon 52 = .ok (.iload_n 1, 1) := by decide +kernel
theorem dX12_reckon_53 : decode cX12_reckon 53 = .ok (.iload_n 2, 1) := by decide +kernel
theorem dX12_reckon_54 : decode cX12_reckon 54 = .ok (.imul, 1) := by decide +kernel
theorem dX12_reckon_55 : decode cX12_reckon 55 = .ok (.ireturn, 1) := by decide +kernel
theorem dX12_reckon_56 : decode cX12_reckon 56 = .ok (.iload_n 1, 1) := by decide +kernel
theorem dX12_reckon_57 : decode cX12_reckon 57 = .ok (.iload_n 2, 1) := by decide +kernel
theorem dX12_reckon_58 : decode cX12_reckon 58 = .ok (.idiv, 1) := by decide +kernel
theorem dX12_reckon_59 : decode cX12_reckon 59 = .ok (.ireturn, 1) := by decide +kernel
theorem dX12_reckon_60 : decode cX12_reckon 60 = .ok (.iload_n 1, 1) := by decide +kernel
theorem dX12_reckon_61 : decode cX12_reckon 61 = .ok (.iload_n 2, 1) := by decide +kernel
theorem dX12_reckon_62 : decode cX12_reckon 62 = .ok (.irem, 1) := by decide +kernel
theorem dX12_reckon_63 : decode cX12_reckon 63 = .ok (.ireturn, 1) := by decide +kernel
theorem dX12_reckon_64 : decode cX12_reckon 64 = .ok (.iload_n 1, 1) := by decide +kernel
theorem dX12_reckon_65 : decode cX12_reckon 65 = .ok (.iload_n 2, 1) := by decide +kernel
theorem dX12_reckon_66 : decode cX12_reckon 66 = .ok (.if_icmp .ge 7, 3) := by decide +kernel
theorem dX12_reckon_69 : decode cX12_reckon 69 = .ok (.iconst 1, 1) := by decide +kernel
theorem dX12_reckon_70 : decode cX12_reckon 70 = .ok (.goto 4, 3) := by decide +kernel
theorem dX12_reckon_73 : decode cX12_reckon 73 = .ok (.iconst 0, 1) := by decide +kernel
theorem dX12_reckon_74 : decode cX12_reckon 74 = .ok (.ireturn, 1) := by decide +kernel
theorem dX12_reckon_75 : decode cX12_reckon 75 = .ok (.iload_n 1, 1) := by decide +kernel
theorem dX12_reckon_76 : decode cX12_reckon 76 = .ok (.iload_n 2, 1) := by decide +kernel
theorem dX12_reckon_77 : decode cX12_reckon 77 = .ok (.if_icmp .le 7, 3) := by decide +kernel
theorem dX12_reckon_80 : decode cX12_reckon 80 = .ok (.iconst 1, 1) := by decide +kernel
theorem dX12_reckon_81 : decode cX12_reckon 81 = .ok (.goto 4, 3) := by decide +kernel
theorem dX12_reckon_84 : decode cX12_reckon 84 = .ok (.iconst 0, 1) := by decide +kernel
theorem dX12_reckon_85 : decode cX12_reckon 85 = .ok (.ireturn, 1) := by decide +kernel
theorem dX12_reckon_86 : decode cX12_reckon 86 = .ok (.iload_n 1, 1) := by decide +kernel
theorem dX12_reckon_87 : decode cX12_reckon 87 = .ok (.iload_n 2, 1) := by decide +kernel
theorem dX12_reckon_88 : decode cX12_reckon 88 = .ok (.if_icmp .ne 7, 3) := by decide +kernel
theorem dX12_reckon_91 : decode cX12_reckon 91 = .ok (.iconst 1, 1) := by decide +kernel
theorem dX12_reckon_92 : decode cX12_reckon 92 = .ok (.goto 4, 3) := by decide +kernel
theorem dX12_reckon_95 : decode cX12_reckon 95 = .ok (.iconst 0, 1) := by decide +kernel
theorem dX12_reckon_96 : decode cX12_reckon 96 = .ok (.ireturn, 1) := by decide +kernel
theorem dX12_reckonsTo_0 : decode cX12_reckonsTo 0 = .ok (.iconst 0, 1) := by decide +kernel
theorem dX12_reckonsTo_1 : decode cX12_reckonsTo 1 = .ok (.istore_n 3, 1) := by decide +kernel
theorem dX12_reckonsTo_2 : decode cX12_reckonsTo 2 = .ok (.sipush 260, 3) := by decide +kernel
theorem dX12_reckonsTo_5 : decode cX12_reckonsTo 5 = .ok (.iload_n 1, 1) := by decide +kernel
theorem dX12_reckonsTo_6 : decode cX12_reckonsTo 6 = .ok (.sipush 260, 3) := by decide +kernel
theorem dX12_reckonsTo_9 : decode cX12_reckonsTo 9 = .ok (.idiv, 1) := by decide +kernel
theorem dX12_reckonsTo_10 : decode cX12_reckonsTo 10 = .ok (.imul, 1) := by decide +kernel
theorem dX12_reckonsTo_11 : decode cX12_reckonsTo 11 = .ok (.istore 4, 2) := by decide +kernel
theorem dX12_reckonsTo_13 : decode cX12_reckonsTo 13 = .ok (.iload_n 1, 1) := by decide +kernel
theorem dX12_reckonsTo_14 : decode cX12_reckonsTo 14 = .ok (.istore 5, 2) := by decide +kernel
theorem dX12_reckonsTo_16 : decode cX12_reckonsTo 16 = .ok (.iload 5, 2) := by decide +kernel
theorem dX12_reckonsTo_18 : decode cX12_reckonsTo 18 = .ok (.iload_n 2, 1) := by decide +kernel
theorem dX12_reckonsTo_19 : decode cX12_reckonsTo 19 = .ok (.if_icmp .ge 214, 3) := by decide +kernel
theorem dX12_reckonsTo_22 : decode cX12_reckonsTo 22 = .ok (.aload_n 0, 1) := by decide +kernel
theorem dX12_reckonsTo_23 : decode cX12_reckonsTo 23 = .ok (.getfield 50, 3) := by decide +kernel
theorem dX12_reckonsTo_26 : decode cX12_reckonsTo 26 = .ok (.iload 5, 2) := by decide +kernel
theorem dX12_reckonsTo_28 : decode cX12_reckonsTo 28 = .ok (.iaload, 1) := by decide +kernel
theorem dX12_reckonsTo_29 : decode cX12_reckonsTo 29 = .ok (.ldc 176, 2) := by decide +kernel
theorem dX12_reckonsTo_31 : decode cX12_reckonsTo 31 = .ok (.idiv, 1) := by decide +kernel
theorem dX12_reckonsTo_32 : decode cX12_reckonsTo 32 = .ok (.istore 6, 2) := by decide +kernel
theorem dX12_reckonsTo_34 : decode cX12_reckonsTo 34 = .ok (.aload_n 0, 1) := by decide +kernel
theorem dX12_reckonsTo_35 : decode cX12_reckonsTo 35 = .ok (.getfield 50, 3) := by decide +kernel
theorem dX12_reckonsTo_38 : decode cX12_reckonsTo 38 = .ok (.iload 5, 2) := by decide +kernel
theorem dX12_reckonsTo_40 : decode cX12_reckonsTo 40 = .ok (.iaload, 1) := by decide +kernel
theorem dX12_reckonsTo_41 : decode cX12_reckonsTo 41 = .ok (.ldc 176, 2) := by decide +kernel
theorem dX12_reckonsTo_43 : decode cX12_reckonsTo 43 = .ok (.irem, 1) := by decide +kernel
theorem dX12_reckonsTo_44 : decode cX12_reckonsTo 44 = .ok (.istore 7, 2) := by decide +kernel
theorem dX12_reckonsTo_46 : decode cX12_reckonsTo 46 = .ok (.iload 5, 2) := by decide +kernel
theorem dX12_reckonsTo_48 : decode cX12_reckonsTo 48 = .ok (.iconst 1, 1) := by decide +kernel
theorem dX12_reckonsTo_49 : decode cX12_reckonsTo 49 = .ok (.iadd, 1) := by decide +kernel
theorem dX12_reckonsTo_50 : decode cX12_reckonsTo 50 = .ok (.istore 5, 2) := by decide +kernel
theorem dX12_reckonsTo_52 : decode cX12_reckonsTo 52 = .ok (.iload 6, 2) := by decide +kernel
theorem dX12_reckonsTo_54 : decode cX12_reckonsTo 54 = .ok (.ifCond .eq 9, 3) := by decide +kernel
theorem dX12_reckonsTo_57 : decode cX12_reckonsTo 57 = .ok (.iload 6, 2) := by decide +kernel
theorem dX12_reckonsTo_59 : decode cX12_reckonsTo 59 = .ok (.iconst 1, 1) := by decide +kernel
theorem dX12_reckonsTo_60 : decode cX12_reckonsTo 60 = .ok (.if_icmp .ne 33, 3) := by decide +kernel
theorem dX12_reckonsTo_63 : decode cX12_reckonsTo 63 = .ok (.aload_n 0, 1) := by decide +kernel
theorem dX12_reckonsTo_64 : decode cX12_reckonsTo 64 = .ok (.getfield 65, 3) := by decide +kernel
theorem dX12_reckonsTo_67 : decode cX12_reckonsTo 67 = .ok (.iload_n 3, 1) := by decide +kernel
theorem dX12_reckonsTo_68 : decode cX12_reckonsTo 68 = .ok (.iload 6, 2) := by decide +kernel
theorem dX12_reckonsTo_70 : decode cX12_reckonsTo 70 = .ok (.ifCond .ne 8, 3) := by decide +kernel
theorem dX12_reckonsTo_73 : decode cX12_reckonsTo 73 = .ok (.iload 7, 2) := by decide +kernel
theorem dX12_reckonsTo_75 : decode cX12_reckonsTo 75 = .ok (.goto 10, 3) := by decide +kernel
theorem dX12_reckonsTo_78 : decode cX12_reckonsTo 78 = .ok (.aload_n 0, 1) := by decide +kernel
theorem dX12_reckonsTo_79 : decode cX12_reckonsTo 79 = .ok (.getfield 68, 3) := by decide +kernel
theorem dX12_reckonsTo_82 : decode cX12_reckonsTo 82 = .ok (.iload 7, 2) := by decide +kernel
theorem dX12_reckonsTo_84 : decode cX12_reckonsTo 84 = .ok (.iaload, 1) := by decide +kernel
theorem dX12_reckonsTo_85 : decode cX12_reckonsTo 85 = .ok (.iastore, 1) := by decide +kernel
theorem dX12_reckonsTo_86 : decode cX12_reckonsTo 86 = .ok (.iload_n 3, 1) := by decide +kernel
theorem dX12_reckonsTo_87 : decode cX12_reckonsTo 87 = .ok (.iconst 1, 1) := by decide +kernel
theorem dX12_reckonsTo_88 : decode cX12_reckonsTo 88 = .ok (.iadd, 1) := by decide +kernel
theorem dX12_reckonsTo_89 : decode cX12_reckonsTo 89 = .ok (.istore_n 3, 1) := by decide +kernel
theorem dX12_reckonsTo_90 : decode cX12_reckonsTo 90 = .ok (.goto 140, 3) := by decide +kernel
theorem dX12_reckonsTo_93 : decode cX12_reckonsTo 93 = .ok (.iload 6, 2) := by decide +kernel
theorem dX12_reckonsTo_95 : decode cX12_reckonsTo 95 = .ok (.bipush 10, 2) := by decide +kernel
theorem dX12_reckonsTo_97 : decode cX12_reckonsTo 97 = .ok (.if_icmp .ne 24, 3) := by decide +kernel
theorem dX12_reckonsTo_100 : decode cX12_reckonsTo 100 = .ok (.aload_n 0, 1) := by decide +kernel
theorem dX12_reckonsTo_101 : decode cX12_reckonsTo 101 = .ok (.getfield 65, 3) := by decide +kernel
theorem dX12_reckonsTo_104 : decode cX12_reckonsTo 104 = .ok (.iload_n 3, 1) := by decide +kernel
theorem dX12_reckonsTo_105 : decode cX12_reckonsTo 105 = .ok (.iconst 1, 1) := by decide +kernel
theorem dX12_reckonsTo_106 : decode cX12_reckonsTo 106 = .ok (.isub, 1) := by decide +kernel
theorem dX12_reckonsTo_107 : decode cX12_reckonsTo 107 = .ok (.iconst 1, 1) := by decide +kernel
theorem dX12_reckonsTo_108 : decode cX12_reckonsTo 108 = .ok (.aload_n 0, 1) := by decide +kernel
theorem dX12_reckonsTo_109 : decode cX12_reckonsTo 109 = .ok (.getfield 65, 3) := by decide +kernel
theorem dX12_reckonsTo_112 : decode cX12_reckonsTo 112 = .ok (.iload_n 3, 1) := by decide +kernel
theorem dX12_reckonsTo_113 : decode cX12_reckonsTo 113 = .ok (.iconst 1, 1) := by decide +kernel
theorem dX12_reckonsTo_114 : decode cX12_reckonsTo 114 = .ok (.isub, 1) := by decide +kernel
theorem dX12_reckonsTo_115 : decode cX12_reckonsTo 115 = .ok (.iaload, 1) := by decide +kernel
theorem dX12_reckonsTo_116 : decode cX12_reckonsTo 116 = .ok (.isub, 1) := by decide +kernel
theorem dX12_reckonsTo_117 : decode cX12_reckonsTo 117 = .ok (.iastore, 1) := by decide +kernel
theorem dX12_reckonsTo_118 : decode cX12_reckonsTo 118 = .ok (.goto 112, 3) := by decide +kernel
theorem dX12_reckonsTo_121 : decode cX12_reckonsTo 121 = .ok (.iload 6, 2) := by decide +kernel
theorem dX12_reckonsTo_123 : decode cX12_reckonsTo 123 = .ok (.bipush 11, 2) := by decide +kernel
theorem dX12_reckonsTo_125 : decode cX12_reckonsTo 125 = .ok (.if_icmp .eq 10, 3) := by decide +kernel
theorem dX12_reckonsTo_128 : decode cX12_reckonsTo 128 = .ok (.iload 6, 2) := by decide +kernel
theorem dX12_reckonsTo_130 : decode cX12_reckonsTo 130 = .ok (.bipush 12, 2) := by decide +kernel
theorem dX12_reckonsTo_132 : decode cX12_reckonsTo 132 = .ok (.if_icmp .ne 43, 3) := by decide +kernel
theorem dX12_reckonsTo_135 : decode cX12_reckonsTo 135 = .ok (.aload_n 0, 1) := by decide +kernel
theorem dX12_reckonsTo_136 : decode cX12_reckonsTo 136 = .ok (.getfield 65, 3) := by decide +kernel
theorem dX12_reckonsTo_139 : decode cX12_reckonsTo 139 = .ok (.iload_n 3, 1) := by decide +kernel
theorem dX12_reckonsTo_140 : decode cX12_reckonsTo 140 = .ok (.iconst 1, 1) := by decide +kernel
theorem dX12_reckonsTo_141 : decode cX12_reckonsTo 141 = .ok (.isub, 1) := by decide +kernel
theorem dX12_reckonsTo_142 : decode cX12_reckonsTo 142 = .ok (.iaload, 1) := by decide +kernel
theorem dX12_reckonsTo_143 : decode cX12_reckonsTo 143 = .ok (.iload 6, 2) := by decide +kernel
theorem dX12_reckonsTo_145 : decode cX12_reckonsTo 145 = .ok (.bipush 12, 2) := by decide +kernel
theorem dX12_reckonsTo_147 : decode cX12_reckonsTo 147 = .ok (.if_icmp .ne 7, 3) := by decide +kernel
theorem dX12_reckonsTo_150 : decode cX12_reckonsTo 150 = .ok (.iconst 1, 1) := by decide +kernel
theorem dX12_reckonsTo_151 : decode cX12_reckonsTo 151 = .ok (.goto 4, 3) := by decide +kernel
theorem dX12_reckonsTo_154 : decode cX12_reckonsTo 154 = .ok (.iconst 0, 1) := by decide +kernel
theorem dX12_reckonsTo_155 : decode cX12_reckonsTo 155 = .ok (.if_icmp .ne 13, 3) := by decide +kernel
theorem dX12_reckonsTo_158 : decode cX12_reckonsTo 158 = .ok (.iload 4, 2) := by decide +kernel
theorem dX12_reckonsTo_160 : decode cX12_reckonsTo 160 = .ok (.iload 7, 2) := by decide +kernel
theorem dX12_reckonsTo_162 : decode cX12_reckonsTo 162 = .ok (.iadd, 1) := by decide +kernel
theorem dX12_reckonsTo_163 : decode cX12_reckonsTo 163 = .ok (.istore 5, 2) := by decide +kernel
theorem dX12_reckonsTo_165 : decode cX12_reckonsTo 165 = .ok (.goto 65, 3) := by decide +kernel
theorem dX12_reckonsTo_168 : decode cX12_reckonsTo 168 = .ok (.iload_n 3, 1) := by decide +kernel
theorem dX12_reckonsTo_169 : decode cX12_reckonsTo 169 = .ok (.iconst 1, 1) := by decide +kernel
theorem dX12_reckonsTo_170 : decode cX12_reckonsTo 170 = .ok (.isub, 1) := by decide +kernel
theorem dX12_reckonsTo_171 : decode cX12_reckonsTo 171 = .ok (.istore_n 3, 1) := by decide +kernel
theorem dX12_reckonsTo_172 : decode cX12_reckonsTo 172 = .ok (.goto 58, 3) := by decide +kernel
theorem dX12_reckonsTo_175 : decode cX12_reckonsTo 175 = .ok (.iload_n 3, 1) := by decide +kernel
theorem dX12_reckonsTo_176 : decode cX12_reckonsTo 176 = .ok (.iconst 1, 1) := by decide +kernel
theorem dX12_reckonsTo_177 : decode cX12_reckonsTo 177 = .ok (.isub, 1) := by decide +kernel
theorem dX12_reckonsTo_178 : decode cX12_reckonsTo 178 = .ok (.istore_n 3, 1) := by decide +kernel
theorem dX12_reckonsTo_179 : decode cX12_reckonsTo 179 = .ok (.iload 6, 2) := by decide +kernel
theorem dX12_reckonsTo_181 : decode cX12_reckonsTo 181 = .ok (.iconst 5, 1) := by decide +kernel
theorem dX12_reckonsTo_182 : decode cX12_reckonsTo 182 = .ok (.if_icmp .eq 10, 3) := by decide +kernel
theorem dX12_reckonsTo_185 : decode cX12_reckonsTo 185 = .ok (.iload 6, 2) := by decide +kernel
theorem dX12_reckonsTo_187 : decode cX12_reckonsTo 187 = .ok (.bipush 6, 2) := by decide +kernel
theorem dX12_reckonsTo_189 : decode cX12_reckonsTo 189 = .ok (.if_icmp .ne 14, 3) := by decide +kernel
theorem dX12_reckonsTo_192 : decode cX12_reckonsTo 192 = .ok (.aload_n 0, 1) := by decide +kernel
theorem dX12_reckonsTo_193 : decode cX12_reckonsTo 193 = .ok (.getfield 65, 3) := by decide +kernel
theorem dX12_reckonsTo_196 : decode cX12_reckonsTo 196 = .ok (.iload_n 3, 1) := by decide +kernel
theorem dX12_reckonsTo_197 : decode cX12_reckonsTo 197 = .ok (.iaload, 1) := by decide +kernel
theorem dX12_reckonsTo_198 : decode cX12_reckonsTo 198 = .ok (.ifCond .ne 5, 3) := by decide +kernel
theorem dX12_reckonsTo_201 : decode cX12_reckonsTo 201 = .ok (.iconst 0, 1) := by decide +kernel
theorem dX12_reckonsTo_202 : decode cX12_reckonsTo 202 = .ok (.ireturn, 1) := by decide +kernel
theorem dX12_reckonsTo_203 : decode cX12_reckonsTo 203 = .ok (.aload_n 0, 1) := by decide +kernel
theorem dX12_reckonsTo_204 : decode cX12_reckonsTo 204 = .ok (.getfield 65, 3) := by decide +kernel
theorem dX12_reckonsTo_207 : decode cX12_reckonsTo 207 = .ok (.iload_n 3, 1) := by decide +kernel
theorem dX12_reckonsTo_208 : decode cX12_reckonsTo 208 = .ok (.iconst 1, 1) := by decide +kernel
theorem dX12_reckonsTo_209 : decode cX12_reckonsTo 209 = .ok (.isub, 1) := by decide +kernel
theorem dX12_reckonsTo_210 : decode cX12_reckonsTo 210 = .ok (.iload 6, 2) := by decide +kernel
theorem dX12_reckonsTo_212 : decode cX12_reckonsTo 212 = .ok (.aload_n 0, 1) := by decide +kernel
theorem dX12_reckonsTo_213 : decode cX12_reckonsTo 213 = .ok (.getfield 65, 3) := by decide +kernel
theorem dX12_reckonsTo_216 : decode cX12_reckonsTo 216 = .ok (.iload_n 3, 1) := by decide +kernel
theorem dX12_reckonsTo_217 : decode cX12_reckonsTo 217 = .ok (.iconst 1, 1) := by decide +kernel
theorem dX12_reckonsTo_218 : decode cX12_reckonsTo 218 = .ok (.isub, 1) := by decide +kernel
theorem dX12_reckonsTo_219 : decode cX12_reckonsTo 219 = .ok (.iaload, 1) := by decide +kernel
theorem dX12_reckonsTo_220 : decode cX12_reckonsTo 220 = .ok (.aload_n 0, 1) := by decide +kernel
theorem dX12_reckonsTo_221 : decode cX12_reckonsTo 221 = .ok (.getfield 65, 3) := by decide +kernel
theorem dX12_reckonsTo_224 : decode cX12_reckonsTo 224 = .ok (.iload_n 3, 1) := by decide +kernel
theorem dX12_reckonsTo_225 : decode cX12_reckonsTo 225 = .ok (.iaload, 1) := by decide +kernel
theorem dX12_reckonsTo_226 : decode cX12_reckonsTo 226 = .ok (.invokestatic 245, 3) := by decide +kernel
theorem dX12_reckonsTo_229 : decode cX12_reckonsTo 229 = .ok (.iastore, 1) := by decide +kernel
theorem dX12_reckonsTo_230 : decode cX12_reckonsTo 230 = .ok (.goto (-214), 3) := by decide +kernel
theorem dX12_reckonsTo_233 : decode cX12_reckonsTo 233 = .ok (.aload_n 0, 1) := by decide +kernel
theorem dX12_reckonsTo_234 : decode cX12_reckonsTo 234 = .ok (.getfield 65, 3) := by decide +kernel
theorem dX12_reckonsTo_237 : decode cX12_reckonsTo 237 = .ok (.iconst 0, 1) := by decide +kernel
theorem dX12_reckonsTo_238 : decode cX12_reckonsTo 238 = .ok (.iaload, 1) := by decide +kernel
theorem dX12_reckonsTo_239 : decode cX12_reckonsTo 239 = .ok (.ireturn, 1) := by decide +kernel
theorem dX12_byLaw_0 : decode cX12_byLaw 0 = .ok (.iconst 0, 1) := by decide +kernel
theorem dX12_byLaw_1 : decode cX12_byLaw 1 = .ok (.istore 4, 2) := by decide +kernel
theorem dX12_byLaw_3 : decode cX12_byLaw 3 = .ok (.iload 4, 2) := by decide +kernel
theorem dX12_byLaw_5 : decode cX12_byLaw 5 = .ok (.aload_n 0, 1) := by decide +kernel
theorem dX12_byLaw_6 : decode cX12_byLaw 6 = .ok (.getfield 242, 3) := by decide +kernel
theorem dX12_byLaw_9 : decode cX12_byLaw 9 = .ok (.if_icmp .ge 87, 3) := by decide +kernel
theorem dX12_byLaw_12 : decode cX12_byLaw 12 = .ok (.aload_n 0, 1) := by decide +kernel
theorem dX12_byLaw_13 : decode cX12_byLaw 13 = .ok (.getfield 53, 3) := by decide +kernel
theorem dX12_byLaw_16 : decode cX12_byLaw 16 = .ok (.iload 4, 2) := by decide +kernel
theorem dX12_byLaw_18 : decode cX12_byLaw 18 = .ok (.iaload, 1) := by decide +kernel
theorem dX12_byLaw_19 : decode cX12_byLaw 19 = .ok (.iload_n 1, 1) := by decide +kernel
theorem dX12_byLaw_20 : decode cX12_byLaw 20 = .ok (.if_icmp .ne 70, 3) := by decide +kernel
theorem dX12_byLaw_23 : decode cX12_byLaw 23 = .ok (.aload_n 0, 1) := by decide +kernel
theorem dX12_byLaw_24 : decode cX12_byLaw 24 = .ok (.aload_n 0, 1) := by decide +kernel
theorem dX12_byLaw_25 : decode cX12_byLaw 25 = .ok (.getfield 59, 3) := by decide +kernel
theorem dX12_byLaw_28 : decode cX12_byLaw 28 = .ok (.iload 4, 2) := by decide +kernel
theorem dX12_byLaw_30 : decode cX12_byLaw 30 = .ok (.iaload, 1) := by decide +kernel
theorem dX12_byLaw_31 : decode cX12_byLaw 31 = .ok (.aload_n 0, 1) := by decide +kernel
theorem dX12_byLaw_32 : decode cX12_byLaw 32 = .ok (.getfield 62, 3) := by decide +kernel
theorem dX12_byLaw_35 : decode cX12_byLaw 35 = .ok (.iload 4, 2) := by decide +kernel
theorem dX12_byLaw_37 : decode cX12_byLaw 37 = .ok (.iaload, 1) := by decide +kernel
theorem dX12_byLaw_38 : decode cX12_byLaw 38 = .ok (.invokevirtual 248, 3) := by decide +kernel
theorem dX12_byLaw_41 : decode cX12_byLaw 41 = .ok (.iconst 1, 1) := by decide +kernel
theorem dX12_byLaw_42 : decode cX12_byLaw 42 = .ok (.if_icmp .eq 6, 3) := by decide +kernel
theorem dX12_byLaw_45 : decode cX12_byLaw 45 = .ok (.goto 45, 3) := by decide +kernel
theorem dX12_byLaw_48 : decode cX12_byLaw 48 = .ok (.aload_n 0, 1) := by decide +kernel
theorem dX12_byLaw_49 : decode cX12_byLaw 49 = .ok (.aload_n 0, 1) := by decide +kernel
