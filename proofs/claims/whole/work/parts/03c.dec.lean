theorem dX13_goesOn_122 : decode cX13_goesOn 122 = .ok (.lmul, 1) := by decide +kernel
theorem dX13_goesOn_123 : decode cX13_goesOn 123 = .ok (.aload_n 0, 1) := by decide +kernel
theorem dX13_goesOn_124 : decode cX13_goesOn 124 = .ok (.aload_n 0, 1) := by decide +kernel
theorem dX13_goesOn_125 : decode cX13_goesOn 125 = .ok (.getfield 103, 3) := by decide +kernel
theorem dX13_goesOn_128 : decode cX13_goesOn 128 = .ok (.invokevirtual 106, 3) := by decide +kernel
theorem dX13_goesOn_131 : decode cX13_goesOn 131 = .ok (.bipush 97, 2) := by decide +kernel
theorem dX13_goesOn_133 : decode cX13_goesOn 133 = .ok (.isub, 1) := by decide +kernel
theorem dX13_goesOn_134 : decode cX13_goesOn 134 = .ok (.iconst 1, 1) := by decide +kernel
theorem dX13_goesOn_135 : decode cX13_goesOn 135 = .ok (.iadd, 1) := by decide +kernel
theorem dX13_goesOn_136 : decode cX13_goesOn 136 = .ok (.i2l, 1) := by decide +kernel
theorem dX13_goesOn_137 : decode cX13_goesOn 137 = .ok (.ladd, 1) := by decide +kernel
theorem dX13_goesOn_138 : decode cX13_goesOn 138 = .ok (.putfield 119, 3) := by decide +kernel
theorem dX13_goesOn_141 : decode cX13_goesOn 141 = .ok (.aload_n 0, 1) := by decide +kernel
theorem dX13_goesOn_142 : decode cX13_goesOn 142 = .ok (.dup, 1) := by decide +kernel
theorem dX13_goesOn_143 : decode cX13_goesOn 143 = .ok (.getfield 123, 3) := by decide +kernel
theorem dX13_goesOn_146 : decode cX13_goesOn 146 = .ok (.iconst 1, 1) := by decide +kernel
theorem dX13_goesOn_147 : decode cX13_goesOn 147 = .ok (.aload_n 0, 1) := by decide +kernel
theorem dX13_goesOn_148 : decode cX13_goesOn 148 = .ok (.aload_n 0, 1) := by decide +kernel
theorem dX13_goesOn_149 : decode cX13_goesOn 149 = .ok (.getfield 103, 3) := by decide +kernel
theorem dX13_goesOn_152 : decode cX13_goesOn 152 = .ok (.invokevirtual 106, 3) := by decide +kernel
theorem dX13_goesOn_155 : decode cX13_goesOn 155 = .ok (.bipush 97, 2) := by decide +kernel
theorem dX13_goesOn_157 : decode cX13_goesOn 157 = .ok (.isub, 1) := by decide +kernel
theorem dX13_goesOn_158 : decode cX13_goesOn 158 = .ok (.ishl, 1) := by decide +kernel
theorem dX13_goesOn_159 : decode cX13_goesOn 159 = .ok (.ior, 1) := by decide +kernel
theorem dX13_goesOn_160 : decode cX13_goesOn 160 = .ok (.putfield 123, 3) := by decide +kernel
theorem dX13_goesOn_163 : decode cX13_goesOn 163 = .ok (.iinc 2 1, 3) := by decide +kernel
theorem dX13_goesOn_166 : decode cX13_goesOn 166 = .ok (.aload_n 0, 1) := by decide +kernel
theorem dX13_goesOn_167 : decode cX13_goesOn 167 = .ok (.dup, 1) := by decide +kernel
theorem dX13_goesOn_168 : decode cX13_goesOn 168 = .ok (.getfield 103, 3) := by decide +kernel
theorem dX13_goesOn_171 : decode cX13_goesOn 171 = .ok (.iconst 1, 1) := by decide +kernel
theorem dX13_goesOn_172 : decode cX13_goesOn 172 = .ok (.iadd, 1) := by decide +kernel
theorem dX13_goesOn_173 : decode cX13_goesOn 173 = .ok (.putfield 103, 3) := by decide +kernel
theorem dX13_goesOn_176 : decode cX13_goesOn 176 = .ok (.goto (-82), 3) := by decide +kernel
theorem dX13_goesOn_179 : decode cX13_goesOn 179 = .ok (.iload_n 2, 1) := by decide +kernel
theorem dX13_goesOn_180 : decode cX13_goesOn 180 = .ok (.bipush 8, 2) := by decide +kernel
theorem dX13_goesOn_182 : decode cX13_goesOn 182 = .ok (.if_icmp .gt 126, 3) := by decide +kernel
theorem dX13_goesOn_185 : decode cX13_goesOn 185 = .ok (.aload_n 0, 1) := by decide +kernel
theorem dX13_goesOn_186 : decode cX13_goesOn 186 = .ok (.iconst 2, 1) := by decide +kernel
theorem dX13_goesOn_187 : decode cX13_goesOn 187 = .ok (.putfield 100, 3) := by decide +kernel
theorem dX13_goesOn_190 : decode cX13_goesOn 190 = .ok (.goto 118, 3) := by decide +kernel
theorem dX13_goesOn_193 : decode cX13_goesOn 193 = .ok (.iload_n 1, 1) := by decide +kernel
theorem dX13_goesOn_194 : decode cX13_goesOn 194 = .ok (.invokestatic 126, 3) := by decide +kernel
theorem dX13_goesOn_197 : decode cX13_goesOn 197 = .ok (.ifCond .eq 79, 3) := by decide +kernel
theorem dX13_goesOn_200 : decode cX13_goesOn 200 = .ok (.aload_n 0, 1) := by decide +kernel
theorem dX13_goesOn_201 : decode cX13_goesOn 201 = .ok (.iconst 0, 1) := by decide +kernel
theorem dX13_goesOn_202 : decode cX13_goesOn 202 = .ok (.putfield 129, 3) := by decide +kernel
theorem dX13_goesOn_205 : decode cX13_goesOn 205 = .ok (.aload_n 0, 1) := by decide +kernel
theorem dX13_goesOn_206 : decode cX13_goesOn 206 = .ok (.aload_n 0, 1) := by decide +kernel
theorem dX13_goesOn_207 : decode cX13_goesOn 207 = .ok (.getfield 103, 3) := by decide +kernel
theorem dX13_goesOn_210 : decode cX13_goesOn 210 = .ok (.invokevirtual 106, 3) := by decide +kernel
theorem dX13_goesOn_213 : decode cX13_goesOn 213 = .ok (.invokestatic 126, 3) := by decide +kernel
theorem dX13_goesOn_216 : decode cX13_goesOn 216 = .ok (.ifCond .eq 47, 3) := by decide +kernel
theorem dX13_goesOn_219 : decode cX13_goesOn 219 = .ok (.iload_n 2, 1) := by decide +kernel
theorem dX13_goesOn_220 : decode cX13_goesOn 220 = .ok (.iconst 3, 1) := by decide +kernel
theorem dX13_goesOn_221 : decode cX13_goesOn 221 = .ok (.if_icmp .ge 26, 3) := by decide +kernel
theorem dX13_goesOn_224 : decode cX13_goesOn 224 = .ok (.aload_n 0, 1) := by decide +kernel
theorem dX13_goesOn_225 : decode cX13_goesOn 225 = .ok (.bipush 10, 2) := by decide +kernel
theorem dX13_goesOn_227 : decode cX13_goesOn 227 = .ok (.aload_n 0, 1) := by decide +kernel
theorem dX13_goesOn_228 : decode cX13_goesOn 228 = .ok (.getfield 129, 3) := by decide +kernel
theorem dX13_goesOn_231 : decode cX13_goesOn 231 = .ok (.imul, 1) := by decide +kernel
theorem dX13_goesOn_232 : decode cX13_goesOn 232 = .ok (.aload_n 0, 1) := by decide +kernel
theorem dX13_goesOn_233 : decode cX13_goesOn 233 = .ok (.aload_n 0, 1) := by decide +kernel
theorem dX13_goesOn_234 : decode cX13_goesOn 234 = .ok (.getfield 103, 3) := by decide +kernel
theorem dX13_goesOn_237 : decode cX13_goesOn 237 = .ok (.invokevirtual 106, 3) := by decide +kernel
theorem dX13_goesOn_240 : decode cX13_goesOn 240 = .ok (.iadd, 1) := by decide +kernel
theorem dX13_goesOn_241 : decode cX13_goesOn 241 = .ok (.bipush 48, 2) := by decide +kernel
theorem dX13_goesOn_243 : decode cX13_goesOn 243 = .ok (.isub, 1) := by decide +kernel
theorem dX13_goesOn_244 : decode cX13_goesOn 244 = .ok (.putfield 129, 3) := by decide +kernel
theorem dX13_goesOn_247 : decode cX13_goesOn 247 = .ok (.iinc 2 1, 3) := by decide +kernel
theorem dX13_goesOn_250 : decode cX13_goesOn 250 = .ok (.aload_n 0, 1) := by decide +kernel
theorem dX13_goesOn_251 : decode cX13_goesOn 251 = .ok (.dup, 1) := by decide +kernel
theorem dX13_goesOn_252 : decode cX13_goesOn 252 = .ok (.getfield 103, 3) := by decide +kernel
theorem dX13_goesOn_255 : decode cX13_goesOn 255 = .ok (.iconst 1, 1) := by decide +kernel
theorem dX13_goesOn_256 : decode cX13_goesOn 256 = .ok (.iadd, 1) := by decide +kernel
theorem dX13_goesOn_257 : decode cX13_goesOn 257 = .ok (.putfield 103, 3) := by decide +kernel
theorem dX13_goesOn_260 : decode cX13_goesOn 260 = .ok (.goto (-55), 3) := by decide +kernel
theorem dX13_goesOn_263 : decode cX13_goesOn 263 = .ok (.iload_n 2, 1) := by decide +kernel
theorem dX13_goesOn_264 : decode cX13_goesOn 264 = .ok (.iconst 3, 1) := by decide +kernel
theorem dX13_goesOn_265 : decode cX13_goesOn 265 = .ok (.if_icmp .gt 43, 3) := by decide +kernel
theorem dX13_goesOn_268 : decode cX13_goesOn 268 = .ok (.aload_n 0, 1) := by decide +kernel
theorem dX13_goesOn_269 : decode cX13_goesOn 269 = .ok (.iconst 3, 1) := by decide +kernel
theorem dX13_goesOn_270 : decode cX13_goesOn 270 = .ok (.putfield 100, 3) := by decide +kernel
theorem dX13_goesOn_273 : decode cX13_goesOn 273 = .ok (.goto 35, 3) := by decide +kernel
theorem dX13_goesOn_276 : decode cX13_goesOn 276 = .ok (.iload_n 1, 1) := by decide +kernel
theorem dX13_goesOn_277 : decode cX13_goesOn 277 = .ok (.bipush 59, 2) := by decide +kernel
theorem dX13_goesOn_279 : decode cX13_goesOn 279 = .ok (.if_icmp .eq 9, 3) := by decide +kernel
theorem dX13_goesOn_282 : decode cX13_goesOn 282 = .ok (.iload_n 1, 1) := by decide +kernel
theorem dX13_goesOn_283 : decode cX13_goesOn 283 = .ok (.bipush 44, 2) := by decide +kernel
theorem dX13_goesOn_285 : decode cX13_goesOn 285 = .ok (.if_icmp .ne 23, 3) := by decide +kernel
theorem dX13_goesOn_288 : decode cX13_goesOn 288 = .ok (.aload_n 0, 1) := by decide +kernel
theorem dX13_goesOn_289 : decode cX13_goesOn 289 = .ok (.iconst 4, 1) := by decide +kernel
theorem dX13_goesOn_290 : decode cX13_goesOn 290 = .ok (.putfield 100, 3) := by decide +kernel
theorem dX13_goesOn_293 : decode cX13_goesOn 293 = .ok (.aload_n 0, 1) := by decide +kernel
theorem dX13_goesOn_294 : decode cX13_goesOn 294 = .ok (.iload_n 1, 1) := by decide +kernel
theorem dX13_goesOn_295 : decode cX13_goesOn 295 = .ok (.putfield 112, 3) := by decide +kernel
theorem dX13_goesOn_298 : decode cX13_goesOn 298 = .ok (.aload_n 0, 1) := by decide +kernel
theorem dX13_goesOn_299 : decode cX13_goesOn 299 = .ok (.dup, 1) := by decide +kernel
theorem dX13_goesOn_300 : decode cX13_goesOn 300 = .ok (.getfield 103, 3) := by decide +kernel
theorem dX13_goesOn_303 : decode cX13_goesOn 303 = .ok (.iconst 1, 1) := by decide +kernel
theorem dX13_goesOn_304 : decode cX13_goesOn 304 = .ok (.iadd, 1) := by decide +kernel
theorem dX13_goesOn_305 : decode cX13_goesOn 305 = .ok (.putfield 103, 3) := by decide +kernel
theorem dX13_goesOn_308 : decode cX13_goesOn 308 = .ok (.return_, 1) := by decide +kernel
theorem dX13_wrong_0 : decode cX13_wrong 0 = .ok (.aload_n 0, 1) := by decide +kernel
theorem dX13_wrong_1 : decode cX13_wrong 1 = .ok (.getfield 100, 3) := by decide +kernel
theorem dX13_wrong_4 : decode cX13_wrong 4 = .ok (.iconst 5, 1) := by decide +kernel
theorem dX13_wrong_5 : decode cX13_wrong 5 = .ok (.if_icmp .ne 4, 3) := by decide +kernel
theorem dX13_wrong_8 : decode cX13_wrong 8 = .ok (.return_, 1) := by decide +kernel
theorem dX13_wrong_9 : decode cX13_wrong 9 = .ok (.aload_n 0, 1) := by decide +kernel
theorem dX13_wrong_10 : decode cX13_wrong 10 = .ok (.iload_n 1, 1) := by decide +kernel
theorem dX13_wrong_11 : decode cX13_wrong 11 = .ok (.putfield 132, 3) := by decide +kernel
theorem dX13_wrong_14 : decode cX13_wrong 14 = .ok (.aload_n 0, 1) := by decide +kernel
theorem dX13_wrong_15 : decode cX13_wrong 15 = .ok (.aload_n 0, 1) := by decide +kernel
theorem dX13_wrong_16 : decode cX13_wrong 16 = .ok (.getfield 109, 3) := by decide +kernel
theorem dX13_wrong_19 : decode cX13_wrong 19 = .ok (.putfield 135, 3) := by decide +kernel
theorem dX13_wrong_22 : decode cX13_wrong 22 = .ok (.aload_n 0, 1) := by decide +kernel
theorem dX13_wrong_23 : decode cX13_wrong 23 = .ok (.iconst 5, 1) := by decide +kernel
theorem dX13_wrong_24 : decode cX13_wrong 24 = .ok (.putfield 100, 3) := by decide +kernel
theorem dX13_wrong_27 : decode cX13_wrong 27 = .ok (.return_, 1) := by decide +kernel
theorem dX13_isWord_0 : decode cX13_isWord 0 = .ok (.aload_n 0, 1) := by decide +kernel
theorem dX13_isWord_1 : decode cX13_isWord 1 = .ok (.getfield 100, 3) := by decide +kernel
theorem dX13_isWord_4 : decode cX13_isWord 4 = .ok (.iconst 2, 1) := by decide +kernel
theorem dX13_isWord_5 : decode cX13_isWord 5 = .ok (.if_icmp .ne 19, 3) := by decide +kernel
theorem dX13_isWord_8 : decode cX13_isWord 8 = .ok (.aload_n 0, 1) := by decide +kernel
theorem dX13_isWord_9 : decode cX13_isWord 9 = .ok (.getfield 119, 3) := by decide +kernel
theorem dX13_isWord_12 : decode cX13_isWord 12 = .ok (.aload_n 1, 1) := by decide +kernel
theorem dX13_isWord_13 : decode cX13_isWord 13 = .ok (.invokestatic 138, 3) := by decide +kernel
theorem dX13_isWord_16 : decode cX13_isWord 16 = .ok (.lcmp, 1) := by decide +kernel
theorem dX13_isWord_17 : decode cX13_isWord 17 = .ok (.ifCond .ne 7, 3) := by decide +kernel
theorem dX13_isWord_20 : decode cX13_isWord 20 = .ok (.iconst 1, 1) := by decide +kernel
theorem dX13_isWord_21 : decode cX13_isWord 21 = .ok (.goto 4, 3) := by decide +kernel
theorem dX13_isWord_24 : decode cX13_isWord 24 = .ok (.iconst 0, 1) := by decide +kernel
theorem dX13_isWord_25 : decode cX13_isWord 25 = .ok (.ireturn, 1) := by decide +kernel
theorem dX13_eatsWord_0 : decode cX13_eatsWord 0 = .ok (.aload_n 0, 1) := by decide +kernel
theorem dX13_eatsWord_1 : decode cX13_eatsWord 1 = .ok (.aload_n 1, 1) := by decide +kernel
theorem dX13_eatsWord_2 : decode cX13_eatsWord 2 = .ok (.invokevirtual 142, 3) := by decide +kernel
theorem dX13_eatsWord_5 : decode cX13_eatsWord 5 = .ok (.istore_n 2, 1) := by decide +kernel
theorem dX13_eatsWord_6 : decode cX13_eatsWord 6 = .ok (.iload_n 2, 1) := by decide +kernel
theorem dX13_eatsWord_7 : decode cX13_eatsWord 7 = .ok (.ifCond .eq 7, 3) := by decide +kernel
theorem dX13_eatsWord_10 : decode cX13_eatsWord 10 = .ok (.aload_n 0, 1) := by decide +kernel
theorem dX13_eatsWord_11 : decode cX13_eatsWord 11 = .ok (.invokevirtual 146, 3) := by decide +kernel
theorem dX13_eatsWord_14 : decode cX13_eatsWord 14 = .ok (.iload_n 2, 1) := by decide +kernel
theorem dX13_eatsWord_15 : decode cX13_eatsWord 15 = .ok (.ireturn, 1) := by decide +kernel
theorem dX13_eatsSign_0 : decode cX13_eatsSign 0 = .ok (.aload_n 0, 1) := by decide +kernel
theorem dX13_eatsSign_1 : decode cX13_eatsSign 1 = .ok (.getfield 100, 3) := by decide +kernel
theorem dX13_eatsSign_4 : decode cX13_eatsSign 4 = .ok (.iconst 4, 1) := by decide +kernel
theorem dX13_eatsSign_5 : decode cX13_eatsSign 5 = .ok (.if_icmp .ne 15, 3) := by decide +kernel
theorem dX13_eatsSign_8 : decode cX13_eatsSign 8 = .ok (.aload_n 0, 1) := by decide +kernel
theorem dX13_eatsSign_9 : decode cX13_eatsSign 9 = .ok (.getfield 112, 3) := by decide +kernel
theorem dX13_eatsSign_12 : decode cX13_eatsSign 12 = .ok (.iload_n 1, 1) := by decide +kernel
theorem dX13_eatsSign_13 : decode cX13_eatsSign 13 = .ok (.if_icmp .ne 7, 3) := by decide +kernel
theorem dX13_eatsSign_16 : decode cX13_eatsSign 16 = .ok (.iconst 1, 1) := by decide +kernel
theorem dX13_eatsSign_17 : decode cX13_eatsSign 17 = .ok (.goto 4, 3) := by decide +kernel
theorem dX13_eatsSign_20 : decode cX13_eatsSign 20 = .ok (.iconst 0, 1) := by decide +kernel
theorem dX13_eatsSign_21 : decode cX13_eatsSign 21 = .ok (.istore_n 2, 1) := by decide +kernel
theorem dX13_eatsSign_22 : decode cX13_eatsSign 22 = .ok (.iload_n 2, 1) := by decide +kernel
theorem dX13_eatsSign_23 : decode cX13_eatsSign 23 = .ok (.ifCond .eq 7, 3) := by decide +kernel
theorem dX13_eatsSign_26 : decode cX13_eatsSign 26 = .ok (.aload_n 0, 1) := by decide +kernel
theorem dX13_eatsSign_27 : decode cX13_eatsSign 27 = .ok (.invokevirtual 146, 3) := by decide +kernel
theorem dX13_eatsSign_30 : decode cX13_eatsSign 30 = .ok (.iload_n 2, 1) := by decide +kernel
theorem dX13_eatsSign_31 : decode cX13_eatsSign 31 = .ok (.ireturn, 1) := by decide +kernel
theorem dX13_needs_0 : decode cX13_needs 0 = .ok (.aload_n 0, 1) := by decide +kernel
theorem dX13_needs_1 : decode cX13_needs 1 = .ok (.aload_n 1, 1) := by decide +kernel
theorem dX13_needs_2 : decode cX13_needs 2 = .ok (.invokevirtual 142, 3) := by decide +kernel
theorem dX13_needs_5 : decode cX13_needs 5 = .ok (.ifCond .ne 8, 3) := by decide +kernel
theorem dX13_needs_8 : decode cX13_needs 8 = .ok (.aload_n 0, 1) := by decide +kernel
theorem dX13_needs_9 : decode cX13_needs 9 = .ok (.iconst 1, 1) := by decide +kernel
theorem dX13_needs_10 : decode cX13_needs 10 = .ok (.invokevirtual 149, 3) := by decide +kernel
theorem dX13_needs_13 : decode cX13_needs 13 = .ok (.aload_n 0, 1) := by decide +kernel
theorem dX13_needs_14 : decode cX13_needs 14 = .ok (.invokevirtual 146, 3) := by decide +kernel
theorem dX13_needs_17 : decode cX13_needs 17 = .ok (.return_, 1) := by decide +kernel
theorem dX13_readWhole_0 : decode cX13_readWhole 0 = .ok (.aload_n 0, 1) := by decide +kernel
theorem dX13_readWhole_1 : decode cX13_readWhole 1 = .ok (.getfield 100, 3) := by decide +kernel
theorem dX13_readWhole_4 : decode cX13_readWhole 4 = .ok (.iconst 3, 1) := by decide +kernel
theorem dX13_readWhole_5 : decode cX13_readWhole 5 = .ok (.if_icmp .eq 11, 3) := by decide +kernel
theorem dX13_readWhole_8 : decode cX13_readWhole 8 = .ok (.aload_n 0, 1) := by decide +kernel
theorem dX13_readWhole_9 : decode cX13_readWhole 9 = .ok (.iconst 1, 1) := by decide +kernel
theorem dX13_readWhole_10 : decode cX13_readWhole 10 = .ok (.invokevirtual 149, 3) := by decide +kernel
theorem dX13_readWhole_13 : decode cX13_readWhole 13 = .ok (.goto 20, 3) := by decide +kernel
theorem dX13_readWhole_16 : decode cX13_readWhole 16 = .ok (.aload_n 0, 1) := by decide +kernel
theorem dX13_readWhole_17 : decode cX13_readWhole 17 = .ok (.getfield 129, 3) := by decide +kernel
theorem dX13_readWhole_20 : decode cX13_readWhole 20 = .ok (.iload_n 1, 1) := by decide +kernel
theorem dX13_readWhole_21 : decode cX13_readWhole 21 = .ok (.iload_n 2, 1) := by decide +kernel
theorem dX13_readWhole_22 : decode cX13_readWhole 22 = .ok (.invokestatic 153, 3) := by decide +kernel
theorem dX13_readWhole_25 : decode cX13_readWhole 25 = .ok (.ifCond .ne 8, 3) := by decide +kernel
theorem dX13_readWhole_28 : decode cX13_readWhole 28 = .ok (.aload_n 0, 1) := by decide +kernel
theorem dX13_readWhole_29 : decode cX13_readWhole 29 = .ok (.iconst 4, 1) := by decide +kernel
theorem dX13_readWhole_30 : decode cX13_readWhole 30 = .ok (.invokevirtual 149, 3) := by decide +kernel
theorem dX13_readWhole_33 : decode cX13_readWhole 33 = .ok (.aload_n 0, 1) := by decide +kernel
theorem dX13_readWhole_34 : decode cX13_readWhole 34 = .ok (.getfield 129, 3) := by decide +kernel
theorem dX13_readWhole_37 : decode cX13_readWhole 37 = .ok (.istore_n 3, 1) := by decide +kernel
theorem dX13_readWhole_38 : decode cX13_readWhole 38 = .ok (.aload_n 0, 1) := by decide +kernel
theorem dX13_readWhole_39 : decode cX13_readWhole 39 = .ok (.invokevirtual 146, 3) := by decide +kernel
theorem dX13_readWhole_42 : decode cX13_readWhole 42 = .ok (.iload_n 3, 1) := by decide +kernel
theorem dX13_readWhole_43 : decode cX13_readWhole 43 = .ok (.ireturn, 1) := by decide +kernel
theorem dX13_readPart_0 : decode cX13_readPart 0 = .ok (.aload_n 0, 1) := by decide +kernel
theorem dX13_readPart_1 : decode cX13_readPart 1 = .ok (.aload_n 1, 1) := by decide +kernel
theorem dX13_readPart_2 : decode cX13_readPart 2 = .ok (.invokevirtual 157, 3) := by decide +kernel
theorem dX13_readPart_5 : decode cX13_readPart 5 = .ok (.aload_n 0, 1) := by decide +kernel
theorem dX13_readPart_6 : decode cX13_readPart 6 = .ok (.iload_n 2, 1) := by decide +kernel
theorem dX13_readPart_7 : decode cX13_readPart 7 = .ok (.iload_n 3, 1) := by decide +kernel
theorem dX13_readPart_8 : decode cX13_readPart 8 = .ok (.invokevirtual 161, 3) := by decide +kernel
theorem dX13_readPart_11 : decode cX13_readPart 11 = .ok (.ireturn, 1) := by decide +kernel
theorem dX13_readLetters_0 : decode cX13_readLetters 0 = .ok (.aload_n 0, 1) := by decide +kernel
theorem dX13_readLetters_1 : decode cX13_readLetters 1 = .ok (.getfield 100, 3) := by decide +kernel
theorem dX13_readLetters_4 : decode cX13_readLetters 4 = .ok (.iconst 2, 1) := by decide +kernel
theorem dX13_readLetters_5 : decode cX13_readLetters 5 = .ok (.if_icmp .eq 8, 3) := by decide +kernel
theorem dX13_readLetters_8 : decode cX13_readLetters 8 = .ok (.aload_n 0, 1) := by decide +kernel
theorem dX13_readLetters_9 : decode cX13_readLetters 9 = .ok (.iconst 1, 1) := by decide +kernel
theorem dX13_readLetters_10 : decode cX13_readLetters 10 = .ok (.invokevirtual 149, 3) := by decide +kernel
theorem dX13_readLetters_13 : decode cX13_readLetters 13 = .ok (.aload_n 0, 1) := by decide +kernel
theorem dX13_readLetters_14 : decode cX13_readLetters 14 = .ok (.getfield 123, 3) := by decide +kernel
theorem dX13_readLetters_17 : decode cX13_readLetters 17 = .ok (.istore_n 1, 1) := by decide +kernel
theorem dX13_readLetters_18 : decode cX13_readLetters 18 = .ok (.aload_n 0, 1) := by decide +kernel
theorem dX13_readLetters_19 : decode cX13_readLetters 19 = .ok (.invokevirtual 146, 3) := by decide +kernel
theorem dX13_readLetters_22 : decode cX13_readLetters 22 = .ok (.iload_n 1, 1) := by decide +kernel
theorem dX13_readLetters_23 : decode cX13_readLetters 23 = .ok (.ireturn, 1) := by decide +kernel
theorem dX13_isName_0 : decode cX13_isName 0 = .ok (.aload_n 0, 1) := by decide +kernel
theorem dX13_isName_1 : decode cX13_isName 1 = .ok (.getfield 100, 3) := by decide +kernel
theorem dX13_isName_4 : decode cX13_isName 4 = .ok (.iconst 2, 1) := by decide +kernel
theorem dX13_isName_5 : decode cX13_isName 5 = .ok (.if_icmp .ne 57, 3) := by decide +kernel
theorem dX13_isName_8 : decode cX13_isName 8 = .ok (.aload_n 0, 1) := by decide +kernel
theorem dX13_isName_9 : decode cX13_isName 9 = .ok (.ldc 165, 2) := by decide +kernel
theorem dX13_isName_11 : decode cX13_isName 11 = .ok (.invokevirtual 142, 3) := by decide +kernel
theorem dX13_isName_14 : decode cX13_isName 14 = .ok (.ifCond .ne 48, 3) := by decide +kernel
theorem dX13_isName_17 : decode cX13_isName 17 = .ok (.aload_n 0, 1) := by decide +kernel
theorem dX13_isName_18 : decode cX13_isName 18 = .ok (.ldc 167, 2) := by decide +kernel
theorem dX13_isName_20 : decode cX13_isName 20 = .ok (.invokevirtual 142, 3) := by decide +kernel
theorem dX13_isName_23 : decode cX13_isName 23 = .ok (.ifCond .ne 39, 3) := by decide +kernel
theorem dX13_isName_26 : decode cX13_isName 26 = .ok (.aload_n 0, 1) := by decide +kernel
theorem dX13_isName_27 : decode cX13_isName 27 = .ok (.ldc 169, 2) := by decide +kernel
theorem dX13_isName_29 : decode cX13_isName 29 = .ok (.invokevirtual 142, 3) := by decide +kernel
theorem dX13_isName_32 : decode cX13_isName 32 = .ok (.ifCond .ne 30, 3) := by decide +kernel
theorem dX13_isName_35 : decode cX13_isName 35 = .ok (.aload_n 0, 1) := by decide +kernel
theorem dX13_isName_36 : decode cX13_isName 36 = .ok (.ldc 171, 2) := by decide +kernel
theorem dX13_isName_38 : decode cX13_isName 38 = .ok (.invokevirtual 142, 3) := by decide +kernel
theorem dX13_isName_41 : decode cX13_isName 41 = .ok (.ifCond .ne 21, 3) := by decide +kernel
theorem dX13_isName_44 : decode cX13_isName 44 = .ok (.aload_n 0, 1) := by decide +kernel
theorem dX13_isName_45 : decode cX13_isName 45 = .ok (.ldc 173, 2) := by decide +kernel
theorem dX13_isName_47 : decode cX13_isName 47 = .ok (.invokevirtual 142, 3) := by decide +kernel
theorem dX13_isName_50 : decode cX13_isName 50 = .ok (.ifCond .ne 12, 3) := by decide +kernel
theorem dX13_isName_53 : decode cX13_isName 53 = .ok (.aload_n 0, 1) := by decide +kernel
theorem dX13_isName_54 : decode cX13_isName 54 = .ok (.ldc 175, 2) := by decide +kernel
theorem dX13_isName_56 : decode cX13_isName 56 = .ok (.invokevirtual 142, 3) := by decide +kernel
theorem dX13_isName_59 : decode cX13_isName 59 = .ok (.ifCond .eq 5, 3) := by decide +kernel
theorem dX13_isName_62 : decode cX13_isName 62 = .ok (.iconst 0, 1) := by decide +kernel
theorem dX13_isName_63 : decode cX13_isName 63 = .ok (.ireturn, 1) := by decide +kernel
theorem dX13_isName_64 : decode cX13_isName 64 = .ok (.aload_n 0, 1) := by decide +kernel
theorem dX13_isName_65 : decode cX13_isName 65 = .ok (.ldc 177, 2) := by decide +kernel
theorem dX13_isName_67 : decode cX13_isName 67 = .ok (.invokevirtual 142, 3) := by decide +kernel
theorem dX13_isName_70 : decode cX13_isName 70 = .ok (.ifCond .ne 43, 3) := by decide +kernel
theorem dX13_isName_73 : decode cX13_isName 73 = .ok (.aload_n 0, 1) := by decide +kernel
theorem dX13_isName_74 : decode cX13_isName 74 = .ok (.ldc 179, 2) := by decide +kernel
theorem dX13_isName_76 : decode cX13_isName 76 = .ok (.invokevirtual 142, 3) := by decide +kernel
theorem dX13_isName_79 : decode cX13_isName 79 = .ok (.ifCond .ne 34, 3) := by decide +kernel
theorem dX13_isName_82 : decode cX13_isName 82 = .ok (.aload_n 0, 1) := by decide +kernel
theorem dX13_isName_83 : decode cX13_isName 83 = .ok (.ldc 181, 2) := by decide +kernel
theorem dX13_isName_85 : decode cX13_isName 85 = .ok (.invokevirtual 142, 3) := by decide +kernel
theorem dX13_isName_88 : decode cX13_isName 88 = .ok (.ifCond .ne 25, 3) := by decide +kernel
theorem dX13_isName_91 : decode cX13_isName 91 = .ok (.aload_n 0, 1) := by decide +kernel
theorem dX13_isName_92 : decode cX13_isName 92 = .ok (.ldc 183, 2) := by decide +kernel
theorem dX13_isName_94 : decode cX13_isName 94 = .ok (.invokevirtual 142, 3) := by decide +kernel
theorem dX13_isName_97 : decode cX13_isName 97 = .ok (.ifCond .ne 16, 3) := by decide +kernel
theorem dX13_isName_100 : decode cX13_isName 100 = .ok (.aload_n 0, 1) := by decide +kernel
theorem dX13_isName_101 : decode cX13_isName 101 = .ok (.ldc 185, 2) := by decide +kernel
theorem dX13_isName_103 : decode cX13_isName 103 = .ok (.invokevirtual 142, 3) := by decide +kernel
theorem dX13_isName_106 : decode cX13_isName 106 = .ok (.ifCond .ne 7, 3) := by decide +kernel
theorem dX13_isName_109 : decode cX13_isName 109 = .ok (.iconst 1, 1) := by decide +kernel
theorem dX13_isName_110 : decode cX13_isName 110 = .ok (.goto 4, 3) := by decide +kernel
theorem dX13_isName_113 : decode cX13_isName 113 = .ok (.iconst 0, 1) := by decide +kernel
theorem dX13_isName_114 : decode cX13_isName 114 = .ok (.ireturn, 1) := by decide +kernel
theorem dX13_readNamed_0 : decode cX13_readNamed 0 = .ok (.iload_n 1, 1) := by decide +kernel
theorem dX13_readNamed_1 : decode cX13_readNamed 1 = .ok (.iload_n 2, 1) := by decide +kernel
theorem dX13_readNamed_2 : decode cX13_readNamed 2 = .ok (.if_icmp .ne 8, 3) := by decide +kernel
theorem dX13_readNamed_5 : decode cX13_readNamed 5 = .ok (.aload_n 0, 1) := by decide +kernel
theorem dX13_readNamed_6 : decode cX13_readNamed 6 = .ok (.iconst 5, 1) := by decide +kernel
theorem dX13_readNamed_7 : decode cX13_readNamed 7 = .ok (.invokevirtual 149, 3) := by decide +kernel
theorem dX13_readNamed_10 : decode cX13_readNamed 10 = .ok (.aload_n 0, 1) := by decide +kernel
theorem dX13_readNamed_11 : decode cX13_readNamed 11 = .ok (.invokevirtual 146, 3) := by decide +kernel
theorem dX13_readNamed_14 : decode cX13_readNamed 14 = .ok (.aload_n 0, 1) := by decide +kernel
theorem dX13_readNamed_15 : decode cX13_readNamed 15 = .ok (.invokevirtual 187, 3) := by decide +kernel
theorem dX13_readNamed_18 : decode cX13_readNamed 18 = .ok (.ifCond .ne 8, 3) := by decide +kernel
theorem dX13_readNamed_21 : decode cX13_readNamed 21 = .ok (.aload_n 0, 1) := by decide +kernel
theorem dX13_readNamed_22 : decode cX13_readNamed 22 = .ok (.iconst 1, 1) := by decide +kernel
theorem dX13_readNamed_23 : decode cX13_readNamed 23 = .ok (.invokevirtual 149, 3) := by decide +kernel
theorem dX13_readNamed_26 : decode cX13_readNamed 26 = .ok (.aload_n 0, 1) := by decide +kernel
theorem dX13_readNamed_27 : decode cX13_readNamed 27 = .ok (.getfield 191, 3) := by decide +kernel
theorem dX13_readNamed_30 : decode cX13_readNamed 30 = .ok (.aload_n 0, 1) := by decide +kernel
theorem dX13_readNamed_31 : decode cX13_readNamed 31 = .ok (.getfield 119, 3) := by decide +kernel
theorem dX13_readNamed_34 : decode cX13_readNamed 34 = .ok (.invokevirtual 195, 3) := by decide +kernel
theorem dX13_readNamed_37 : decode cX13_readNamed 37 = .ok (.iconst (-1), 1) := by decide +kernel
theorem dX13_readNamed_38 : decode cX13_readNamed 38 = .ok (.if_icmp .eq 8, 3) := by decide +kernel
theorem dX13_readNamed_41 : decode cX13_readNamed 41 = .ok (.aload_n 0, 1) := by decide +kernel
theorem dX13_readNamed_42 : decode cX13_readNamed 42 = .ok (.iconst 3, 1) := by decide +kernel
theorem dX13_readNamed_43 : decode cX13_readNamed 43 = .ok (.invokevirtual 149, 3) := by decide +kernel
theorem dX13_readNamed_46 : decode cX13_readNamed 46 = .ok (.aload_n 0, 1) := by decide +kernel
theorem dX13_readNamed_47 : decode cX13_readNamed 47 = .ok (.getfield 100, 3) := by decide +kernel
theorem dX13_readNamed_50 : decode cX13_readNamed 50 = .ok (.iconst 5, 1) := by decide +kernel
theorem dX13_readNamed_51 : decode cX13_readNamed 51 = .ok (.if_icmp .ne 4, 3) := by decide +kernel
theorem dX13_readNamed_54 : decode cX13_readNamed 54 = .ok (.return_, 1) := by decide +kernel
theorem dX13_readNamed_55 : decode cX13_readNamed 55 = .ok (.aload_n 0, 1) := by decide +kernel
theorem dX13_readNamed_56 : decode cX13_readNamed 56 = .ok (.getfield 191, 3) := by decide +kernel
theorem dX13_readNamed_59 : decode cX13_readNamed 59 = .ok (.getfield 201, 3) := by decide +kernel
theorem dX13_readNamed_62 : decode cX13_readNamed 62 = .ok (.aload_n 0, 1) := by decide +kernel
theorem dX13_readNamed_63 : decode cX13_readNamed 63 = .ok (.getfield 191, 3) := by decide +kernel
theorem dX13_readNamed_66 : decode cX13_readNamed 66 = .ok (.getfield 205, 3) := by decide +kernel
theorem dX13_readNamed_69 : decode cX13_readNamed 69 = .ok (.aload_n 0, 1) := by decide +kernel
theorem dX13_readNamed_70 : decode cX13_readNamed 70 = .ok (.getfield 119, 3) := by decide +kernel
theorem dX13_readNamed_73 : decode cX13_readNamed 73 = .ok (.lastore, 1) := by decide +kernel
theorem dX13_readNamed_74 : decode cX13_readNamed 74 = .ok (.aload_n 0, 1) := by decide +kernel
theorem dX13_readNamed_75 : decode cX13_readNamed 75 = .ok (.getfield 191, 3) := by decide +kernel
theorem dX13_readNamed_78 : decode cX13_readNamed 78 = .ok (.getfield 208, 3) := by decide +kernel
theorem dX13_readNamed_81 : decode cX13_readNamed 81 = .ok (.aload_n 0, 1) := by decide +kernel
theorem dX13_readNamed_82 : decode cX13_readNamed 82 = .ok (.getfield 191, 3) := by decide +kernel
theorem dX13_readNamed_85 : decode cX13_readNamed 85 = .ok (.getfield 205, 3) := by decide +kernel
theorem dX13_readNamed_88 : decode cX13_readNamed 88 = .ok (.iload_n 3, 1) := by decide +kernel
theorem dX13_readNamed_89 : decode cX13_readNamed 89 = .ok (.iastore, 1) := by decide +kernel
theorem dX13_readNamed_90 : decode cX13_readNamed 90 = .ok (.aload_n 0, 1) := by decide +kernel
theorem dX13_readNamed_91 : decode cX13_readNamed 91 = .ok (.getfield 191, 3) := by decide +kernel
theorem dX13_readNamed_94 : decode cX13_readNamed 94 = .ok (.getfield 211, 3) := by decide +kernel
theorem dX13_readNamed_97 : decode cX13_readNamed 97 = .ok (.aload_n 0, 1) := by decide +kernel
theorem dX13_readNamed_98 : decode cX13_readNamed 98 = .ok (.getfield 191, 3) := by decide +kernel
theorem dX13_readNamed_101 : decode cX13_readNamed 101 = .ok (.getfield 205, 3) := by decide +kernel
theorem dX13_readNamed_104 : decode cX13_readNamed 104 = .ok (.iload_n 1, 1) := by decide +kernel
theorem dX13_readNamed_105 : decode cX13_readNamed 105 = .ok (.iastore, 1) := by decide +kernel
theorem dX13_readNamed_106 : decode cX13_readNamed 106 = .ok (.aload_n 0, 1) := by decide +kernel
theorem dX13_readNamed_107 : decode cX13_readNamed 107 = .ok (.getfield 191, 3) := by decide +kernel
theorem dX13_readNamed_110 : decode cX13_readNamed 110 = .ok (.dup, 1) := by decide +kernel
theorem dX13_readNamed_111 : decode cX13_readNamed 111 = .ok (.getfield 205, 3) := by decide +kernel
theorem dX13_readNamed_114 : decode cX13_readNamed 114 = .ok (.iconst 1, 1) := by decide +kernel
theorem dX13_readNamed_115 : decode cX13_readNamed 115 = .ok (.iadd, 1) := by decide +kernel
theorem dX13_readNamed_116 : decode cX13_readNamed 116 = .ok (.putfield 205, 3) := by decide +kernel
theorem dX13_readNamed_119 : decode cX13_readNamed 119 = .ok (.aload_n 0, 1) := by decide +kernel
theorem dX13_readNamed_120 : decode cX13_readNamed 120 = .ok (.invokevirtual 146, 3) := by decide +kernel
theorem dX13_readNamed_123 : decode cX13_readNamed 123 = .ok (.return_, 1) := by decide +kernel
theorem dX13_readKnown_0 : decode cX13_readKnown 0 = .ok (.aload_n 0, 1) := by decide +kernel
theorem dX13_readKnown_1 : decode cX13_readKnown 1 = .ok (.invokevirtual 187, 3) := by decide +kernel
theorem dX13_readKnown_4 : decode cX13_readKnown 4 = .ok (.ifCond .ne 8, 3) := by decide +kernel
theorem dX13_readKnown_7 : decode cX13_readKnown 7 = .ok (.aload_n 0, 1) := by decide +kernel
theorem dX13_readKnown_8 : decode cX13_readKnown 8 = .ok (.iconst 1, 1) := by decide +kernel
theorem dX13_readKnown_9 : decode cX13_readKnown 9 = .ok (.invokevirtual 149, 3) := by decide +kernel
theorem dX13_readKnown_12 : decode cX13_readKnown 12 = .ok (.aload_n 0, 1) := by decide +kernel
theorem dX13_readKnown_13 : decode cX13_readKnown 13 = .ok (.getfield 191, 3) := by decide +kernel
theorem dX13_readKnown_16 : decode cX13_readKnown 16 = .ok (.aload_n 0, 1) := by decide +kernel
theorem dX13_readKnown_17 : decode cX13_readKnown 17 = .ok (.getfield 119, 3) := by decide +kernel
theorem dX13_readKnown_20 : decode cX13_readKnown 20 = .ok (.invokevirtual 195, 3) := by decide +kernel
theorem dX13_readKnown_23 : decode cX13_readKnown 23 = .ok (.istore_n 2, 1) := by decide +kernel
theorem dX13_readKnown_24 : decode cX13_readKnown 24 = .ok (.iload_n 2, 1) := by decide +kernel
theorem dX13_readKnown_25 : decode cX13_readKnown 25 = .ok (.iconst (-1), 1) := by decide +kernel
theorem dX13_readKnown_26 : decode cX13_readKnown 26 = .ok (.if_icmp .eq 16, 3) := by decide +kernel
theorem dX13_readKnown_29 : decode cX13_readKnown 29 = .ok (.aload_n 0, 1) := by decide +kernel
theorem dX13_readKnown_30 : decode cX13_readKnown 30 = .ok (.getfield 191, 3) := by decide +kernel
theorem dX13_readKnown_33 : decode cX13_readKnown 33 = .ok (.getfield 208, 3) := by decide +kernel
theorem dX13_readKnown_36 : decode cX13_readKnown 36 = .ok (.iload_n 2, 1) := by decide +kernel
theorem dX13_readKnown_37 : decode cX13_readKnown 37 = .ok (.iaload, 1) := by decide +kernel
theorem dX13_readKnown_38 : decode cX13_readKnown 38 = .ok (.iload_n 1, 1) := by decide +kernel
theorem dX13_readKnown_39 : decode cX13_readKnown 39 = .ok (.if_icmp .eq 8, 3) := by decide +kernel
theorem dX13_readKnown_42 : decode cX13_readKnown 42 = .ok (.aload_n 0, 1) := by decide +kernel
theorem dX13_readKnown_43 : decode cX13_readKnown 43 = .ok (.iconst 2, 1) := by decide +kernel
theorem dX13_readKnown_44 : decode cX13_readKnown 44 = .ok (.invokevirtual 149, 3) := by decide +kernel
theorem dX13_readKnown_47 : decode cX13_readKnown 47 = .ok (.aload_n 0, 1) := by decide +kernel
theorem dX13_readKnown_48 : decode cX13_readKnown 48 = .ok (.getfield 100, 3) := by decide +kernel
theorem dX13_readKnown_51 : decode cX13_readKnown 51 = .ok (.iconst 5, 1) := by decide +kernel
theorem dX13_readKnown_52 : decode cX13_readKnown 52 = .ok (.if_icmp .ne 7, 3) := by decide +kernel
theorem dX13_readKnown_55 : decode cX13_readKnown 55 = .ok (.iconst 0, 1) := by decide +kernel
theorem dX13_readKnown_56 : decode cX13_readKnown 56 = .ok (.goto 12, 3) := by decide +kernel
theorem dX13_readKnown_59 : decode cX13_readKnown 59 = .ok (.aload_n 0, 1) := by decide +kernel
theorem dX13_readKnown_60 : decode cX13_readKnown 60 = .ok (.getfield 191, 3) := by decide +kernel
theorem dX13_readKnown_63 : decode cX13_readKnown 63 = .ok (.getfield 211, 3) := by decide +kernel
theorem dX13_readKnown_66 : decode cX13_readKnown 66 = .ok (.iload_n 2, 1) := by decide +kernel
theorem dX13_readKnown_67 : decode cX13_readKnown 67 = .ok (.iaload, 1) := by decide +kernel
theorem dX13_readKnown_68 : decode cX13_readKnown 68 = .ok (.istore_n 3, 1) := by decide +kernel
theorem dX13_readKnown_69 : decode cX13_readKnown 69 = .ok (.aload_n 0, 1) := by decide +kernel
theorem dX13_readKnown_70 : decode cX13_readKnown 70 = .ok (.invokevirtual 146, 3) := by decide +kernel
theorem dX13_readKnown_73 : decode cX13_readKnown 73 = .ok (.iload_n 3, 1) := by decide +kernel
theorem dX13_readKnown_74 : decode cX13_readKnown 74 = .ok (.ireturn, 1) := by decide +kernel
theorem dX13_readDay_0 : decode cX13_readDay 0 = .ok (.iconst 1, 1) := by decide +kernel
theorem dX13_readDay_1 : decode cX13_readDay 1 = .ok (.istore_n 1, 1) := by decide +kernel
theorem dX13_readDay_2 : decode cX13_readDay 2 = .ok (.iload_n 1, 1) := by decide +kernel
theorem dX13_readDay_3 : decode cX13_readDay 3 = .ok (.ifCond .eq 17, 3) := by decide +kernel
theorem dX13_readDay_6 : decode cX13_readDay 6 = .ok (.aload_n 0, 1) := by decide +kernel
theorem dX13_readDay_7 : decode cX13_readDay 7 = .ok (.invokevirtual 214, 3) := by decide +kernel
theorem dX13_readDay_10 : decode cX13_readDay 10 = .ok (.aload_n 0, 1) := by decide +kernel
theorem dX13_readDay_11 : decode cX13_readDay 11 = .ok (.bipush 59, 2) := by decide +kernel
theorem dX13_readDay_13 : decode cX13_readDay 13 = .ok (.invokevirtual 217, 3) := by decide +kernel
theorem dX13_readDay_16 : decode cX13_readDay 16 = .ok (.istore_n 1, 1) := by decide +kernel
theorem dX13_readDay_17 : decode cX13_readDay 17 = .ok (.goto (-15), 3) := by decide +kernel
theorem dX13_readDay_20 : decode cX13_readDay 20 = .ok (.aload_n 0, 1) := by decide +kernel
theorem dX13_readDay_21 : decode cX13_readDay 21 = .ok (.getfield 100, 3) := by decide +kernel
theorem dX13_readDay_24 : decode cX13_readDay 24 = .ok (.iconst 1, 1) := by decide +kernel
theorem dX13_readDay_25 : decode cX13_readDay 25 = .ok (.if_icmp .eq 8, 3) := by decide +kernel
theorem dX13_readDay_28 : decode cX13_readDay 28 = .ok (.aload_n 0, 1) := by decide +kernel
theorem dX13_readDay_29 : decode cX13_readDay 29 = .ok (.iconst 1, 1) := by decide +kernel
theorem dX13_readDay_30 : decode cX13_readDay 30 = .ok (.invokevirtual 149, 3) := by decide +kernel
theorem dX13_readDay_33 : decode cX13_readDay 33 = .ok (.aload_n 0, 1) := by decide +kernel
theorem dX13_readDay_34 : decode cX13_readDay 34 = .ok (.getfield 191, 3) := by decide +kernel
theorem dX13_readDay_37 : decode cX13_readDay 37 = .ok (.getfield 220, 3) := by decide +kernel
theorem dX13_readDay_40 : decode cX13_readDay 40 = .ok (.iconst (-1), 1) := by decide +kernel
theorem dX13_readDay_41 : decode cX13_readDay 41 = .ok (.if_icmp .eq 23, 3) := by decide +kernel
theorem dX13_readDay_44 : decode cX13_readDay 44 = .ok (.aload_n 0, 1) := by decide +kernel
theorem dX13_readDay_45 : decode cX13_readDay 45 = .ok (.getfield 191, 3) := by decide +kernel
theorem dX13_readDay_48 : decode cX13_readDay 48 = .ok (.getfield 223, 3) := by decide +kernel
theorem dX13_readDay_51 : decode cX13_readDay 51 = .ok (.ifCond .eq 13, 3) := by decide +kernel
theorem dX13_readDay_54 : decode cX13_readDay 54 = .ok (.aload_n 0, 1) := by decide +kernel
theorem dX13_readDay_55 : decode cX13_readDay 55 = .ok (.getfield 191, 3) := by decide +kernel
theorem dX13_readDay_58 : decode cX13_readDay 58 = .ok (.getfield 226, 3) := by decide +kernel
theorem dX13_readDay_61 : decode cX13_readDay 61 = .ok (.ifCond .ne 9, 3) := by decide +kernel
theorem dX13_readDay_64 : decode cX13_readDay 64 = .ok (.aload_n 0, 1) := by decide +kernel
theorem dX13_readDay_65 : decode cX13_readDay 65 = .ok (.bipush 6, 2) := by decide +kernel
theorem dX13_readDay_67 : decode cX13_readDay 67 = .ok (.invokevirtual 149, 3) := by decide +kernel
theorem dX13_readDay_70 : decode cX13_readDay 70 = .ok (.return_, 1) := by decide +kernel
theorem dX13_readLine_0 : decode cX13_readLine 0 = .ok (.aload_n 0, 1) := by decide +kernel
theorem dX13_readLine_1 : decode cX13_readLine 1 = .ok (.ldc 165, 2) := by decide +kernel
theorem dX13_readLine_3 : decode cX13_readLine 3 = .ok (.invokevirtual 142, 3) := by decide +kernel
theorem dX13_readLine_6 : decode cX13_readLine 6 = .ok (.ifCond .eq 10, 3) := by decide +kernel
theorem dX13_readLine_9 : decode cX13_readLine 9 = .ok (.aload_n 0, 1) := by decide +kernel
theorem dX13_readLine_10 : decode cX13_readLine 10 = .ok (.invokevirtual 229, 3) := by decide +kernel
theorem dX13_readLine_13 : decode cX13_readLine 13 = .ok (.goto 136, 3) := by decide +kernel
theorem dX13_readLine_16 : decode cX13_readLine 16 = .ok (.aload_n 0, 1) := by decide +kernel
theorem dX13_readLine_17 : decode cX13_readLine 17 = .ok (.ldc 167, 2) := by decide +kernel
theorem dX13_readLine_19 : decode cX13_readLine 19 = .ok (.invokevirtual 142, 3) := by decide +kernel
theorem dX13_readLine_22 : decode cX13_readLine 22 = .ok (.ifCond .eq 10, 3) := by decide +kernel
theorem dX13_readLine_25 : decode cX13_readLine 25 = .ok (.aload_n 0, 1) := by decide +kernel
theorem dX13_readLine_26 : decode cX13_readLine 26 = .ok (.invokevirtual 232, 3) := by decide +kernel
theorem dX13_readLine_29 : decode cX13_readLine 29 = .ok (.goto 120, 3) := by decide +kernel
theorem dX13_readLine_32 : decode cX13_readLine 32 = .ok (.aload_n 0, 1) := by decide +kernel
theorem dX13_readLine_33 : decode cX13_readLine 33 = .ok (.ldc 169, 2) := by decide +kernel
theorem dX13_readLine_35 : decode cX13_readLine 35 = .ok (.invokevirtual 142, 3) := by decide +kernel
theorem dX13_readLine_38 : decode cX13_readLine 38 = .ok (.ifCond .eq 10, 3) := by decide +kernel
theorem dX13_readLine_41 : decode cX13_readLine 41 = .ok (.aload_n 0, 1) := by decide +kernel
theorem dX13_readLine_42 : decode cX13_readLine 42 = .ok (.invokevirtual 235, 3) := by decide +kernel
theorem dX13_readLine_45 : decode cX13_readLine 45 = .ok (.goto 104, 3) := by decide +kernel
theorem dX13_readLine_48 : decode cX13_readLine 48 = .ok (.aload_n 0, 1) := by decide +kernel
theorem dX13_readLine_49 : decode cX13_readLine 49 = .ok (.ldc 171, 2) := by decide +kernel
theorem dX13_readLine_51 : decode cX13_readLine 51 = .ok (.invokevirtual 142, 3) := by decide +kernel
theorem dX13_readLine_54 : decode cX13_readLine 54 = .ok (.ifCond .eq 10, 3) := by decide +kernel
theorem dX13_readLine_57 : decode cX13_readLine 57 = .ok (.aload_n 0, 1) := by decide +kernel
theorem dX13_readLine_58 : decode cX13_readLine 58 = .ok (.invokevirtual 238, 3) := by decide +kernel
theorem dX13_readLine_61 : decode cX13_readLine 61 = .ok (.goto 88, 3) := by decide +kernel
theorem dX13_readLine_64 : decode cX13_readLine 64 = .ok (.aload_n 0, 1) := by decide +kernel
theorem dX13_readLine_65 : decode cX13_readLine 65 = .ok (.ldc 173, 2) := by decide +kernel
theorem dX13_readLine_67 : decode cX13_readLine 67 = .ok (.invokevirtual 142, 3) := by decide +kernel
theorem dX13_readLine_70 : decode cX13_readLine 70 = .ok (.ifCond .eq 10, 3) := by decide +kernel
theorem dX13_readLine_73 : decode cX13_readLine 73 = .ok (.aload_n 0, 1) := by decide +kernel
theorem dX13_readLine_74 : decode cX13_readLine 74 = .ok (.invokevirtual 241, 3) := by decide +kernel
theorem dX13_readLine_77 : decode cX13_readLine 77 = .ok (.goto 72, 3) := by decide +kernel
theorem dX13_readLine_80 : decode cX13_readLine 80 = .ok (.aload_n 0, 1) := by decide +kernel
theorem dX13_readLine_81 : decode cX13_readLine 81 = .ok (.ldc 175, 2) := by decide +kernel
theorem dX13_readLine_83 : decode cX13_readLine 83 = .ok (.invokevirtual 142, 3) := by decide +kernel
theorem dX13_readLine_86 : decode cX13_readLine 86 = .ok (.ifCond .eq 10, 3) := by decide +kernel
theorem dX13_readLine_89 : decode cX13_readLine 89 = .ok (.aload_n 0, 1) := by decide +kernel
theorem dX13_readLine_90 : decode cX13_readLine 90 = .ok (.invokevirtual 244, 3) := by decide +kernel
theorem dX13_readLine_93 : decode cX13_readLine 93 = .ok (.goto 56, 3) := by decide +kernel
theorem dX13_readLine_96 : decode cX13_readLine 96 = .ok (.aload_n 0, 1) := by decide +kernel
theorem dX13_readLine_97 : decode cX13_readLine 97 = .ok (.ldc 177, 2) := by decide +kernel
theorem dX13_readLine_99 : decode cX13_readLine 99 = .ok (.invokevirtual 142, 3) := by decide +kernel
theorem dX13_readLine_102 : decode cX13_readLine 102 = .ok (.ifCond .eq 10, 3) := by decide +kernel
theorem dX13_readLine_105 : decode cX13_readLine 105 = .ok (.aload_n 0, 1) := by decide +kernel
theorem dX13_readLine_106 : decode cX13_readLine 106 = .ok (.invokevirtual 247, 3) := by decide +kernel
theorem dX13_readLine_109 : decode cX13_readLine 109 = .ok (.goto 40, 3) := by decide +kernel
theorem dX13_readLine_112 : decode cX13_readLine 112 = .ok (.aload_n 0, 1) := by decide +kernel
theorem dX13_readLine_113 : decode cX13_readLine 113 = .ok (.ldc 179, 2) := by decide +kernel
theorem dX13_readLine_115 : decode cX13_readLine 115 = .ok (.invokevirtual 142, 3) := by decide +kernel
theorem dX13_readLine_118 : decode cX13_readLine 118 = .ok (.ifCond .eq 10, 3) := by decide +kernel
theorem dX13_readLine_121 : decode cX13_readLine 121 = .ok (.aload_n 0, 1) := by decide +kernel
theorem dX13_readLine_122 : decode cX13_readLine 122 = .ok (.invokevirtual 250, 3) := by decide +kernel
theorem dX13_readLine_125 : decode cX13_readLine 125 = .ok (.goto 24, 3) := by decide +kernel
theorem dX13_readLine_128 : decode cX13_readLine 128 = .ok (.aload_n 0, 1) := by decide +kernel
theorem dX13_readLine_129 : decode cX13_readLine 129 = .ok (.ldc 181, 2) := by decide +kernel
theorem dX13_readLine_131 : decode cX13_readLine 131 = .ok (.invokevirtual 142, 3) := by decide +kernel
theorem dX13_readLine_134 : decode cX13_readLine 134 = .ok (.ifCond .eq 10, 3) := by decide +kernel
theorem dX13_readLine_137 : decode cX13_readLine 137 = .ok (.aload_n 0, 1) := by decide +kernel
theorem dX13_readLine_138 : decode cX13_readLine 138 = .ok (.invokevirtual 253, 3) := by decide +kernel
theorem dX13_readLine_141 : decode cX13_readLine 141 = .ok (.goto 8, 3) := by decide +kernel
theorem dX13_readLine_144 : decode cX13_readLine 144 = .ok (.aload_n 0, 1) := by decide +kernel
theorem dX13_readLine_145 : decode cX13_readLine 145 = .ok (.iconst 1, 1) := by decide +kernel
theorem dX13_readLine_146 : decode cX13_readLine 146 = .ok (.invokevirtual 149, 3) := by decide +kernel
theorem dX13_readLine_149 : decode cX13_readLine 149 = .ok (.return_, 1) := by decide +kernel
theorem dX13_readLaw_0 : decode cX13_readLaw 0 = .ok (.aload_n 0, 1) := by decide +kernel
theorem dX13_readLaw_1 : decode cX13_readLaw 1 = .ok (.getfield 191, 3) := by decide +kernel
theorem dX13_readLaw_4 : decode cX13_readLaw 4 = .ok (.getfield 220, 3) := by decide +kernel
theorem dX13_readLaw_7 : decode cX13_readLaw 7 = .ok (.iconst (-1), 1) := by decide +kernel
theorem dX13_readLaw_8 : decode cX13_readLaw 8 = .ok (.if_icmp .eq 8, 3) := by decide +kernel
theorem dX13_readLaw_11 : decode cX13_readLaw 11 = .ok (.aload_n 0, 1) := by decide +kernel
theorem dX13_readLaw_12 : decode cX13_readLaw 12 = .ok (.iconst 3, 1) := by decide +kernel
theorem dX13_readLaw_13 : decode cX13_readLaw 13 = .ok (.invokevirtual 149, 3) := by decide +kernel
theorem dX13_readLaw_16 : decode cX13_readLaw 16 = .ok (.aload_n 0, 1) := by decide +kernel
theorem dX13_readLaw_17 : decode cX13_readLaw 17 = .ok (.invokevirtual 146, 3) := by decide +kernel
theorem dX13_readLaw_20 : decode cX13_readLaw 20 = .ok (.aload_n 0, 1) := by decide +kernel
theorem dX13_readLaw_21 : decode cX13_readLaw 21 = .ok (.ldc_w 256, 3) := by decide +kernel
theorem dX13_readLaw_24 : decode cX13_readLaw 24 = .ok (.bipush 40, 2) := by decide +kernel
theorem dX13_readLaw_26 : decode cX13_readLaw 26 = .ok (.bipush 90, 2) := by decide +kernel
theorem dX13_readLaw_28 : decode cX13_readLaw 28 = .ok (.invokevirtual 257, 3) := by decide +kernel
theorem dX13_readLaw_31 : decode cX13_readLaw 31 = .ok (.istore_n 1, 1) := by decide +kernel
theorem dX13_readLaw_32 : decode cX13_readLaw 32 = .ok (.aload_n 0, 1) := by decide +kernel
theorem dX13_readLaw_33 : decode cX13_readLaw 33 = .ok (.ldc_w 261, 3) := by decide +kernel
theorem dX13_readLaw_36 : decode cX13_readLaw 36 = .ok (.sipush 600, 3) := by decide +kernel
theorem dX13_readLaw_39 : decode cX13_readLaw 39 = .ok (.sipush 900, 3) := by decide +kernel
theorem dX13_readLaw_42 : decode cX13_readLaw 42 = .ok (.invokevirtual 257, 3) := by decide +kernel
theorem dX13_readLaw_45 : decode cX13_readLaw 45 = .ok (.istore_n 2, 1) := by decide +kernel
theorem dX13_readLaw_46 : decode cX13_readLaw 46 = .ok (.aload_n 0, 1) := by decide +kernel
theorem dX13_readLaw_47 : decode cX13_readLaw 47 = .ok (.getfield 100, 3) := by decide +kernel
theorem dX13_readLaw_50 : decode cX13_readLaw 50 = .ok (.iconst 5, 1) := by decide +kernel
theorem dX13_readLaw_51 : decode cX13_readLaw 51 = .ok (.if_icmp .ne 4, 3) := by decide +kernel
theorem dX13_readLaw_54 : decode cX13_readLaw 54 = .ok (.return_, 1) := by decide +kernel
theorem dX13_readLaw_55 : decode cX13_readLaw 55 = .ok (.aload_n 0, 1) := by decide +kernel
theorem dX13_readLaw_56 : decode cX13_readLaw 56 = .ok (.getfield 191, 3) := by decide +kernel
theorem dX13_readLaw_59 : decode cX13_readLaw 59 = .ok (.iload_n 1, 1) := by decide +kernel
theorem dX13_readLaw_60 : decode cX13_readLaw 60 = .ok (.putfield 220, 3) := by decide +kernel
theorem dX13_readLaw_63 : decode cX13_readLaw 63 = .ok (.aload_n 0, 1) := by decide +kernel
theorem dX13_readLaw_64 : decode cX13_readLaw 64 = .ok (.getfield 191, 3) := by decide +kernel
theorem dX13_readLaw_67 : decode cX13_readLaw 67 = .ok (.iload_n 2, 1) := by decide +kernel
theorem dX13_readLaw_68 : decode cX13_readLaw 68 = .ok (.putfield 263, 3) := by decide +kernel
theorem dX13_readLaw_71 : decode cX13_readLaw 71 = .ok (.return_, 1) := by decide +kernel
theorem dX13_readKitchen_0 : decode cX13_readKitchen 0 = .ok (.aload_n 0, 1) := by decide +kernel
theorem dX13_readKitchen_1 : decode cX13_readKitchen 1 = .ok (.aload_n 0, 1) := by decide +kernel
theorem dX13_readKitchen_2 : decode cX13_readKitchen 2 = .ok (.getfield 191, 3) := by decide +kernel
theorem dX13_readKitchen_5 : decode cX13_readKitchen 5 = .ok (.getfield 265, 3) := by decide +kernel
theorem dX13_readKitchen_8 : decode cX13_readKitchen 8 = .ok (.iconst 3, 1) := by decide +kernel
theorem dX13_readKitchen_9 : decode cX13_readKitchen 9 = .ok (.iconst 0, 1) := by decide +kernel
theorem dX13_readKitchen_10 : decode cX13_readKitchen 10 = .ok (.invokevirtual 268, 3) := by decide +kernel
theorem dX13_readKitchen_13 : decode cX13_readKitchen 13 = .ok (.aload_n 0, 1) := by decide +kernel
theorem dX13_readKitchen_14 : decode cX13_readKitchen 14 = .ok (.ldc_w 272, 3) := by decide +kernel
theorem dX13_readKitchen_17 : decode cX13_readKitchen 17 = .ok (.iconst 0, 1) := by decide +kernel
theorem dX13_readKitchen_18 : decode cX13_readKitchen 18 = .ok (.bipush 99, 2) := by decide +kernel
theorem dX13_readKitchen_20 : decode cX13_readKitchen 20 = .ok (.invokevirtual 257, 3) := by decide +kernel
theorem dX13_readKitchen_23 : decode cX13_readKitchen 23 = .ok (.istore_n 1, 1) := by decide +kernel
theorem dX13_readKitchen_24 : decode cX13_readKitchen 24 = .ok (.aload_n 0, 1) := by decide +kernel
theorem dX13_readKitchen_25 : decode cX13_readKitchen 25 = .ok (.ldc_w 256, 3) := by decide +kernel
theorem dX13_readKitchen_28 : decode cX13_readKitchen 28 = .ok (.bipush 60, 2) := by decide +kernel
theorem dX13_readKitchen_30 : decode cX13_readKitchen 30 = .ok (.bipush 99, 2) := by decide +kernel
theorem dX13_readKitchen_32 : decode cX13_readKitchen 32 = .ok (.invokevirtual 257, 3) := by decide +kernel
theorem dX13_readKitchen_35 : decode cX13_readKitchen 35 = .ok (.istore_n 2, 1) := by decide +kernel
theorem dX13_readKitchen_36 : decode cX13_readKitchen 36 = .ok (.aload_n 0, 1) := by decide +kernel
theorem dX13_readKitchen_37 : decode cX13_readKitchen 37 = .ok (.getfield 100, 3) := by decide +kernel
theorem dX13_readKitchen_40 : decode cX13_readKitchen 40 = .ok (.iconst 5, 1) := by decide +kernel
theorem dX13_readKitchen_41 : decode cX13_readKitchen 41 = .ok (.if_icmp .ne 4, 3) := by decide +kernel
theorem dX13_readKitchen_44 : decode cX13_readKitchen 44 = .ok (.return_, 1) := by decide +kernel
theorem dX13_readKitchen_45 : decode cX13_readKitchen 45 = .ok (.aload_n 0, 1) := by decide +kernel
theorem dX13_readKitchen_46 : decode cX13_readKitchen 46 = .ok (.getfield 191, 3) := by decide +kernel
theorem dX13_readKitchen_49 : decode cX13_readKitchen 49 = .ok (.getfield 273, 3) := by decide +kernel
theorem dX13_readKitchen_52 : decode cX13_readKitchen 52 = .ok (.aload_n 0, 1) := by decide +kernel
theorem dX13_readKitchen_53 : decode cX13_readKitchen 53 = .ok (.getfield 191, 3) := by decide +kernel
theorem dX13_readKitchen_56 : decode cX13_readKitchen 56 = .ok (.getfield 265, 3) := by decide +kernel
theorem dX13_readKitchen_59 : decode cX13_readKitchen 59 = .ok (.iload_n 1, 1) := by decide +kernel
theorem dX13_readKitchen_60 : decode cX13_readKitchen 60 = .ok (.iastore, 1) := by decide +kernel
theorem dX13_readKitchen_61 : decode cX13_readKitchen 61 = .ok (.aload_n 0, 1) := by decide +kernel
theorem dX13_readKitchen_62 : decode cX13_readKitchen 62 = .ok (.getfield 191, 3) := by decide +kernel
theorem dX13_readKitchen_65 : decode cX13_readKitchen 65 = .ok (.getfield 276, 3) := by decide +kernel
theorem dX13_readKitchen_68 : decode cX13_readKitchen 68 = .ok (.aload_n 0, 1) := by decide +kernel
theorem dX13_readKitchen_69 : decode cX13_readKitchen 69 = .ok (.getfield 191, 3) := by decide +kernel
theorem dX13_readKitchen_72 : decode cX13_readKitchen 72 = .ok (.getfield 265, 3) := by decide +kernel
theorem dX13_readKitchen_75 : decode cX13_readKitchen 75 = .ok (.iload_n 2, 1) := by decide +kernel
theorem dX13_readKitchen_76 : decode cX13_readKitchen 76 = .ok (.iastore, 1) := by decide +kernel
theorem dX13_readKitchen_77 : decode cX13_readKitchen 77 = .ok (.aload_n 0, 1) := by decide +kernel
theorem dX13_readKitchen_78 : decode cX13_readKitchen 78 = .ok (.getfield 191, 3) := by decide +kernel
theorem dX13_readKitchen_81 : decode cX13_readKitchen 81 = .ok (.dup, 1) := by decide +kernel
theorem dX13_readKitchen_82 : decode cX13_readKitchen 82 = .ok (.getfield 265, 3) := by decide +kernel
theorem dX13_readKitchen_85 : decode cX13_readKitchen 85 = .ok (.iconst 1, 1) := by decide +kernel
theorem dX13_readKitchen_86 : decode cX13_readKitchen 86 = .ok (.iadd, 1) := by decide +kernel
theorem dX13_readKitchen_87 : decode cX13_readKitchen 87 = .ok (.putfield 265, 3) := by decide +kernel
theorem dX13_readKitchen_90 : decode cX13_readKitchen 90 = .ok (.return_, 1) := by decide +kernel
theorem dX13_readFlood_0 : decode cX13_readFlood 0 = .ok (.aload_n 0, 1) := by decide +kernel
theorem dX13_readFlood_1 : decode cX13_readFlood 1 = .ok (.getfield 191, 3) := by decide +kernel
theorem dX13_readFlood_4 : decode cX13_readFlood 4 = .ok (.getfield 279, 3) := by decide +kernel
theorem dX13_readFlood_7 : decode cX13_readFlood 7 = .ok (.iconst 3, 1) := by decide +kernel
theorem dX13_readFlood_8 : decode cX13_readFlood 8 = .ok (.if_icmp .ne 8, 3) := by decide +kernel
theorem dX13_readFlood_11 : decode cX13_readFlood 11 = .ok (.aload_n 0, 1) := by decide +kernel
theorem dX13_readFlood_12 : decode cX13_readFlood 12 = .ok (.iconst 5, 1) := by decide +kernel
theorem dX13_readFlood_13 : decode cX13_readFlood 13 = .ok (.invokevirtual 149, 3) := by decide +kernel
theorem dX13_readFlood_16 : decode cX13_readFlood 16 = .ok (.aload_n 0, 1) := by decide +kernel
theorem dX13_readFlood_17 : decode cX13_readFlood 17 = .ok (.invokevirtual 146, 3) := by decide +kernel
theorem dX13_readFlood_20 : decode cX13_readFlood 20 = .ok (.aload_n 0, 1) := by decide +kernel
theorem dX13_readFlood_21 : decode cX13_readFlood 21 = .ok (.iconst 0, 1) := by decide +kernel
theorem dX13_readFlood_22 : decode cX13_readFlood 22 = .ok (.bipush 98, 2) := by decide +kernel
theorem dX13_readFlood_24 : decode cX13_readFlood 24 = .ok (.invokevirtual 161, 3) := by decide +kernel
theorem dX13_readFlood_27 : decode cX13_readFlood 27 = .ok (.istore_n 1, 1) := by decide +kernel
theorem dX13_readFlood_28 : decode cX13_readFlood 28 = .ok (.aload_n 0, 1) := by decide +kernel
theorem dX13_readFlood_29 : decode cX13_readFlood 29 = .ok (.ldc_w 282, 3) := by decide +kernel
theorem dX13_readFlood_32 : decode cX13_readFlood 32 = .ok (.iconst 1, 1) := by decide +kernel
theorem dX13_readFlood_33 : decode cX13_readFlood 33 = .ok (.bipush 60, 2) := by decide +kernel
theorem dX13_readFlood_35 : decode cX13_readFlood 35 = .ok (.invokevirtual 257, 3) := by decide +kernel
theorem dX13_readFlood_38 : decode cX13_readFlood 38 = .ok (.istore_n 2, 1) := by decide +kernel
theorem dX13_readFlood_39 : decode cX13_readFlood 39 = .ok (.aload_n 0, 1) := by decide +kernel
theorem dX13_readFlood_40 : decode cX13_readFlood 40 = .ok (.getfield 100, 3) := by decide +kernel
theorem dX13_readFlood_43 : decode cX13_readFlood 43 = .ok (.iconst 5, 1) := by decide +kernel
theorem dX13_readFlood_44 : decode cX13_readFlood 44 = .ok (.if_icmp .ne 4, 3) := by decide +kernel
theorem dX13_readFlood_47 : decode cX13_readFlood 47 = .ok (.return_, 1) := by decide +kernel
theorem dX13_readFlood_48 : decode cX13_readFlood 48 = .ok (.aload_n 0, 1) := by decide +kernel
theorem dX13_readFlood_49 : decode cX13_readFlood 49 = .ok (.getfield 191, 3) := by decide +kernel
theorem dX13_readFlood_52 : decode cX13_readFlood 52 = .ok (.getfield 284, 3) := by decide +kernel
theorem dX13_readFlood_55 : decode cX13_readFlood 55 = .ok (.aload_n 0, 1) := by decide +kernel
theorem dX13_readFlood_56 : decode cX13_readFlood 56 = .ok (.getfield 191, 3) := by decide +kernel
theorem dX13_readFlood_59 : decode cX13_readFlood 59 = .ok (.getfield 279, 3) := by decide +kernel
theorem dX13_readFlood_62 : decode cX13_readFlood 62 = .ok (.iload_n 1, 1) := by decide +kernel
theorem dX13_readFlood_63 : decode cX13_readFlood 63 = .ok (.iastore, 1) := by decide +kernel
theorem dX13_readFlood_64 : decode cX13_readFlood 64 = .ok (.aload_n 0, 1) := by decide +kernel
theorem dX13_readFlood_65 : decode cX13_readFlood 65 = .ok (.getfield 191, 3) := by decide +kernel
theorem dX13_readFlood_68 : decode cX13_readFlood 68 = .ok (.getfield 287, 3) := by decide +kernel
theorem dX13_readFlood_71 : decode cX13_readFlood 71 = .ok (.aload_n 0, 1) := by decide +kernel
theorem dX13_readFlood_72 : decode cX13_readFlood 72 = .ok (.getfield 191, 3) := by decide +kernel
theorem dX13_readFlood_75 : decode cX13_readFlood 75 = .ok (.getfield 279, 3) := by decide +kernel
theorem dX13_readFlood_78 : decode cX13_readFlood 78 = .ok (.iload_n 2, 1) := by decide +kernel
theorem dX13_readFlood_79 : decode cX13_readFlood 79 = .ok (.iastore, 1) := by decide +kernel
theorem dX13_readFlood_80 : decode cX13_readFlood 80 = .ok (.aload_n 0, 1) := by decide +kernel
theorem dX13_readFlood_81 : decode cX13_readFlood 81 = .ok (.getfield 191, 3) := by decide +kernel
theorem dX13_readFlood_84 : decode cX13_readFlood 84 = .ok (.dup, 1) := by decide +kernel
theorem dX13_readFlood_85 : decode cX13_readFlood 85 = .ok (.getfield 279, 3) := by decide +kernel
theorem dX13_readFlood_88 : decode cX13_readFlood 88 = .ok (.iconst 1, 1) := by decide +kernel
theorem dX13_readFlood_89 : decode cX13_readFlood 89 = .ok (.iadd, 1) := by decide +kernel
theorem dX13_readFlood_90 : decode cX13_readFlood 90 = .ok (.putfield 279, 3) := by decide +kernel
theorem dX13_readFlood_93 : decode cX13_readFlood 93 = .ok (.return_, 1) := by decide +kernel
theorem dX13_readDish_0 : decode cX13_readDish 0 = .ok (.aload_n 0, 1) := by decide +kernel
theorem dX13_readDish_1 : decode cX13_readDish 1 = .ok (.aload_n 0, 1) := by decide +kernel
theorem dX13_readDish_2 : decode cX13_readDish 2 = .ok (.getfield 191, 3) := by decide +kernel
theorem dX13_readDish_5 : decode cX13_readDish 5 = .ok (.getfield 290, 3) := by decide +kernel
theorem dX13_readDish_8 : decode cX13_readDish 8 = .ok (.bipush 6, 2) := by decide +kernel
theorem dX13_readDish_10 : decode cX13_readDish 10 = .ok (.iconst 1, 1) := by decide +kernel
theorem dX13_readDish_11 : decode cX13_readDish 11 = .ok (.invokevirtual 268, 3) := by decide +kernel
theorem dX13_readDish_14 : decode cX13_readDish 14 = .ok (.aload_n 0, 1) := by decide +kernel
theorem dX13_readDish_15 : decode cX13_readDish 15 = .ok (.ldc_w 293, 3) := by decide +kernel
theorem dX13_readDish_18 : decode cX13_readDish 18 = .ok (.invokevirtual 157, 3) := by decide +kernel
theorem dX13_readDish_21 : decode cX13_readDish 21 = .ok (.aload_n 0, 1) := by decide +kernel
theorem dX13_readDish_22 : decode cX13_readDish 22 = .ok (.invokevirtual 295, 3) := by decide +kernel
theorem dX13_readDish_25 : decode cX13_readDish 25 = .ok (.istore_n 1, 1) := by decide +kernel
theorem dX13_readDish_26 : decode cX13_readDish 26 = .ok (.aload_n 0, 1) := by decide +kernel
theorem dX13_readDish_27 : decode cX13_readDish 27 = .ok (.ldc_w 298, 3) := by decide +kernel
theorem dX13_readDish_30 : decode cX13_readDish 30 = .ok (.iconst 1, 1) := by decide +kernel
theorem dX13_readDish_31 : decode cX13_readDish 31 = .ok (.bipush 99, 2) := by decide +kernel
theorem dX13_readDish_33 : decode cX13_readDish 33 = .ok (.invokevirtual 257, 3) := by decide +kernel
theorem dX13_readDish_36 : decode cX13_readDish 36 = .ok (.istore_n 2, 1) := by decide +kernel
theorem dX13_readDish_37 : decode cX13_readDish 37 = .ok (.aload_n 0, 1) := by decide +kernel
theorem dX13_readDish_38 : decode cX13_readDish 38 = .ok (.getfield 100, 3) := by decide +kernel
theorem dX13_readDish_41 : decode cX13_readDish 41 = .ok (.iconst 5, 1) := by decide +kernel
theorem dX13_readDish_42 : decode cX13_readDish 42 = .ok (.if_icmp .ne 4, 3) := by decide +kernel
theorem dX13_readDish_45 : decode cX13_readDish 45 = .ok (.return_, 1) := by decide +kernel
theorem dX13_readDish_46 : decode cX13_readDish 46 = .ok (.aload_n 0, 1) := by decide +kernel
theorem dX13_readDish_47 : decode cX13_readDish 47 = .ok (.getfield 191, 3) := by decide +kernel
theorem dX13_readDish_50 : decode cX13_readDish 50 = .ok (.getfield 300, 3) := by decide +kernel
theorem dX13_readDish_53 : decode cX13_readDish 53 = .ok (.aload_n 0, 1) := by decide +kernel
theorem dX13_readDish_54 : decode cX13_readDish 54 = .ok (.getfield 191, 3) := by decide +kernel
theorem dX13_readDish_57 : decode cX13_readDish 57 = .ok (.getfield 290, 3) := by decide +kernel
theorem dX13_readDish_60 : decode cX13_readDish 60 = .ok (.iload_n 1, 1) := by decide +kernel
theorem dX13_readDish_61 : decode cX13_readDish 61 = .ok (.iastore, 1) := by decide +kernel
theorem dX13_readDish_62 : decode cX13_readDish 62 = .ok (.aload_n 0, 1) := by decide +kernel
theorem dX13_readDish_63 : decode cX13_readDish 63 = .ok (.getfield 191, 3) := by decide +kernel
theorem dX13_readDish_66 : decode cX13_readDish 66 = .ok (.getfield 303, 3) := by decide +kernel
theorem dX13_readDish_69 : decode cX13_readDish 69 = .ok (.aload_n 0, 1) := by decide +kernel
theorem dX13_readDish_70 : decode cX13_readDish 70 = .ok (.getfield 191, 3) := by decide +kernel
theorem dX13_readDish_73 : decode cX13_readDish 73 = .ok (.getfield 290, 3) := by decide +kernel
theorem dX13_readDish_76 : decode cX13_readDish 76 = .ok (.iload_n 2, 1) := by decide +kernel
theorem dX13_readDish_77 : decode cX13_readDish 77 = .ok (.iastore, 1) := by decide +kernel
theorem dX13_readDish_78 : decode cX13_readDish 78 = .ok (.aload_n 0, 1) := by decide +kernel
theorem dX13_readDish_79 : decode cX13_readDish 79 = .ok (.getfield 191, 3) := by decide +kernel
theorem dX13_readDish_82 : decode cX13_readDish 82 = .ok (.dup, 1) := by decide +kernel
theorem dX13_readDish_83 : decode cX13_readDish 83 = .ok (.getfield 290, 3) := by decide +kernel
theorem dX13_readDish_86 : decode cX13_readDish 86 = .ok (.iconst 1, 1) := by decide +kernel
theorem dX13_readDish_87 : decode cX13_readDish 87 = .ok (.iadd, 1) := by decide +kernel
theorem dX13_readDish_88 : decode cX13_readDish 88 = .ok (.putfield 290, 3) := by decide +kernel
theorem dX13_readDish_91 : decode cX13_readDish 91 = .ok (.return_, 1) := by decide +kernel
theorem dX13_readDiet_0 : decode cX13_readDiet 0 = .ok (.aload_n 0, 1) := by decide +kernel
theorem dX13_readDiet_1 : decode cX13_readDiet 1 = .ok (.aload_n 0, 1) := by decide +kernel
theorem dX13_readDiet_2 : decode cX13_readDiet 2 = .ok (.getfield 191, 3) := by decide +kernel
theorem dX13_readDiet_5 : decode cX13_readDiet 5 = .ok (.getfield 306, 3) := by decide +kernel
theorem dX13_readDiet_8 : decode cX13_readDiet 8 = .ok (.iconst 4, 1) := by decide +kernel
theorem dX13_readDiet_9 : decode cX13_readDiet 9 = .ok (.iconst 2, 1) := by decide +kernel
theorem dX13_readDiet_10 : decode cX13_readDiet 10 = .ok (.invokevirtual 268, 3) := by decide +kernel
theorem dX13_readDiet_13 : decode cX13_readDiet 13 = .ok (.aload_n 0, 1) := by decide +kernel
theorem dX13_readDiet_14 : decode cX13_readDiet 14 = .ok (.ldc_w 309, 3) := by decide +kernel
theorem dX13_readDiet_17 : decode cX13_readDiet 17 = .ok (.invokevirtual 157, 3) := by decide +kernel
theorem dX13_readDiet_20 : decode cX13_readDiet 20 = .ok (.aload_n 0, 1) := by decide +kernel
theorem dX13_readDiet_21 : decode cX13_readDiet 21 = .ok (.invokevirtual 295, 3) := by decide +kernel
theorem dX13_readDiet_24 : decode cX13_readDiet 24 = .ok (.istore_n 1, 1) := by decide +kernel
theorem dX13_readDiet_25 : decode cX13_readDiet 25 = .ok (.aload_n 0, 1) := by decide +kernel
theorem dX13_readDiet_26 : decode cX13_readDiet 26 = .ok (.getfield 100, 3) := by decide +kernel
theorem dX13_readDiet_29 : decode cX13_readDiet 29 = .ok (.iconst 5, 1) := by decide +kernel
theorem dX13_readDiet_30 : decode cX13_readDiet 30 = .ok (.if_icmp .ne 4, 3) := by decide +kernel
theorem dX13_readDiet_33 : decode cX13_readDiet 33 = .ok (.return_, 1) := by decide +kernel
theorem dX13_readDiet_34 : decode cX13_readDiet 34 = .ok (.aload_n 0, 1) := by decide +kernel
theorem dX13_readDiet_35 : decode cX13_readDiet 35 = .ok (.getfield 191, 3) := by decide +kernel
theorem dX13_readDiet_38 : decode cX13_readDiet 38 = .ok (.getfield 311, 3) := by decide +kernel
theorem dX13_readDiet_41 : decode cX13_readDiet 41 = .ok (.aload_n 0, 1) := by decide +kernel
theorem dX13_readDiet_42 : decode cX13_readDiet 42 = .ok (.getfield 191, 3) := by decide +kernel
theorem dX13_readDiet_45 : decode cX13_readDiet 45 = .ok (.getfield 306, 3) := by decide +kernel
theorem dX13_readDiet_48 : decode cX13_readDiet 48 = .ok (.iload_n 1, 1) := by decide +kernel
theorem dX13_readDiet_49 : decode cX13_readDiet 49 = .ok (.iastore, 1) := by decide +kernel
theorem dX13_readDiet_50 : decode cX13_readDiet 50 = .ok (.aload_n 0, 1) := by decide +kernel
theorem dX13_readDiet_51 : decode cX13_readDiet 51 = .ok (.getfield 191, 3) := by decide +kernel
theorem dX13_readDiet_54 : decode cX13_readDiet 54 = .ok (.dup, 1) := by decide +kernel
theorem dX13_readDiet_55 : decode cX13_readDiet 55 = .ok (.getfield 306, 3) := by decide +kernel
theorem dX13_readDiet_58 : decode cX13_readDiet 58 = .ok (.iconst 1, 1) := by decide +kernel
theorem dX13_readDiet_59 : decode cX13_readDiet 59 = .ok (.iadd, 1) := by decide +kernel
theorem dX13_readDiet_60 : decode cX13_readDiet 60 = .ok (.putfield 306, 3) := by decide +kernel
theorem dX13_readDiet_63 : decode cX13_readDiet 63 = .ok (.return_, 1) := by decide +kernel
theorem dX13_readHouse_0 : decode cX13_readHouse 0 = .ok (.aload_n 0, 1) := by decide +kernel
theorem dX13_readHouse_1 : decode cX13_readHouse 1 = .ok (.aload_n 0, 1) := by decide +kernel
theorem dX13_readHouse_2 : decode cX13_readHouse 2 = .ok (.getfield 191, 3) := by decide +kernel
theorem dX13_readHouse_5 : decode cX13_readHouse 5 = .ok (.getfield 223, 3) := by decide +kernel
theorem dX13_readHouse_8 : decode cX13_readHouse 8 = .ok (.bipush 6, 2) := by decide +kernel
theorem dX13_readHouse_10 : decode cX13_readHouse 10 = .ok (.iconst 3, 1) := by decide +kernel
theorem dX13_readHouse_11 : decode cX13_readHouse 11 = .ok (.invokevirtual 268, 3) := by decide +kernel
theorem dX13_readHouse_14 : decode cX13_readHouse 14 = .ok (.aload_n 0, 1) := by decide +kernel
theorem dX13_readHouse_15 : decode cX13_readHouse 15 = .ok (.ldc_w 272, 3) := by decide +kernel
theorem dX13_readHouse_18 : decode cX13_readHouse 18 = .ok (.iconst 0, 1) := by decide +kernel
theorem dX13_readHouse_19 : decode cX13_readHouse 19 = .ok (.bipush 99, 2) := by decide +kernel
theorem dX13_readHouse_21 : decode cX13_readHouse 21 = .ok (.invokevirtual 257, 3) := by decide +kernel
theorem dX13_readHouse_24 : decode cX13_readHouse 24 = .ok (.istore_n 1, 1) := by decide +kernel
theorem dX13_readHouse_25 : decode cX13_readHouse 25 = .ok (.aload_n 0, 1) := by decide +kernel
theorem dX13_readHouse_26 : decode cX13_readHouse 26 = .ok (.ldc_w 313, 3) := by decide +kernel
theorem dX13_readHouse_29 : decode cX13_readHouse 29 = .ok (.invokevirtual 157, 3) := by decide +kernel
theorem dX13_readHouse_32 : decode cX13_readHouse 32 = .ok (.aload_n 0, 1) := by decide +kernel
theorem dX13_readHouse_33 : decode cX13_readHouse 33 = .ok (.iconst 2, 1) := by decide +kernel
theorem dX13_readHouse_34 : decode cX13_readHouse 34 = .ok (.invokevirtual 315, 3) := by decide +kernel
theorem dX13_readHouse_37 : decode cX13_readHouse 37 = .ok (.istore_n 2, 1) := by decide +kernel
theorem dX13_readHouse_38 : decode cX13_readHouse 38 = .ok (.aload_n 0, 1) := by decide +kernel
theorem dX13_readHouse_39 : decode cX13_readHouse 39 = .ok (.ldc_w 318, 3) := by decide +kernel
theorem dX13_readHouse_42 : decode cX13_readHouse 42 = .ok (.iconst 0, 1) := by decide +kernel
theorem dX13_readHouse_43 : decode cX13_readHouse 43 = .ok (.bipush 30, 2) := by decide +kernel
theorem dX13_readHouse_45 : decode cX13_readHouse 45 = .ok (.invokevirtual 257, 3) := by decide +kernel
theorem dX13_readHouse_48 : decode cX13_readHouse 48 = .ok (.istore_n 3, 1) := by decide +kernel
theorem dX13_readHouse_49 : decode cX13_readHouse 49 = .ok (.aload_n 0, 1) := by decide +kernel
theorem dX13_readHouse_50 : decode cX13_readHouse 50 = .ok (.ldc_w 320, 3) := by decide +kernel
theorem dX13_readHouse_53 : decode cX13_readHouse 53 = .ok (.iconst 0, 1) := by decide +kernel
theorem dX13_readHouse_54 : decode cX13_readHouse 54 = .ok (.bipush 60, 2) := by decide +kernel
theorem dX13_readHouse_56 : decode cX13_readHouse 56 = .ok (.invokevirtual 257, 3) := by decide +kernel
theorem dX13_readHouse_59 : decode cX13_readHouse 59 = .ok (.istore 4, 2) := by decide +kernel
theorem dX13_readHouse_61 : decode cX13_readHouse 61 = .ok (.aload_n 0, 1) := by decide +kernel
theorem dX13_readHouse_62 : decode cX13_readHouse 62 = .ok (.ldc_w 322, 3) := by decide +kernel
theorem dX13_readHouse_65 : decode cX13_readHouse 65 = .ok (.iconst 0, 1) := by decide +kernel
theorem dX13_readHouse_66 : decode cX13_readHouse 66 = .ok (.bipush 100, 2) := by decide +kernel
theorem dX13_readHouse_68 : decode cX13_readHouse 68 = .ok (.invokevirtual 257, 3) := by decide +kernel
theorem dX13_readHouse_71 : decode cX13_readHouse 71 = .ok (.istore 5, 2) := by decide +kernel
theorem dX13_readHouse_73 : decode cX13_readHouse 73 = .ok (.aload_n 0, 1) := by decide +kernel
theorem dX13_readHouse_74 : decode cX13_readHouse 74 = .ok (.ldc_w 324, 3) := by decide +kernel
theorem dX13_readHouse_77 : decode cX13_readHouse 77 = .ok (.iconst 1, 1) := by decide +kernel
theorem dX13_readHouse_78 : decode cX13_readHouse 78 = .ok (.bipush 9, 2) := by decide +kernel
theorem dX13_readHouse_80 : decode cX13_readHouse 80 = .ok (.invokevirtual 257, 3) := by decide +kernel
theorem dX13_readHouse_83 : decode cX13_readHouse 83 = .ok (.istore 6, 2) := by decide +kernel
theorem dX13_readHouse_85 : decode cX13_readHouse 85 = .ok (.aload_n 0, 1) := by decide +kernel
theorem dX13_readHouse_86 : decode cX13_readHouse 86 = .ok (.ldc 183, 2) := by decide +kernel
theorem dX13_readHouse_88 : decode cX13_readHouse 88 = .ok (.invokevirtual 326, 3) := by decide +kernel
theorem dX13_readHouse_91 : decode cX13_readHouse 91 = .ok (.istore 7, 2) := by decide +kernel
theorem dX13_readHouse_93 : decode cX13_readHouse 93 = .ok (.aload_n 0, 1) := by decide +kernel
theorem dX13_readHouse_94 : decode cX13_readHouse 94 = .ok (.getfield 100, 3) := by decide +kernel
theorem dX13_readHouse_97 : decode cX13_readHouse 97 = .ok (.iconst 5, 1) := by decide +kernel
theorem dX13_readHouse_98 : decode cX13_readHouse 98 = .ok (.if_icmp .ne 4, 3) := by decide +kernel
theorem dX13_readHouse_101 : decode cX13_readHouse 101 = .ok (.return_, 1) := by decide +kernel
theorem dX13_readHouse_102 : decode cX13_readHouse 102 = .ok (.aload_n 0, 1) := by decide +kernel
theorem dX13_readHouse_103 : decode cX13_readHouse 103 = .ok (.getfield 191, 3) := by decide +kernel
theorem dX13_readHouse_106 : decode cX13_readHouse 106 = .ok (.getfield 223, 3) := by decide +kernel
theorem dX13_readHouse_109 : decode cX13_readHouse 109 = .ok (.istore 8, 2) := by decide +kernel
theorem dX13_readHouse_111 : decode cX13_readHouse 111 = .ok (.aload_n 0, 1) := by decide +kernel
theorem dX13_readHouse_112 : decode cX13_readHouse 112 = .ok (.getfield 191, 3) := by decide +kernel
theorem dX13_readHouse_115 : decode cX13_readHouse 115 = .ok (.getfield 329, 3) := by decide +kernel
theorem dX13_readHouse_118 : decode cX13_readHouse 118 = .ok (.iload 8, 2) := by decide +kernel
theorem dX13_readHouse_120 : decode cX13_readHouse 120 = .ok (.iload_n 1, 1) := by decide +kernel
theorem dX13_readHouse_121 : decode cX13_readHouse 121 = .ok (.iastore, 1) := by decide +kernel
theorem dX13_readHouse_122 : decode cX13_readHouse 122 = .ok (.aload_n 0, 1) := by decide +kernel
theorem dX13_readHouse_123 : decode cX13_readHouse 123 = .ok (.getfield 191, 3) := by decide +kernel
theorem dX13_readHouse_126 : decode cX13_readHouse 126 = .ok (.getfield 332, 3) := by decide +kernel
theorem dX13_readHouse_129 : decode cX13_readHouse 129 = .ok (.iload 8, 2) := by decide +kernel
theorem dX13_readHouse_131 : decode cX13_readHouse 131 = .ok (.iload_n 2, 1) := by decide +kernel
theorem dX13_readHouse_132 : decode cX13_readHouse 132 = .ok (.iastore, 1) := by decide +kernel
theorem dX13_readHouse_133 : decode cX13_readHouse 133 = .ok (.aload_n 0, 1) := by decide +kernel
theorem dX13_readHouse_134 : decode cX13_readHouse 134 = .ok (.getfield 191, 3) := by decide +kernel
theorem dX13_readHouse_137 : decode cX13_readHouse 137 = .ok (.getfield 334, 3) := by decide +kernel
theorem dX13_readHouse_140 : decode cX13_readHouse 140 = .ok (.iload 8, 2) := by decide +kernel
theorem dX13_readHouse_142 : decode cX13_readHouse 142 = .ok (.iload_n 3, 1) := by decide +kernel
theorem dX13_readHouse_143 : decode cX13_readHouse 143 = .ok (.iastore, 1) := by decide +kernel
theorem dX13_readHouse_144 : decode cX13_readHouse 144 = .ok (.aload_n 0, 1) := by decide +kernel
theorem dX13_readHouse_145 : decode cX13_readHouse 145 = .ok (.getfield 191, 3) := by decide +kernel
theorem dX13_readHouse_148 : decode cX13_readHouse 148 = .ok (.getfield 336, 3) := by decide +kernel
theorem dX13_readHouse_151 : decode cX13_readHouse 151 = .ok (.iload 8, 2) := by decide +kernel
theorem dX13_readHouse_153 : decode cX13_readHouse 153 = .ok (.iload 4, 2) := by decide +kernel
theorem dX13_readHouse_155 : decode cX13_readHouse 155 = .ok (.iastore, 1) := by decide +kernel
theorem dX13_readHouse_156 : decode cX13_readHouse 156 = .ok (.aload_n 0, 1) := by decide +kernel
theorem dX13_readHouse_157 : decode cX13_readHouse 157 = .ok (.getfield 191, 3) := by decide +kernel
theorem dX13_readHouse_160 : decode cX13_readHouse 160 = .ok (.getfield 338, 3) := by decide +kernel
theorem dX13_readHouse_163 : decode cX13_readHouse 163 = .ok (.iload 8, 2) := by decide +kernel
theorem dX13_readHouse_165 : decode cX13_readHouse 165 = .ok (.iload 5, 2) := by decide +kernel
theorem dX13_readHouse_167 : decode cX13_readHouse 167 = .ok (.iastore, 1) := by decide +kernel
theorem dX13_readHouse_168 : decode cX13_readHouse 168 = .ok (.aload_n 0, 1) := by decide +kernel
theorem dX13_readHouse_169 : decode cX13_readHouse 169 = .ok (.getfield 191, 3) := by decide +kernel
theorem dX13_readHouse_172 : decode cX13_readHouse 172 = .ok (.getfield 340, 3) := by decide +kernel
theorem dX13_readHouse_175 : decode cX13_readHouse 175 = .ok (.iload 8, 2) := by decide +kernel
theorem dX13_readHouse_177 : decode cX13_readHouse 177 = .ok (.iload 6, 2) := by decide +kernel
theorem dX13_readHouse_179 : decode cX13_readHouse 179 = .ok (.iastore, 1) := by decide +kernel
theorem dX13_readHouse_180 : decode cX13_readHouse 180 = .ok (.aload_n 0, 1) := by decide +kernel
theorem dX13_readHouse_181 : decode cX13_readHouse 181 = .ok (.getfield 191, 3) := by decide +kernel
theorem dX13_readHouse_184 : decode cX13_readHouse 184 = .ok (.getfield 342, 3) := by decide +kernel
theorem dX13_readHouse_187 : decode cX13_readHouse 187 = .ok (.iload 8, 2) := by decide +kernel
theorem dX13_readHouse_189 : decode cX13_readHouse 189 = .ok (.iload 7, 2) := by decide +kernel
theorem dX13_readHouse_191 : decode cX13_readHouse 191 = .ok (.bastore, 1) := by decide +kernel
theorem dX13_readHouse_192 : decode cX13_readHouse 192 = .ok (.aload_n 0, 1) := by decide +kernel
theorem dX13_readHouse_193 : decode cX13_readHouse 193 = .ok (.getfield 191, 3) := by decide +kernel
theorem dX13_readHouse_196 : decode cX13_readHouse 196 = .ok (.dup, 1) := by decide +kernel
theorem dX13_readHouse_197 : decode cX13_readHouse 197 = .ok (.getfield 223, 3) := by decide +kernel
theorem dX13_readHouse_200 : decode cX13_readHouse 200 = .ok (.iconst 1, 1) := by decide +kernel
theorem dX13_readHouse_201 : decode cX13_readHouse 201 = .ok (.iadd, 1) := by decide +kernel
theorem dX13_readHouse_202 : decode cX13_readHouse 202 = .ok (.putfield 223, 3) := by decide +kernel
theorem dX13_readHouse_205 : decode cX13_readHouse 205 = .ok (.return_, 1) := by decide +kernel
theorem dX13_readCar_0 : decode cX13_readCar 0 = .ok (.aload_n 0, 1) := by decide +kernel
theorem dX13_readCar_1 : decode cX13_readCar 1 = .ok (.aload_n 0, 1) := by decide +kernel
theorem dX13_readCar_2 : decode cX13_readCar 2 = .ok (.getfield 191, 3) := by decide +kernel
theorem dX13_readCar_5 : decode cX13_readCar 5 = .ok (.getfield 226, 3) := by decide +kernel
theorem dX13_readCar_8 : decode cX13_readCar 8 = .ok (.iconst 3, 1) := by decide +kernel
theorem dX13_readCar_9 : decode cX13_readCar 9 = .ok (.iconst 3, 1) := by decide +kernel
theorem dX13_readCar_10 : decode cX13_readCar 10 = .ok (.invokevirtual 268, 3) := by decide +kernel
theorem dX13_readCar_13 : decode cX13_readCar 13 = .ok (.aload_n 0, 1) := by decide +kernel
theorem dX13_readCar_14 : decode cX13_readCar 14 = .ok (.ldc_w 346, 3) := by decide +kernel
theorem dX13_readCar_17 : decode cX13_readCar 17 = .ok (.invokevirtual 157, 3) := by decide +kernel
theorem dX13_readCar_20 : decode cX13_readCar 20 = .ok (.aload_n 0, 1) := by decide +kernel
theorem dX13_readCar_21 : decode cX13_readCar 21 = .ok (.iconst 0, 1) := by decide +kernel
theorem dX13_readCar_22 : decode cX13_readCar 22 = .ok (.invokevirtual 315, 3) := by decide +kernel
theorem dX13_readCar_25 : decode cX13_readCar 25 = .ok (.istore_n 1, 1) := by decide +kernel
theorem dX13_readCar_26 : decode cX13_readCar 26 = .ok (.aload_n 0, 1) := by decide +kernel
theorem dX13_readCar_27 : decode cX13_readCar 27 = .ok (.ldc_w 348, 3) := by decide +kernel
theorem dX13_readCar_30 : decode cX13_readCar 30 = .ok (.sipush 500, 3) := by decide +kernel
theorem dX13_readCar_33 : decode cX13_readCar 33 = .ok (.sipush 800, 3) := by decide +kernel
theorem dX13_readCar_36 : decode cX13_readCar 36 = .ok (.invokevirtual 257, 3) := by decide +kernel
theorem dX13_readCar_39 : decode cX13_readCar 39 = .ok (.istore_n 2, 1) := by decide +kernel
theorem dX13_readCar_40 : decode cX13_readCar 40 = .ok (.aload_n 0, 1) := by decide +kernel
theorem dX13_readCar_41 : decode cX13_readCar 41 = .ok (.ldc_w 350, 3) := by decide +kernel
theorem dX13_readCar_44 : decode cX13_readCar 44 = .ok (.iconst 1, 1) := by decide +kernel
theorem dX13_readCar_45 : decode cX13_readCar 45 = .ok (.bipush 6, 2) := by decide +kernel
theorem dX13_readCar_47 : decode cX13_readCar 47 = .ok (.invokevirtual 257, 3) := by decide +kernel
theorem dX13_readCar_50 : decode cX13_readCar 50 = .ok (.istore_n 3, 1) := by decide +kernel
theorem dX13_readCar_51 : decode cX13_readCar 51 = .ok (.aload_n 0, 1) := by decide +kernel
theorem dX13_readCar_52 : decode cX13_readCar 52 = .ok (.ldc_w 352, 3) := by decide +kernel
theorem dX13_readCar_55 : decode cX13_readCar 55 = .ok (.iconst 0, 1) := by decide +kernel
theorem dX13_readCar_56 : decode cX13_readCar 56 = .ok (.bipush 50, 2) := by decide +kernel
theorem dX13_readCar_58 : decode cX13_readCar 58 = .ok (.invokevirtual 257, 3) := by decide +kernel
theorem dX13_readCar_61 : decode cX13_readCar 61 = .ok (.istore 4, 2) := by decide +kernel
theorem dX13_readCar_63 : decode cX13_readCar 63 = .ok (.aload_n 0, 1) := by decide +kernel
theorem dX13_readCar_64 : decode cX13_readCar 64 = .ok (.ldc 185, 2) := by decide +kernel
theorem dX13_readCar_66 : decode cX13_readCar 66 = .ok (.invokevirtual 326, 3) := by decide +kernel
theorem dX13_readCar_69 : decode cX13_readCar 69 = .ok (.istore 5, 2) := by decide +kernel
theorem dX13_readCar_71 : decode cX13_readCar 71 = .ok (.aload_n 0, 1) := by decide +kernel
theorem dX13_readCar_72 : decode cX13_readCar 72 = .ok (.getfield 100, 3) := by decide +kernel
theorem dX13_readCar_75 : decode cX13_readCar 75 = .ok (.iconst 5, 1) := by decide +kernel
theorem dX13_readCar_76 : decode cX13_readCar 76 = .ok (.if_icmp .ne 4, 3) := by decide +kernel
theorem dX13_readCar_79 : decode cX13_readCar 79 = .ok (.return_, 1) := by decide +kernel
theorem dX13_readCar_80 : decode cX13_readCar 80 = .ok (.aload_n 0, 1) := by decide +kernel
theorem dX13_readCar_81 : decode cX13_readCar 81 = .ok (.getfield 191, 3) := by decide +kernel
theorem dX13_readCar_84 : decode cX13_readCar 84 = .ok (.getfield 226, 3) := by decide +kernel
theorem dX13_readCar_87 : decode cX13_readCar 87 = .ok (.istore 6, 2) := by decide +kernel
theorem dX13_readCar_89 : decode cX13_readCar 89 = .ok (.aload_n 0, 1) := by decide +kernel
theorem dX13_readCar_90 : decode cX13_readCar 90 = .ok (.getfield 191, 3) := by decide +kernel
theorem dX13_readCar_93 : decode cX13_readCar 93 = .ok (.getfield 354, 3) := by decide +kernel
theorem dX13_readCar_96 : decode cX13_readCar 96 = .ok (.iload 6, 2) := by decide +kernel
theorem dX13_readCar_98 : decode cX13_readCar 98 = .ok (.iload_n 1, 1) := by decide +kernel
theorem dX13_readCar_99 : decode cX13_readCar 99 = .ok (.iastore, 1) := by decide +kernel
theorem dX13_readCar_100 : decode cX13_readCar 100 = .ok (.aload_n 0, 1) := by decide +kernel
theorem dX13_readCar_101 : decode cX13_readCar 101 = .ok (.getfield 191, 3) := by decide +kernel
theorem dX13_readCar_104 : decode cX13_readCar 104 = .ok (.getfield 356, 3) := by decide +kernel
theorem dX13_readCar_107 : decode cX13_readCar 107 = .ok (.iload 6, 2) := by decide +kernel
theorem dX13_readCar_109 : decode cX13_readCar 109 = .ok (.iload_n 2, 1) := by decide +kernel
theorem dX13_readCar_110 : decode cX13_readCar 110 = .ok (.iastore, 1) := by decide +kernel
theorem dX13_readCar_111 : decode cX13_readCar 111 = .ok (.aload_n 0, 1) := by decide +kernel
theorem dX13_readCar_112 : decode cX13_readCar 112 = .ok (.getfield 191, 3) := by decide +kernel
theorem dX13_readCar_115 : decode cX13_readCar 115 = .ok (.getfield 358, 3) := by decide +kernel
theorem dX13_readCar_118 : decode cX13_readCar 118 = .ok (.iload 6, 2) := by decide +kernel
theorem dX13_readCar_120 : decode cX13_readCar 120 = .ok (.iload_n 3, 1) := by decide +kernel
theorem dX13_readCar_121 : decode cX13_readCar 121 = .ok (.iastore, 1) := by decide +kernel
theorem dX13_readCar_122 : decode cX13_readCar 122 = .ok (.aload_n 0, 1) := by decide +kernel
theorem dX13_readCar_123 : decode cX13_readCar 123 = .ok (.getfield 191, 3) := by decide +kernel
theorem dX13_readCar_126 : decode cX13_readCar 126 = .ok (.getfield 360, 3) := by decide +kernel
theorem dX13_readCar_129 : decode cX13_readCar 129 = .ok (.iload 6, 2) := by decide +kernel
theorem dX13_readCar_131 : decode cX13_readCar 131 = .ok (.iload 4, 2) := by decide +kernel
theorem dX13_readCar_133 : decode cX13_readCar 133 = .ok (.iastore, 1) := by decide +kernel
theorem dX13_readCar_134 : decode cX13_readCar 134 = .ok (.aload_n 0, 1) := by decide +kernel
theorem dX13_readCar_135 : decode cX13_readCar 135 = .ok (.getfield 191, 3) := by decide +kernel
theorem dX13_readCar_138 : decode cX13_readCar 138 = .ok (.getfield 362, 3) := by decide +kernel
theorem dX13_readCar_141 : decode cX13_readCar 141 = .ok (.iload 6, 2) := by decide +kernel
theorem dX13_readCar_143 : decode cX13_readCar 143 = .ok (.iload 5, 2) := by decide +kernel
theorem dX13_readCar_145 : decode cX13_readCar 145 = .ok (.bastore, 1) := by decide +kernel
theorem dX13_readCar_146 : decode cX13_readCar 146 = .ok (.aload_n 0, 1) := by decide +kernel
theorem dX13_readCar_147 : decode cX13_readCar 147 = .ok (.getfield 191, 3) := by decide +kernel
theorem dX13_readCar_150 : decode cX13_readCar 150 = .ok (.dup, 1) := by decide +kernel
theorem dX13_readCar_151 : decode cX13_readCar 151 = .ok (.getfield 226, 3) := by decide +kernel
theorem dX13_readCar_154 : decode cX13_readCar 154 = .ok (.iconst 1, 1) := by decide +kernel
theorem dX13_readCar_155 : decode cX13_readCar 155 = .ok (.iadd, 1) := by decide +kernel
theorem dX13_readCar_156 : decode cX13_readCar 156 = .ok (.putfield 226, 3) := by decide +kernel
theorem dX13_readCar_159 : decode cX13_readCar 159 = .ok (.return_, 1) := by decide +kernel
theorem dX13_readCall_0 : decode cX13_readCall 0 = .ok (.aload_n 0, 1) := by decide +kernel
theorem dX13_readCall_1 : decode cX13_readCall 1 = .ok (.aload_n 0, 1) := by decide +kernel
theorem dX13_readCall_2 : decode cX13_readCall 2 = .ok (.getfield 191, 3) := by decide +kernel
theorem dX13_readCall_5 : decode cX13_readCall 5 = .ok (.getfield 365, 3) := by decide +kernel
theorem dX13_readCall_8 : decode cX13_readCall 8 = .ok (.iconst 5, 1) := by decide +kernel
theorem dX13_readCall_9 : decode cX13_readCall 9 = .ok (.iconst 3, 1) := by decide +kernel
theorem dX13_readCall_10 : decode cX13_readCall 10 = .ok (.invokevirtual 268, 3) := by decide +kernel
theorem dX13_readCall_13 : decode cX13_readCall 13 = .ok (.aload_n 0, 1) := by decide +kernel
theorem dX13_readCall_14 : decode cX13_readCall 14 = .ok (.ldc_w 368, 3) := by decide +kernel
theorem dX13_readCall_17 : decode cX13_readCall 17 = .ok (.iconst 1, 1) := by decide +kernel
theorem dX13_readCall_18 : decode cX13_readCall 18 = .ok (.bipush 60, 2) := by decide +kernel
theorem dX13_readCall_20 : decode cX13_readCall 20 = .ok (.invokevirtual 257, 3) := by decide +kernel
theorem dX13_readCall_23 : decode cX13_readCall 23 = .ok (.istore_n 1, 1) := by decide +kernel
theorem dX13_readCall_24 : decode cX13_readCall 24 = .ok (.aload_n 0, 1) := by decide +kernel
theorem dX13_readCall_25 : decode cX13_readCall 25 = .ok (.ldc_w 322, 3) := by decide +kernel
theorem dX13_readCall_28 : decode cX13_readCall 28 = .ok (.iconst 0, 1) := by decide +kernel
theorem dX13_readCall_29 : decode cX13_readCall 29 = .ok (.bipush 100, 2) := by decide +kernel
theorem dX13_readCall_31 : decode cX13_readCall 31 = .ok (.invokevirtual 257, 3) := by decide +kernel
theorem dX13_readCall_34 : decode cX13_readCall 34 = .ok (.istore_n 2, 1) := by decide +kernel
theorem dX13_readCall_35 : decode cX13_readCall 35 = .ok (.aload_n 0, 1) := by decide +kernel
theorem dX13_readCall_36 : decode cX13_readCall 36 = .ok (.getfield 100, 3) := by decide +kernel
theorem dX13_readCall_39 : decode cX13_readCall 39 = .ok (.iconst 5, 1) := by decide +kernel
theorem dX13_readCall_40 : decode cX13_readCall 40 = .ok (.if_icmp .ne 4, 3) := by decide +kernel
theorem dX13_readCall_43 : decode cX13_readCall 43 = .ok (.return_, 1) := by decide +kernel
theorem dX13_readCall_44 : decode cX13_readCall 44 = .ok (.aload_n 0, 1) := by decide +kernel
theorem dX13_readCall_45 : decode cX13_readCall 45 = .ok (.getfield 191, 3) := by decide +kernel
theorem dX13_readCall_48 : decode cX13_readCall 48 = .ok (.getfield 370, 3) := by decide +kernel
theorem dX13_readCall_51 : decode cX13_readCall 51 = .ok (.aload_n 0, 1) := by decide +kernel
theorem dX13_readCall_52 : decode cX13_readCall 52 = .ok (.getfield 191, 3) := by decide +kernel
theorem dX13_readCall_55 : decode cX13_readCall 55 = .ok (.getfield 365, 3) := by decide +kernel
theorem dX13_readCall_58 : decode cX13_readCall 58 = .ok (.iload_n 1, 1) := by decide +kernel
theorem dX13_readCall_59 : decode cX13_readCall 59 = .ok (.iastore, 1) := by decide +kernel
theorem dX13_readCall_60 : decode cX13_readCall 60 = .ok (.aload_n 0, 1) := by decide +kernel
theorem dX13_readCall_61 : decode cX13_readCall 61 = .ok (.getfield 191, 3) := by decide +kernel
theorem dX13_readCall_64 : decode cX13_readCall 64 = .ok (.getfield 372, 3) := by decide +kernel
theorem dX13_readCall_67 : decode cX13_readCall 67 = .ok (.aload_n 0, 1) := by decide +kernel
theorem dX13_readCall_68 : decode cX13_readCall 68 = .ok (.getfield 191, 3) := by decide +kernel
theorem dX13_readCall_71 : decode cX13_readCall 71 = .ok (.getfield 365, 3) := by decide +kernel
theorem dX13_readCall_74 : decode cX13_readCall 74 = .ok (.iload_n 2, 1) := by decide +kernel
theorem dX13_readCall_75 : decode cX13_readCall 75 = .ok (.iastore, 1) := by decide +kernel
theorem dX13_readCall_76 : decode cX13_readCall 76 = .ok (.aload_n 0, 1) := by decide +kernel
theorem dX13_readCall_77 : decode cX13_readCall 77 = .ok (.getfield 191, 3) := by decide +kernel
theorem dX13_readCall_80 : decode cX13_readCall 80 = .ok (.dup, 1) := by decide +kernel
theorem dX13_readCall_81 : decode cX13_readCall 81 = .ok (.getfield 365, 3) := by decide +kernel
theorem dX13_readCall_84 : decode cX13_readCall 84 = .ok (.iconst 1, 1) := by decide +kernel
theorem dX13_readCall_85 : decode cX13_readCall 85 = .ok (.iadd, 1) := by decide +kernel
theorem dX13_readCall_86 : decode cX13_readCall 86 = .ok (.putfield 365, 3) := by decide +kernel
theorem dX13_readCall_89 : decode cX13_readCall 89 = .ok (.return_, 1) := by decide +kernel
theorem dX13_readHelper_0 : decode cX13_readHelper 0 = .ok (.aload_n 0, 1) := by decide +kernel
theorem dX13_readHelper_1 : decode cX13_readHelper 1 = .ok (.aload_n 0, 1) := by decide +kernel
theorem dX13_readHelper_2 : decode cX13_readHelper 2 = .ok (.getfield 191, 3) := by decide +kernel
theorem dX13_readHelper_5 : decode cX13_readHelper 5 = .ok (.getfield 375, 3) := by decide +kernel
theorem dX13_readHelper_8 : decode cX13_readHelper 8 = .ok (.iconst 5, 1) := by decide +kernel
theorem dX13_readHelper_9 : decode cX13_readHelper 9 = .ok (.iconst 3, 1) := by decide +kernel
theorem dX13_readHelper_10 : decode cX13_readHelper 10 = .ok (.invokevirtual 268, 3) := by decide +kernel
theorem dX13_readHelper_13 : decode cX13_readHelper 13 = .ok (.aload_n 0, 1) := by decide +kernel
theorem dX13_readHelper_14 : decode cX13_readHelper 14 = .ok (.ldc_w 378, 3) := by decide +kernel
theorem dX13_readHelper_17 : decode cX13_readHelper 17 = .ok (.invokevirtual 157, 3) := by decide +kernel
theorem dX13_readHelper_20 : decode cX13_readHelper 20 = .ok (.iconst 0, 1) := by decide +kernel
theorem dX13_readHelper_21 : decode cX13_readHelper 21 = .ok (.istore_n 1, 1) := by decide +kernel
theorem dX13_readHelper_22 : decode cX13_readHelper 22 = .ok (.aload_n 0, 1) := by decide +kernel
theorem dX13_readHelper_23 : decode cX13_readHelper 23 = .ok (.getfield 100, 3) := by decide +kernel
theorem dX13_readHelper_26 : decode cX13_readHelper 26 = .ok (.iconst 5, 1) := by decide +kernel
theorem dX13_readHelper_27 : decode cX13_readHelper 27 = .ok (.if_icmp .eq 7, 3) := by decide +kernel
theorem dX13_readHelper_30 : decode cX13_readHelper 30 = .ok (.iconst 1, 1) := by decide +kernel
theorem dX13_readHelper_31 : decode cX13_readHelper 31 = .ok (.goto 4, 3) := by decide +kernel
theorem dX13_readHelper_34 : decode cX13_readHelper 34 = .ok (.iconst 0, 1) := by decide +kernel
theorem dX13_readHelper_35 : decode cX13_readHelper 35 = .ok (.istore_n 2, 1) := by decide +kernel
theorem dX13_readHelper_36 : decode cX13_readHelper 36 = .ok (.iload_n 2, 1) := by decide +kernel
theorem dX13_readHelper_37 : decode cX13_readHelper 37 = .ok (.ifCond .eq 70, 3) := by decide +kernel
theorem dX13_readHelper_40 : decode cX13_readHelper 40 = .ok (.aload_n 0, 1) := by decide +kernel
theorem dX13_readHelper_41 : decode cX13_readHelper 41 = .ok (.getfield 100, 3) := by decide +kernel
theorem dX13_readHelper_44 : decode cX13_readHelper 44 = .ok (.iconst 3, 1) := by decide +kernel
theorem dX13_readHelper_45 : decode cX13_readHelper 45 = .ok (.if_icmp .ne 29, 3) := by decide +kernel
theorem dX13_readHelper_48 : decode cX13_readHelper 48 = .ok (.aload_n 0, 1) := by decide +kernel
theorem dX13_readHelper_49 : decode cX13_readHelper 49 = .ok (.getfield 129, 3) := by decide +kernel
theorem dX13_readHelper_52 : decode cX13_readHelper 52 = .ok (.bipush 7, 2) := by decide +kernel
theorem dX13_readHelper_54 : decode cX13_readHelper 54 = .ok (.if_icmp .ge 20, 3) := by decide +kernel
theorem dX13_readHelper_57 : decode cX13_readHelper 57 = .ok (.iload_n 1, 1) := by decide +kernel
theorem dX13_readHelper_58 : decode cX13_readHelper 58 = .ok (.aload_n 0, 1) := by decide +kernel
theorem dX13_readHelper_59 : decode cX13_readHelper 59 = .ok (.getfield 129, 3) := by decide +kernel
theorem dX13_readHelper_62 : decode cX13_readHelper 62 = .ok (.ishr, 1) := by decide +kernel
theorem dX13_readHelper_63 : decode cX13_readHelper 63 = .ok (.iconst 1, 1) := by decide +kernel
theorem dX13_readHelper_64 : decode cX13_readHelper 64 = .ok (.iand, 1) := by decide +kernel
theorem dX13_readHelper_65 : decode cX13_readHelper 65 = .ok (.iconst 1, 1) := by decide +kernel
theorem dX13_readHelper_66 : decode cX13_readHelper 66 = .ok (.if_icmp .ne 8, 3) := by decide +kernel
theorem dX13_readHelper_69 : decode cX13_readHelper 69 = .ok (.aload_n 0, 1) := by decide +kernel
theorem dX13_readHelper_70 : decode cX13_readHelper 70 = .ok (.iconst 3, 1) := by decide +kernel
theorem dX13_readHelper_71 : decode cX13_readHelper 71 = .ok (.invokevirtual 149, 3) := by decide +kernel
theorem dX13_readHelper_74 : decode cX13_readHelper 74 = .ok (.aload_n 0, 1) := by decide +kernel
theorem dX13_readHelper_75 : decode cX13_readHelper 75 = .ok (.iconst 0, 1) := by decide +kernel
theorem dX13_readHelper_76 : decode cX13_readHelper 76 = .ok (.bipush 6, 2) := by decide +kernel
theorem dX13_readHelper_78 : decode cX13_readHelper 78 = .ok (.invokevirtual 161, 3) := by decide +kernel
theorem dX13_readHelper_81 : decode cX13_readHelper 81 = .ok (.istore_n 3, 1) := by decide +kernel
theorem dX13_readHelper_82 : decode cX13_readHelper 82 = .ok (.aload_n 0, 1) := by decide +kernel
theorem dX13_readHelper_83 : decode cX13_readHelper 83 = .ok (.getfield 100, 3) := by decide +kernel
theorem dX13_readHelper_86 : decode cX13_readHelper 86 = .ok (.iconst 5, 1) := by decide +kernel
theorem dX13_readHelper_87 : decode cX13_readHelper 87 = .ok (.if_icmp .ne 4, 3) := by decide +kernel
theorem dX13_readHelper_90 : decode cX13_readHelper 90 = .ok (.return_, 1) := by decide +kernel
theorem dX13_readHelper_91 : decode cX13_readHelper 91 = .ok (.iload_n 1, 1) := by decide +kernel
theorem dX13_readHelper_92 : decode cX13_readHelper 92 = .ok (.iconst 1, 1) := by decide +kernel
theorem dX13_readHelper_93 : decode cX13_readHelper 93 = .ok (.iload_n 3, 1) := by decide +kernel
theorem dX13_readHelper_94 : decode cX13_readHelper 94 = .ok (.ishl, 1) := by decide +kernel
theorem dX13_readHelper_95 : decode cX13_readHelper 95 = .ok (.ior, 1) := by decide +kernel
theorem dX13_readHelper_96 : decode cX13_readHelper 96 = .ok (.istore_n 1, 1) := by decide +kernel
theorem dX13_readHelper_97 : decode cX13_readHelper 97 = .ok (.aload_n 0, 1) := by decide +kernel
theorem dX13_readHelper_98 : decode cX13_readHelper 98 = .ok (.bipush 44, 2) := by decide +kernel
theorem dX13_readHelper_100 : decode cX13_readHelper 100 = .ok (.invokevirtual 217, 3) := by decide +kernel
theorem dX13_readHelper_103 : decode cX13_readHelper 103 = .ok (.istore_n 2, 1) := by decide +kernel
theorem dX13_readHelper_104 : decode cX13_readHelper 104 = .ok (.goto (-68), 3) := by decide +kernel
theorem dX13_readHelper_107 : decode cX13_readHelper 107 = .ok (.aload_n 0, 1) := by decide +kernel
theorem dX13_readHelper_108 : decode cX13_readHelper 108 = .ok (.ldc_w 380, 3) := by decide +kernel
theorem dX13_readHelper_111 : decode cX13_readHelper 111 = .ok (.iconst 1, 1) := by decide +kernel
theorem dX13_readHelper_112 : decode cX13_readHelper 112 = .ok (.bipush 7, 2) := by decide +kernel
theorem dX13_readHelper_114 : decode cX13_readHelper 114 = .ok (.invokevirtual 257, 3) := by decide +kernel
theorem dX13_readHelper_117 : decode cX13_readHelper 117 = .ok (.istore_n 3, 1) := by decide +kernel
theorem dX13_readHelper_118 : decode cX13_readHelper 118 = .ok (.aload_n 0, 1) := by decide +kernel
theorem dX13_readHelper_119 : decode cX13_readHelper 119 = .ok (.getfield 100, 3) := by decide +kernel
theorem dX13_readHelper_122 : decode cX13_readHelper 122 = .ok (.iconst 5, 1) := by decide +kernel
theorem dX13_readHelper_123 : decode cX13_readHelper 123 = .ok (.if_icmp .ne 4, 3) := by decide +kernel
theorem dX13_readHelper_126 : decode cX13_readHelper 126 = .ok (.return_, 1) := by decide +kernel
theorem dX13_readHelper_127 : decode cX13_readHelper 127 = .ok (.aload_n 0, 1) := by decide +kernel
theorem dX13_readHelper_128 : decode cX13_readHelper 128 = .ok (.getfield 191, 3) := by decide +kernel
theorem dX13_readHelper_131 : decode cX13_readHelper 131 = .ok (.getfield 382, 3) := by decide +kernel
theorem dX13_readHelper_134 : decode cX13_readHelper 134 = .ok (.aload_n 0, 1) := by decide +kernel
theorem dX13_readHelper_135 : decode cX13_readHelper 135 = .ok (.getfield 191, 3) := by decide +kernel
theorem dX13_readHelper_138 : decode cX13_readHelper 138 = .ok (.getfield 375, 3) := by decide +kernel
theorem dX13_readHelper_141 : decode cX13_readHelper 141 = .ok (.iload_n 1, 1) := by decide +kernel
theorem dX13_readHelper_142 : decode cX13_readHelper 142 = .ok (.iastore, 1) := by decide +kernel
theorem dX13_readHelper_143 : decode cX13_readHelper 143 = .ok (.aload_n 0, 1) := by decide +kernel
theorem dX13_readHelper_144 : decode cX13_readHelper 144 = .ok (.getfield 191, 3) := by decide +kernel
theorem dX13_readHelper_147 : decode cX13_readHelper 147 = .ok (.getfield 385, 3) := by decide +kernel
theorem dX13_readHelper_150 : decode cX13_readHelper 150 = .ok (.aload_n 0, 1) := by decide +kernel
theorem dX13_readHelper_151 : decode cX13_readHelper 151 = .ok (.getfield 191, 3) := by decide +kernel
theorem dX13_readHelper_154 : decode cX13_readHelper 154 = .ok (.getfield 375, 3) := by decide +kernel
theorem dX13_readHelper_157 : decode cX13_readHelper 157 = .ok (.iload_n 3, 1) := by decide +kernel
theorem dX13_readHelper_158 : decode cX13_readHelper 158 = .ok (.iastore, 1) := by decide +kernel
theorem dX13_readHelper_159 : decode cX13_readHelper 159 = .ok (.aload_n 0, 1) := by decide +kernel
theorem dX13_readHelper_160 : decode cX13_readHelper 160 = .ok (.getfield 191, 3) := by decide +kernel
theorem dX13_readHelper_163 : decode cX13_readHelper 163 = .ok (.dup, 1) := by decide +kernel
theorem dX13_readHelper_164 : decode cX13_readHelper 164 = .ok (.getfield 375, 3) := by decide +kernel
theorem dX13_readHelper_167 : decode cX13_readHelper 167 = .ok (.iconst 1, 1) := by decide +kernel
theorem dX13_readHelper_168 : decode cX13_readHelper 168 = .ok (.iadd, 1) := by decide +kernel
theorem dX13_readHelper_169 : decode cX13_readHelper 169 = .ok (.putfield 375, 3) := by decide +kernel
theorem dX13_readHelper_172 : decode cX13_readHelper 172 = .ok (.return_, 1) := by decide +kernel
theorem dX13_feed_0 : decode cX13_feed 0 = .ok (.aload_n 0, 1) := by decide +kernel
theorem dX13_feed_1 : decode cX13_feed 1 = .ok (.iconst 0, 1) := by decide +kernel
theorem dX13_feed_2 : decode cX13_feed 2 = .ok (.putfield 75, 3) := by decide +kernel
theorem dX13_feed_5 : decode cX13_feed 5 = .ok (.aload_n 0, 1) := by decide +kernel
theorem dX13_feed_6 : decode cX13_feed 6 = .ok (.getfield 387, 3) := by decide +kernel
theorem dX13_feed_9 : decode cX13_feed 9 = .ok (.bipush 20, 2) := by decide +kernel
theorem dX13_feed_11 : decode cX13_feed 11 = .ok (.iadd, 1) := by decide +kernel
theorem dX13_feed_12 : decode cX13_feed 12 = .ok (.sipush 900, 3) := by decide +kernel
theorem dX13_feed_15 : decode cX13_feed 15 = .ok (.if_icmp .le 5, 3) := by decide +kernel
theorem dX13_feed_18 : decode cX13_feed 18 = .ok (.iconst (-1), 1) := by decide +kernel
theorem dX13_feed_19 : decode cX13_feed 19 = .ok (.ireturn, 1) := by decide +kernel
theorem dX13_feed_20 : decode cX13_feed 20 = .ok (.iconst 0, 1) := by decide +kernel
theorem dX13_feed_21 : decode cX13_feed 21 = .ok (.istore 6, 2) := by decide +kernel
theorem dX13_feed_23 : decode cX13_feed 23 = .ok (.iload 6, 2) := by decide +kernel
theorem dX13_feed_25 : decode cX13_feed 25 = .ok (.bipush 20, 2) := by decide +kernel
theorem dX13_feed_27 : decode cX13_feed 27 = .ok (.if_icmp .ge 90, 3) := by decide +kernel
theorem dX13_feed_30 : decode cX13_feed 30 = .ok (.iload 6, 2) := by decide +kernel
theorem dX13_feed_32 : decode cX13_feed 32 = .ok (.iconst 4, 1) := by decide +kernel
theorem dX13_feed_33 : decode cX13_feed 33 = .ok (.if_icmp .ge 7, 3) := by decide +kernel
theorem dX13_feed_36 : decode cX13_feed 36 = .ok (.iload_n 1, 1) := by decide +kernel
theorem dX13_feed_37 : decode cX13_feed 37 = .ok (.goto 39, 3) := by decide +kernel
theorem dX13_feed_40 : decode cX13_feed 40 = .ok (.iload 6, 2) := by decide +kernel
theorem dX13_feed_42 : decode cX13_feed 42 = .ok (.bipush 8, 2) := by decide +kernel
theorem dX13_feed_44 : decode cX13_feed 44 = .ok (.if_icmp .ge 7, 3) := by decide +kernel
theorem dX13_feed_47 : decode cX13_feed 47 = .ok (.iload_n 2, 1) := by decide +kernel
theorem dX13_feed_48 : decode cX13_feed 48 = .ok (.goto 28, 3) := by decide +kernel
theorem dX13_feed_51 : decode cX13_feed 51 = .ok (.iload 6, 2) := by decide +kernel
theorem dX13_feed_53 : decode cX13_feed 53 = .ok (.bipush 12, 2) := by decide +kernel
theorem dX13_feed_55 : decode cX13_feed 55 = .ok (.if_icmp .ge 7, 3) := by decide +kernel
theorem dX13_feed_58 : decode cX13_feed 58 = .ok (.iload_n 3, 1) := by decide +kernel
theorem dX13_feed_59 : decode cX13_feed 59 = .ok (.goto 17, 3) := by decide +kernel
theorem dX13_feed_62 : decode cX13_feed 62 = .ok (.iload 6, 2) := by decide +kernel
theorem dX13_feed_64 : decode cX13_feed 64 = .ok (.bipush 16, 2) := by decide +kernel
theorem dX13_feed_66 : decode cX13_feed 66 = .ok (.if_icmp .ge 8, 3) := by decide +kernel
theorem dX13_feed_69 : decode cX13_feed 69 = .ok (.iload 4, 2) := by decide +kernel
theorem dX13_feed_71 : decode cX13_feed 71 = .ok (.goto 5, 3) := by decide +kernel
theorem dX13_feed_74 : decode cX13_feed 74 = .ok (.iload 5, 2) := by decide +kernel
theorem dX13_feed_76 : decode cX13_feed 76 = .ok (.istore 7, 2) := by decide +kernel
theorem dX13_feed_78 : decode cX13_feed 78 = .ok (.aload_n 0, 1) := by decide +kernel
theorem dX13_feed_79 : decode cX13_feed 79 = .ok (.getfield 13, 3) := by decide +kernel
theorem dX13_feed_82 : decode cX13_feed 82 = .ok (.aload_n 0, 1) := by decide +kernel
theorem dX13_feed_83 : decode cX13_feed 83 = .ok (.getfield 387, 3) := by decide +kernel
theorem dX13_feed_86 : decode cX13_feed 86 = .ok (.iload 7, 2) := by decide +kernel
theorem dX13_feed_88 : decode cX13_feed 88 = .ok (.bipush 24, 2) := by decide +kernel
theorem dX13_feed_90 : decode cX13_feed 90 = .ok (.bipush 8, 2) := by decide +kernel
theorem dX13_feed_92 : decode cX13_feed 92 = .ok (.iload 6, 2) := by decide +kernel
theorem dX13_feed_94 : decode cX13_feed 94 = .ok (.iconst 4, 1) := by decide +kernel
theorem dX13_feed_95 : decode cX13_feed 95 = .ok (.irem, 1) := by decide +kernel
theorem dX13_feed_96 : decode cX13_feed 96 = .ok (.imul, 1) := by decide +kernel
theorem dX13_feed_97 : decode cX13_feed 97 = .ok (.isub, 1) := by decide +kernel
theorem dX13_feed_98 : decode cX13_feed 98 = .ok (.ishr, 1) := by decide +kernel
theorem dX13_feed_99 : decode cX13_feed 99 = .ok (.i2b, 1) := by decide +kernel
theorem dX13_feed_100 : decode cX13_feed 100 = .ok (.bastore, 1) := by decide +kernel
theorem dX13_feed_101 : decode cX13_feed 101 = .ok (.aload_n 0, 1) := by decide +kernel
theorem dX13_feed_102 : decode cX13_feed 102 = .ok (.dup, 1) := by decide +kernel
theorem dX13_feed_103 : decode cX13_feed 103 = .ok (.getfield 387, 3) := by decide +kernel
theorem dX13_feed_106 : decode cX13_feed 106 = .ok (.iconst 1, 1) := by decide +kernel
theorem dX13_feed_107 : decode cX13_feed 107 = .ok (.iadd, 1) := by decide +kernel
theorem dX13_feed_108 : decode cX13_feed 108 = .ok (.putfield 387, 3) := by decide +kernel
theorem dX13_feed_111 : decode cX13_feed 111 = .ok (.iinc 6 1, 3) := by decide +kernel
theorem dX13_feed_114 : decode cX13_feed 114 = .ok (.goto (-91), 3) := by decide +kernel
theorem dX13_feed_117 : decode cX13_feed 117 = .ok (.aload_n 0, 1) := by decide +kernel
theorem dX13_feed_118 : decode cX13_feed 118 = .ok (.getfield 387, 3) := by decide +kernel
theorem dX13_feed_121 : decode cX13_feed 121 = .ok (.ireturn, 1) := by decide +kernel
theorem dX13_day_0 : decode cX13_day 0 = .ok (.aload_n 0, 1) := by decide +kernel
theorem dX13_day_1 : decode cX13_day 1 = .ok (.iconst 0, 1) := by decide +kernel
theorem dX13_day_2 : decode cX13_day 2 = .ok (.putfield 75, 3) := by decide +kernel
theorem dX13_day_5 : decode cX13_day 5 = .ok (.iload_n 1, 1) := by decide +kernel
theorem dX13_day_6 : decode cX13_day 6 = .ok (.ifCond .lt 11, 3) := by decide +kernel
theorem dX13_day_9 : decode cX13_day 9 = .ok (.iload_n 1, 1) := by decide +kernel
theorem dX13_day_10 : decode cX13_day 10 = .ok (.aload_n 0, 1) := by decide +kernel
theorem dX13_day_11 : decode cX13_day 11 = .ok (.getfield 387, 3) := by decide +kernel
theorem dX13_day_14 : decode cX13_day 14 = .ok (.if_icmp .le 9, 3) := by decide +kernel
theorem dX13_day_17 : decode cX13_day 17 = .ok (.aload_n 0, 1) := by decide +kernel
theorem dX13_day_18 : decode cX13_day 18 = .ok (.iconst 2, 1) := by decide +kernel
theorem dX13_day_19 : decode cX13_day 19 = .ok (.invokevirtual 81, 3) := by decide +kernel
theorem dX13_day_22 : decode cX13_day 22 = .ok (.ireturn, 1) := by decide +kernel
theorem dX13_day_23 : decode cX13_day 23 = .ok (.aload_n 0, 1) := by decide +kernel
theorem dX13_day_24 : decode cX13_day 24 = .ok (.iload_n 1, 1) := by decide +kernel
theorem dX13_day_25 : decode cX13_day 25 = .ok (.putfield 85, 3) := by decide +kernel
theorem dX13_day_28 : decode cX13_day 28 = .ok (.aload_n 0, 1) := by decide +kernel
theorem dX13_day_29 : decode cX13_day 29 = .ok (.iconst 0, 1) := by decide +kernel
theorem dX13_day_30 : decode cX13_day 30 = .ok (.putfield 387, 3) := by decide +kernel
theorem dX13_day_33 : decode cX13_day 33 = .ok (.aload_n 0, 1) := by decide +kernel
theorem dX13_day_34 : decode cX13_day 34 = .ok (.iconst 0, 1) := by decide +kernel
theorem dX13_day_35 : decode cX13_day 35 = .ok (.putfield 103, 3) := by decide +kernel
theorem dX13_day_38 : decode cX13_day 38 = .ok (.aload_n 0, 1) := by decide +kernel
theorem dX13_day_39 : decode cX13_day 39 = .ok (.iconst 0, 1) := by decide +kernel
theorem dX13_day_40 : decode cX13_day 40 = .ok (.putfield 132, 3) := by decide +kernel
theorem dX13_day_43 : decode cX13_day 43 = .ok (.aload_n 0, 1) := by decide +kernel
theorem dX13_day_44 : decode cX13_day 44 = .ok (.new 196, 3) := by decide +kernel
theorem dX13_day_47 : decode cX13_day 47 = .ok (.dup, 1) := by decide +kernel
theorem dX13_day_48 : decode cX13_day 48 = .ok (.invokespecial 390, 3) := by decide +kernel
theorem dX13_day_51 : decode cX13_day 51 = .ok (.putfield 191, 3) := by decide +kernel
theorem dX13_day_54 : decode cX13_day 54 = .ok (.aload_n 0, 1) := by decide +kernel
theorem dX13_day_55 : decode cX13_day 55 = .ok (.iconst 0, 1) := by decide +kernel
theorem dX13_day_56 : decode cX13_day 56 = .ok (.putfield 100, 3) := by decide +kernel
theorem dX13_day_59 : decode cX13_day 59 = .ok (.aload_n 0, 1) := by decide +kernel
theorem dX13_day_60 : decode cX13_day 60 = .ok (.invokevirtual 146, 3) := by decide +kernel
theorem dX13_day_63 : decode cX13_day 63 = .ok (.aload_n 0, 1) := by decide +kernel
theorem dX13_day_64 : decode cX13_day 64 = .ok (.invokevirtual 391, 3) := by decide +kernel
theorem dX13_day_67 : decode cX13_day 67 = .ok (.aload_n 0, 1) := by decide +kernel
theorem dX13_day_68 : decode cX13_day 68 = .ok (.getfield 132, 3) := by decide +kernel
theorem dX13_day_71 : decode cX13_day 71 = .ok (.ifCond .le 18, 3) := by decide +kernel
theorem dX13_day_74 : decode cX13_day 74 = .ok (.aload_n 0, 1) := by decide +kernel
theorem dX13_day_75 : decode cX13_day 75 = .ok (.iconst 4, 1) := by decide +kernel
theorem dX13_day_76 : decode cX13_day 76 = .ok (.putfield 78, 3) := by decide +kernel
theorem dX13_day_79 : decode cX13_day 79 = .ok (.aload_n 0, 1) := by decide +kernel
theorem dX13_day_80 : decode cX13_day 80 = .ok (.aload_n 0, 1) := by decide +kernel
theorem dX13_day_81 : decode cX13_day 81 = .ok (.getfield 135, 3) := by decide +kernel
theorem dX13_day_84 : decode cX13_day 84 = .ok (.putfield 9, 3) := by decide +kernel
theorem dX13_day_87 : decode cX13_day 87 = .ok (.iconst (-1), 1) := by decide +kernel
theorem dX13_day_88 : decode cX13_day 88 = .ok (.ireturn, 1) := by decide +kernel
theorem dX13_day_89 : decode cX13_day 89 = .ok (.aload_n 0, 1) := by decide +kernel
theorem dX13_day_90 : decode cX13_day 90 = .ok (.aload_n 0, 1) := by decide +kernel
theorem dX13_day_91 : decode cX13_day 91 = .ok (.getfield 191, 3) := by decide +kernel
theorem dX13_day_94 : decode cX13_day 94 = .ok (.putfield 394, 3) := by decide +kernel
theorem dX13_day_97 : decode cX13_day 97 = .ok (.iconst 0, 1) := by decide +kernel
theorem dX13_day_98 : decode cX13_day 98 = .ok (.istore_n 2, 1) := by decide +kernel
theorem dX13_day_99 : decode cX13_day 99 = .ok (.iload_n 2, 1) := by decide +kernel
theorem dX13_day_100 : decode cX13_day 100 = .ok (.iconst 3, 1) := by decide +kernel
theorem dX13_day_101 : decode cX13_day 101 = .ok (.if_icmp .ge 16, 3) := by decide +kernel
theorem dX13_day_104 : decode cX13_day 104 = .ok (.aload_n 0, 1) := by decide +kernel
theorem dX13_day_105 : decode cX13_day 105 = .ok (.getfield 17, 3) := by decide +kernel
theorem dX13_day_108 : decode cX13_day 108 = .ok (.iload_n 2, 1) := by decide +kernel
theorem dX13_day_109 : decode cX13_day 109 = .ok (.iconst 0, 1) := by decide +kernel
theorem dX13_day_110 : decode cX13_day 110 = .ok (.iastore, 1) := by decide +kernel
theorem dX13_day_111 : decode cX13_day 111 = .ok (.iinc 2 1, 3) := by decide +kernel
theorem dX13_day_114 : decode cX13_day 114 = .ok (.goto (-15), 3) := by decide +kernel
theorem dX13_day_117 : decode cX13_day 117 = .ok (.iconst 0, 1) := by decide +kernel
theorem dX13_day_118 : decode cX13_day 118 = .ok (.istore_n 2, 1) := by decide +kernel
theorem dX13_day_119 : decode cX13_day 119 = .ok (.iload_n 2, 1) := by decide +kernel
theorem dX13_day_120 : decode cX13_day 120 = .ok (.bipush 6, 2) := by decide +kernel
theorem dX13_day_122 : decode cX13_day 122 = .ok (.if_icmp .ge 16, 3) := by decide +kernel
theorem dX13_day_125 : decode cX13_day 125 = .ok (.aload_n 0, 1) := by decide +kernel
theorem dX13_day_126 : decode cX13_day 126 = .ok (.getfield 60, 3) := by decide +kernel
theorem dX13_day_129 : decode cX13_day 129 = .ok (.iload_n 2, 1) := by decide +kernel
theorem dX13_day_130 : decode cX13_day 130 = .ok (.iconst 0, 1) := by decide +kernel
theorem dX13_day_131 : decode cX13_day 131 = .ok (.iastore, 1) := by decide +kernel
theorem dX13_day_132 : decode cX13_day 132 = .ok (.iinc 2 1, 3) := by decide +kernel
theorem dX13_day_135 : decode cX13_day 135 = .ok (.goto (-16), 3) := by decide +kernel
theorem dX13_day_138 : decode cX13_day 138 = .ok (.aload_n 0, 1) := by decide +kernel
theorem dX13_day_139 : decode cX13_day 139 = .ok (.iconst 0, 1) := by decide +kernel
theorem dX13_day_140 : decode cX13_day 140 = .ok (.putfield 397, 3) := by decide +kernel
theorem dX13_day_143 : decode cX13_day 143 = .ok (.aload_n 0, 1) := by decide +kernel
theorem dX13_day_144 : decode cX13_day 144 = .ok (.iconst 0, 1) := by decide +kernel
theorem dX13_day_145 : decode cX13_day 145 = .ok (.putfield 400, 3) := by decide +kernel
theorem dX13_day_148 : decode cX13_day 148 = .ok (.aload_n 0, 1) := by decide +kernel
theorem dX13_day_149 : decode cX13_day 149 = .ok (.iconst 0, 1) := by decide +kernel
theorem dX13_day_150 : decode cX13_day 150 = .ok (.putfield 403, 3) := by decide +kernel
theorem dX13_day_153 : decode cX13_day 153 = .ok (.aload_n 0, 1) := by decide +kernel
theorem dX13_day_154 : decode cX13_day 154 = .ok (.iconst 0, 1) := by decide +kernel
theorem dX13_day_155 : decode cX13_day 155 = .ok (.putfield 406, 3) := by decide +kernel
theorem dX13_day_158 : decode cX13_day 158 = .ok (.aload_n 0, 1) := by decide +kernel
theorem dX13_day_159 : decode cX13_day 159 = .ok (.iconst 0, 1) := by decide +kernel
theorem dX13_day_160 : decode cX13_day 160 = .ok (.putfield 409, 3) := by decide +kernel
theorem dX13_day_163 : decode cX13_day 163 = .ok (.aload_n 0, 1) := by decide +kernel
theorem dX13_day_164 : decode cX13_day 164 = .ok (.iconst 0, 1) := by decide +kernel
theorem dX13_day_165 : decode cX13_day 165 = .ok (.putfield 413, 3) := by decide +kernel
theorem dX13_day_168 : decode cX13_day 168 = .ok (.aload_n 0, 1) := by decide +kernel
theorem dX13_day_169 : decode cX13_day 169 = .ok (.aload_n 0, 1) := by decide +kernel
theorem dX13_day_170 : decode cX13_day 170 = .ok (.getfield 394, 3) := by decide +kernel
theorem dX13_day_173 : decode cX13_day 173 = .ok (.getfield 223, 3) := by decide +kernel
theorem dX13_day_176 : decode cX13_day 176 = .ok (.invokevirtual 416, 3) := by decide +kernel
theorem dX13_day_179 : decode cX13_day 179 = .ok (.ireturn, 1) := by decide +kernel
theorem dX13_fault_0 : decode cX13_fault 0 = .ok (.aload_n 0, 1) := by decide +kernel
theorem dX13_fault_1 : decode cX13_fault 1 = .ok (.iconst 0, 1) := by decide +kernel
theorem dX13_fault_2 : decode cX13_fault 2 = .ok (.putfield 75, 3) := by decide +kernel
theorem dX13_fault_5 : decode cX13_fault 5 = .ok (.aload_n 0, 1) := by decide +kernel
theorem dX13_fault_6 : decode cX13_fault 6 = .ok (.getfield 132, 3) := by decide +kernel
theorem dX13_fault_9 : decode cX13_fault 9 = .ok (.ireturn, 1) := by decide +kernel
theorem dX13_where_0 : decode cX13_where 0 = .ok (.aload_n 0, 1) := by decide +kernel
theorem dX13_where_1 : decode cX13_where 1 = .ok (.iconst 0, 1) := by decide +kernel
theorem dX13_where_2 : decode cX13_where 2 = .ok (.putfield 75, 3) := by decide +kernel
theorem dX13_where_5 : decode cX13_where 5 = .ok (.aload_n 0, 1) := by decide +kernel
theorem dX13_where_6 : decode cX13_where 6 = .ok (.getfield 9, 3) := by decide +kernel
theorem dX13_where_9 : decode cX13_where 9 = .ok (.ireturn, 1) := by decide +kernel
theorem dX13_isCar_0 : decode cX13_isCar 0 = .ok (.aload_n 0, 1) := by decide +kernel
theorem dX13_isCar_1 : decode cX13_isCar 1 = .ok (.getfield 394, 3) := by decide +kernel
theorem dX13_isCar_4 : decode cX13_isCar 4 = .ok (.ifnull 22, 3) := by decide +kernel
theorem dX13_isCar_7 : decode cX13_isCar 7 = .ok (.iload_n 1, 1) := by decide +kernel
theorem dX13_isCar_8 : decode cX13_isCar 8 = .ok (.ifCond .lt 18, 3) := by decide +kernel
theorem dX13_isCar_11 : decode cX13_isCar 11 = .ok (.iload_n 1, 1) := by decide +kernel
theorem dX13_isCar_12 : decode cX13_isCar 12 = .ok (.aload_n 0, 1) := by decide +kernel
theorem dX13_isCar_13 : decode cX13_isCar 13 = .ok (.getfield 394, 3) := by decide +kernel
theorem dX13_isCar_16 : decode cX13_isCar 16 = .ok (.getfield 226, 3) := by decide +kernel
theorem dX13_isCar_19 : decode cX13_isCar 19 = .ok (.if_icmp .ge 7, 3) := by decide +kernel
theorem dX13_isCar_22 : decode cX13_isCar 22 = .ok (.iconst 1, 1) := by decide +kernel
theorem dX13_isCar_23 : decode cX13_isCar 23 = .ok (.goto 4, 3) := by decide +kernel
theorem dX13_isCar_26 : decode cX13_isCar 26 = .ok (.iconst 0, 1) := by decide +kernel
theorem dX13_isCar_27 : decode cX13_isCar 27 = .ok (.ireturn, 1) := by decide +kernel
theorem dX13_isHouse_0 : decode cX13_isHouse 0 = .ok (.aload_n 0, 1) := by decide +kernel
theorem dX13_isHouse_1 : decode cX13_isHouse 1 = .ok (.getfield 394, 3) := by decide +kernel
theorem dX13_isHouse_4 : decode cX13_isHouse 4 = .ok (.ifnull 22, 3) := by decide +kernel
theorem dX13_isHouse_7 : decode cX13_isHouse 7 = .ok (.iload_n 1, 1) := by decide +kernel
theorem dX13_isHouse_8 : decode cX13_isHouse 8 = .ok (.ifCond .lt 18, 3) := by decide +kernel
theorem dX13_isHouse_11 : decode cX13_isHouse 11 = .ok (.iload_n 1, 1) := by decide +kernel
theorem dX13_isHouse_12 : decode cX13_isHouse 12 = .ok (.aload_n 0, 1) := by decide +kernel
theorem dX13_isHouse_13 : decode cX13_isHouse 13 = .ok (.getfield 394, 3) := by decide +kernel
theorem dX13_isHouse_16 : decode cX13_isHouse 16 = .ok (.getfield 223, 3) := by decide +kernel
theorem dX13_isHouse_19 : decode cX13_isHouse 19 = .ok (.if_icmp .ge 7, 3) := by decide +kernel
theorem dX13_isHouse_22 : decode cX13_isHouse 22 = .ok (.iconst 1, 1) := by decide +kernel
theorem dX13_isHouse_23 : decode cX13_isHouse 23 = .ok (.goto 4, 3) := by decide +kernel
theorem dX13_isHouse_26 : decode cX13_isHouse 26 = .ok (.iconst 0, 1) := by decide +kernel
theorem dX13_isHouse_27 : decode cX13_isHouse 27 = .ok (.ireturn, 1) := by decide +kernel
theorem dX13_has_0 : decode cX13_has 0 = .ok (.iload_n 0, 1) := by decide +kernel
theorem dX13_has_1 : decode cX13_has 1 = .ok (.iload_n 1, 1) := by decide +kernel
theorem dX13_has_2 : decode cX13_has 2 = .ok (.ishr, 1) := by decide +kernel
theorem dX13_has_3 : decode cX13_has 3 = .ok (.iconst 1, 1) := by decide +kernel
theorem dX13_has_4 : decode cX13_has 4 = .ok (.iand, 1) := by decide +kernel
theorem dX13_has_5 : decode cX13_has 5 = .ok (.iconst 1, 1) := by decide +kernel
theorem dX13_has_6 : decode cX13_has 6 = .ok (.if_icmp .ne 7, 3) := by decide +kernel
theorem dX13_has_9 : decode cX13_has 9 = .ok (.iconst 1, 1) := by decide +kernel
theorem dX13_has_10 : decode cX13_has 10 = .ok (.goto 4, 3) := by decide +kernel
theorem dX13_has_13 : decode cX13_has 13 = .ok (.iconst 0, 1) := by decide +kernel
theorem dX13_has_14 : decode cX13_has 14 = .ok (.ireturn, 1) := by decide +kernel
theorem dX13_carOf_0 : decode cX13_carOf 0 = .ok (.iconst 0, 1) := by decide +kernel
theorem dX13_carOf_1 : decode cX13_carOf 1 = .ok (.istore_n 2, 1) := by decide +kernel
theorem dX13_carOf_2 : decode cX13_carOf 2 = .ok (.iload_n 2, 1) := by decide +kernel
theorem dX13_carOf_3 : decode cX13_carOf 3 = .ok (.aload_n 0, 1) := by decide +kernel
theorem dX13_carOf_4 : decode cX13_carOf 4 = .ok (.getfield 394, 3) := by decide +kernel
theorem dX13_carOf_7 : decode cX13_carOf 7 = .ok (.getfield 226, 3) := by decide +kernel
theorem dX13_carOf_10 : decode cX13_carOf 10 = .ok (.if_icmp .ge 44, 3) := by decide +kernel
theorem dX13_carOf_13 : decode cX13_carOf 13 = .ok (.iconst 0, 1) := by decide +kernel
theorem dX13_carOf_14 : decode cX13_carOf 14 = .ok (.istore_n 3, 1) := by decide +kernel
theorem dX13_carOf_15 : decode cX13_carOf 15 = .ok (.iload_n 3, 1) := by decide +kernel
theorem dX13_carOf_16 : decode cX13_carOf 16 = .ok (.aload_n 0, 1) := by decide +kernel
theorem dX13_carOf_17 : decode cX13_carOf 17 = .ok (.getfield 17, 3) := by decide +kernel
theorem dX13_carOf_20 : decode cX13_carOf 20 = .ok (.iload_n 2, 1) := by decide +kernel
theorem dX13_carOf_21 : decode cX13_carOf 21 = .ok (.iaload, 1) := by decide +kernel
theorem dX13_carOf_22 : decode cX13_carOf 22 = .ok (.if_icmp .ge 26, 3) := by decide +kernel
theorem dX13_carOf_25 : decode cX13_carOf 25 = .ok (.aload_n 0, 1) := by decide +kernel
theorem dX13_carOf_26 : decode cX13_carOf 26 = .ok (.getfield 21, 3) := by decide +kernel
theorem dX13_carOf_29 : decode cX13_carOf 29 = .ok (.bipush 6, 2) := by decide +kernel
theorem dX13_carOf_31 : decode cX13_carOf 31 = .ok (.iload_n 2, 1) := by decide +kernel
theorem dX13_carOf_32 : decode cX13_carOf 32 = .ok (.imul, 1) := by decide +kernel
theorem dX13_carOf_33 : decode cX13_carOf 33 = .ok (.iload_n 3, 1) := by decide +kernel
theorem dX13_carOf_34 : decode cX13_carOf 34 = .ok (.iadd, 1) := by decide +kernel
theorem dX13_carOf_35 : decode cX13_carOf 35 = .ok (.iaload, 1) := by decide +kernel
theorem dX13_carOf_36 : decode cX13_carOf 36 = .ok (.iload_n 1, 1) := by decide +kernel
theorem dX13_carOf_37 : decode cX13_carOf 37 = .ok (.if_icmp .ne 5, 3) := by decide +kernel
theorem dX13_carOf_40 : decode cX13_carOf 40 = .ok (.iload_n 2, 1) := by decide +kernel
theorem dX13_carOf_41 : decode cX13_carOf 41 = .ok (.ireturn, 1) := by decide +kernel
theorem dX13_carOf_42 : decode cX13_carOf 42 = .ok (.iinc 3 1, 3) := by decide +kernel
theorem dX13_carOf_45 : decode cX13_carOf 45 = .ok (.goto (-30), 3) := by decide +kernel
theorem dX13_carOf_48 : decode cX13_carOf 48 = .ok (.iinc 2 1, 3) := by decide +kernel
theorem dX13_carOf_51 : decode cX13_carOf 51 = .ok (.goto (-49), 3) := by decide +kernel
theorem dX13_carOf_54 : decode cX13_carOf 54 = .ok (.iconst (-1), 1) := by decide +kernel
theorem dX13_carOf_55 : decode cX13_carOf 55 = .ok (.ireturn, 1) := by decide +kernel
theorem dX13_drive_0 : decode cX13_drive 0 = .ok (.aload_n 0, 1) := by decide +kernel
theorem dX13_drive_1 : decode cX13_drive 1 = .ok (.iconst 0, 1) := by decide +kernel
theorem dX13_drive_2 : decode cX13_drive 2 = .ok (.putfield 75, 3) := by decide +kernel
theorem dX13_drive_5 : decode cX13_drive 5 = .ok (.aload_n 0, 1) := by decide +kernel
theorem dX13_drive_6 : decode cX13_drive 6 = .ok (.iload_n 1, 1) := by decide +kernel
theorem dX13_drive_7 : decode cX13_drive 7 = .ok (.invokevirtual 419, 3) := by decide +kernel
theorem dX13_drive_10 : decode cX13_drive 10 = .ok (.ifCond .eq 11, 3) := by decide +kernel
theorem dX13_drive_13 : decode cX13_drive 13 = .ok (.aload_n 0, 1) := by decide +kernel
theorem dX13_drive_14 : decode cX13_drive 14 = .ok (.iload_n 2, 1) := by decide +kernel
theorem dX13_drive_15 : decode cX13_drive 15 = .ok (.invokevirtual 422, 3) := by decide +kernel
theorem dX13_drive_18 : decode cX13_drive 18 = .ok (.ifCond .ne 9, 3) := by decide +kernel
theorem dX13_drive_21 : decode cX13_drive 21 = .ok (.aload_n 0, 1) := by decide +kernel
theorem dX13_drive_22 : decode cX13_drive 22 = .ok (.iconst 1, 1) := by decide +kernel
theorem dX13_drive_23 : decode cX13_drive 23 = .ok (.invokevirtual 81, 3) := by decide +kernel
theorem dX13_drive_26 : decode cX13_drive 26 = .ok (.ireturn, 1) := by decide +kernel
theorem dX13_drive_27 : decode cX13_drive 27 = .ok (.aload_n 0, 1) := by decide +kernel
theorem dX13_drive_28 : decode cX13_drive 28 = .ok (.iload_n 2, 1) := by decide +kernel
theorem dX13_drive_29 : decode cX13_drive 29 = .ok (.invokevirtual 425, 3) := by decide +kernel
theorem dX13_drive_32 : decode cX13_drive 32 = .ok (.iconst (-1), 1) := by decide +kernel
theorem dX13_drive_33 : decode cX13_drive 33 = .ok (.if_icmp .eq 9, 3) := by decide +kernel
theorem dX13_drive_36 : decode cX13_drive 36 = .ok (.aload_n 0, 1) := by decide +kernel
theorem dX13_drive_37 : decode cX13_drive 37 = .ok (.iconst 5, 1) := by decide +kernel
theorem dX13_drive_38 : decode cX13_drive 38 = .ok (.invokevirtual 81, 3) := by decide +kernel
theorem dX13_drive_41 : decode cX13_drive 41 = .ok (.ireturn, 1) := by decide +kernel
theorem dX13_drive_42 : decode cX13_drive 42 = .ok (.aload_n 0, 1) := by decide +kernel
theorem dX13_drive_43 : decode cX13_drive 43 = .ok (.getfield 17, 3) := by decide +kernel
theorem dX13_drive_46 : decode cX13_drive 46 = .ok (.iload_n 1, 1) := by decide +kernel
theorem dX13_drive_47 : decode cX13_drive 47 = .ok (.iaload, 1) := by decide +kernel
theorem dX13_drive_48 : decode cX13_drive 48 = .ok (.aload_n 0, 1) := by decide +kernel
theorem dX13_drive_49 : decode cX13_drive 49 = .ok (.getfield 394, 3) := by decide +kernel
theorem dX13_drive_52 : decode cX13_drive 52 = .ok (.getfield 358, 3) := by decide +kernel
theorem dX13_drive_55 : decode cX13_drive 55 = .ok (.iload_n 1, 1) := by decide +kernel
theorem dX13_drive_56 : decode cX13_drive 56 = .ok (.iaload, 1) := by decide +kernel
theorem dX13_drive_57 : decode cX13_drive 57 = .ok (.if_icmp .ne 9, 3) := by decide +kernel
theorem dX13_drive_60 : decode cX13_drive 60 = .ok (.aload_n 0, 1) := by decide +kernel
theorem dX13_drive_61 : decode cX13_drive 61 = .ok (.iconst 3, 1) := by decide +kernel
theorem dX13_drive_62 : decode cX13_drive 62 = .ok (.invokevirtual 81, 3) := by decide +kernel
theorem dX13_drive_65 : decode cX13_drive 65 = .ok (.ireturn, 1) := by decide +kernel
theorem dX13_drive_66 : decode cX13_drive 66 = .ok (.aload_n 0, 1) := by decide +kernel
theorem dX13_drive_67 : decode cX13_drive 67 = .ok (.getfield 21, 3) := by decide +kernel
theorem dX13_drive_70 : decode cX13_drive 70 = .ok (.bipush 6, 2) := by decide +kernel
theorem dX13_drive_72 : decode cX13_drive 72 = .ok (.iload_n 1, 1) := by decide +kernel
theorem dX13_drive_73 : decode cX13_drive 73 = .ok (.imul, 1) := by decide +kernel
theorem dX13_drive_74 : decode cX13_drive 74 = .ok (.aload_n 0, 1) := by decide +kernel
theorem dX13_drive_75 : decode cX13_drive 75 = .ok (.getfield 17, 3) := by decide +kernel
theorem dX13_drive_78 : decode cX13_drive 78 = .ok (.iload_n 1, 1) := by decide +kernel
theorem dX13_drive_79 : decode cX13_drive 79 = .ok (.iaload, 1) := by decide +kernel
theorem dX13_drive_80 : decode cX13_drive 80 = .ok (.iadd, 1) := by decide +kernel
theorem dX13_drive_81 : decode cX13_drive 81 = .ok (.iload_n 2, 1) := by decide +kernel
theorem dX13_drive_82 : decode cX13_drive 82 = .ok (.iastore, 1) := by decide +kernel
theorem dX13_drive_83 : decode cX13_drive 83 = .ok (.aload_n 0, 1) := by decide +kernel
theorem dX13_drive_84 : decode cX13_drive 84 = .ok (.getfield 17, 3) := by decide +kernel
theorem dX13_drive_87 : decode cX13_drive 87 = .ok (.iload_n 1, 1) := by decide +kernel
theorem dX13_drive_88 : decode cX13_drive 88 = .ok (.dup2, 1) := by decide +kernel
theorem dX13_drive_89 : decode cX13_drive 89 = .ok (.iaload, 1) := by decide +kernel
theorem dX13_drive_90 : decode cX13_drive 90 = .ok (.iconst 1, 1) := by decide +kernel
theorem dX13_drive_91 : decode cX13_drive 91 = .ok (.iadd, 1) := by decide +kernel
theorem dX13_drive_92 : decode cX13_drive 92 = .ok (.iastore, 1) := by decide +kernel
theorem dX13_drive_93 : decode cX13_drive 93 = .ok (.aload_n 0, 1) := by decide +kernel
theorem dX13_drive_94 : decode cX13_drive 94 = .ok (.aload_n 0, 1) := by decide +kernel
theorem dX13_drive_95 : decode cX13_drive 95 = .ok (.getfield 17, 3) := by decide +kernel
theorem dX13_drive_98 : decode cX13_drive 98 = .ok (.iload_n 1, 1) := by decide +kernel
theorem dX13_drive_99 : decode cX13_drive 99 = .ok (.iaload, 1) := by decide +kernel
theorem dX13_drive_100 : decode cX13_drive 100 = .ok (.invokevirtual 416, 3) := by decide +kernel
theorem dX13_drive_103 : decode cX13_drive 103 = .ok (.ireturn, 1) := by decide +kernel
theorem dX13_unload_0 : decode cX13_unload 0 = .ok (.aload_n 0, 1) := by decide +kernel
theorem dX13_unload_1 : decode cX13_unload 1 = .ok (.iconst 0, 1) := by decide +kernel
theorem dX13_unload_2 : decode cX13_unload 2 = .ok (.putfield 75, 3) := by decide +kernel
theorem dX13_unload_5 : decode cX13_unload 5 = .ok (.aload_n 0, 1) := by decide +kernel
theorem dX13_unload_6 : decode cX13_unload 6 = .ok (.iload_n 1, 1) := by decide +kernel
theorem dX13_unload_7 : decode cX13_unload 7 = .ok (.invokevirtual 419, 3) := by decide +kernel
theorem dX13_unload_10 : decode cX13_unload 10 = .ok (.ifCond .ne 9, 3) := by decide +kernel
theorem dX13_unload_13 : decode cX13_unload 13 = .ok (.aload_n 0, 1) := by decide +kernel
theorem dX13_unload_14 : decode cX13_unload 14 = .ok (.iconst 1, 1) := by decide +kernel
theorem dX13_unload_15 : decode cX13_unload 15 = .ok (.invokevirtual 81, 3) := by decide +kernel
theorem dX13_unload_18 : decode cX13_unload 18 = .ok (.ireturn, 1) := by decide +kernel
theorem dX13_unload_19 : decode cX13_unload 19 = .ok (.aload_n 0, 1) := by decide +kernel
theorem dX13_unload_20 : decode cX13_unload 20 = .ok (.getfield 17, 3) := by decide +kernel
theorem dX13_unload_23 : decode cX13_unload 23 = .ok (.iload_n 1, 1) := by decide +kernel
theorem dX13_unload_24 : decode cX13_unload 24 = .ok (.iaload, 1) := by decide +kernel
theorem dX13_unload_25 : decode cX13_unload 25 = .ok (.istore_n 2, 1) := by decide +kernel
theorem dX13_unload_26 : decode cX13_unload 26 = .ok (.aload_n 0, 1) := by decide +kernel
theorem dX13_unload_27 : decode cX13_unload 27 = .ok (.getfield 17, 3) := by decide +kernel
theorem dX13_unload_30 : decode cX13_unload 30 = .ok (.iload_n 1, 1) := by decide +kernel
theorem dX13_unload_31 : decode cX13_unload 31 = .ok (.iconst 0, 1) := by decide +kernel
theorem dX13_unload_32 : decode cX13_unload 32 = .ok (.iastore, 1) := by decide +kernel
theorem dX13_unload_33 : decode cX13_unload 33 = .ok (.aload_n 0, 1) := by decide +kernel
theorem dX13_unload_34 : decode cX13_unload 34 = .ok (.iload_n 2, 1) := by decide +kernel
theorem dX13_unload_35 : decode cX13_unload 35 = .ok (.invokevirtual 416, 3) := by decide +kernel
theorem dX13_unload_38 : decode cX13_unload 38 = .ok (.ireturn, 1) := by decide +kernel
theorem dX13_tea_0 : decode cX13_tea 0 = .ok (.aload_n 0, 1) := by decide +kernel
theorem dX13_tea_1 : decode cX13_tea 1 = .ok (.iconst 0, 1) := by decide +kernel
theorem dX13_tea_2 : decode cX13_tea 2 = .ok (.putfield 75, 3) := by decide +kernel
theorem dX13_tea_5 : decode cX13_tea 5 = .ok (.aload_n 0, 1) := by decide +kernel
theorem dX13_tea_6 : decode cX13_tea 6 = .ok (.getfield 394, 3) := by decide +kernel
theorem dX13_tea_9 : decode cX13_tea 9 = .ok (.ifnull 20, 3) := by decide +kernel
theorem dX13_tea_12 : decode cX13_tea 12 = .ok (.iload_n 1, 1) := by decide +kernel
theorem dX13_tea_13 : decode cX13_tea 13 = .ok (.ifCond .lt 16, 3) := by decide +kernel
theorem dX13_tea_16 : decode cX13_tea 16 = .ok (.iload_n 1, 1) := by decide +kernel
theorem dX13_tea_17 : decode cX13_tea 17 = .ok (.iconst 1, 1) := by decide +kernel
theorem dX13_tea_18 : decode cX13_tea 18 = .ok (.aload_n 0, 1) := by decide +kernel
theorem dX13_tea_19 : decode cX13_tea 19 = .ok (.getfield 394, 3) := by decide +kernel
theorem dX13_tea_22 : decode cX13_tea 22 = .ok (.getfield 223, 3) := by decide +kernel
theorem dX13_tea_25 : decode cX13_tea 25 = .ok (.ishl, 1) := by decide +kernel
theorem dX13_tea_26 : decode cX13_tea 26 = .ok (.if_icmp .lt 22, 3) := by decide +kernel
theorem dX13_tea_29 : decode cX13_tea 29 = .ok (.aload_n 0, 1) := by decide +kernel
theorem dX13_tea_30 : decode cX13_tea 30 = .ok (.aload_n 0, 1) := by decide +kernel
theorem dX13_tea_31 : decode cX13_tea 31 = .ok (.getfield 394, 3) := by decide +kernel
theorem dX13_tea_34 : decode cX13_tea 34 = .ok (.ifnonnull 7, 3) := by decide +kernel
theorem dX13_tea_37 : decode cX13_tea 37 = .ok (.iconst 1, 1) := by decide +kernel
theorem dX13_tea_38 : decode cX13_tea 38 = .ok (.goto 4, 3) := by decide +kernel
theorem dX13_tea_41 : decode cX13_tea 41 = .ok (.iconst 2, 1) := by decide +kernel
theorem dX13_tea_42 : decode cX13_tea 42 = .ok (.invokevirtual 81, 3) := by decide +kernel
theorem dX13_tea_45 : decode cX13_tea 45 = .ok (.pop, 1) := by decide +kernel
theorem dX13_tea_46 : decode cX13_tea 46 = .ok (.iconst 0, 1) := by decide +kernel
theorem dX13_tea_47 : decode cX13_tea 47 = .ok (.ireturn, 1) := by decide +kernel
theorem dX13_tea_48 : decode cX13_tea 48 = .ok (.aload_n 0, 1) := by decide +kernel
theorem dX13_tea_49 : decode cX13_tea 49 = .ok (.iload_n 1, 1) := by decide +kernel
theorem dX13_tea_50 : decode cX13_tea 50 = .ok (.putfield 397, 3) := by decide +kernel
theorem dX13_tea_53 : decode cX13_tea 53 = .ok (.aload_n 0, 1) := by decide +kernel
theorem dX13_tea_54 : decode cX13_tea 54 = .ok (.iconst 0, 1) := by decide +kernel
theorem dX13_tea_55 : decode cX13_tea 55 = .ok (.invokevirtual 416, 3) := by decide +kernel
theorem dX13_tea_58 : decode cX13_tea 58 = .ok (.pop, 1) := by decide +kernel
theorem dX13_tea_59 : decode cX13_tea 59 = .ok (.iconst 1, 1) := by decide +kernel
theorem dX13_tea_60 : decode cX13_tea 60 = .ok (.ireturn, 1) := by decide +kernel
theorem dX13_goes_0 : decode cX13_goes 0 = .ok (.aload_n 0, 1) := by decide +kernel
theorem dX13_goes_1 : decode cX13_goes 1 = .ok (.getfield 394, 3) := by decide +kernel
theorem dX13_goes_4 : decode cX13_goes 4 = .ok (.getfield 356, 3) := by decide +kernel
theorem dX13_goes_7 : decode cX13_goes 7 = .ok (.iload_n 1, 1) := by decide +kernel
theorem dX13_goes_8 : decode cX13_goes 8 = .ok (.iaload, 1) := by decide +kernel
theorem dX13_goes_9 : decode cX13_goes 9 = .ok (.istore_n 3, 1) := by decide +kernel
theorem dX13_goes_10 : decode cX13_goes 10 = .ok (.aload_n 0, 1) := by decide +kernel
theorem dX13_goes_11 : decode cX13_goes 11 = .ok (.getfield 394, 3) := by decide +kernel
theorem dX13_goes_14 : decode cX13_goes 14 = .ok (.getfield 273, 3) := by decide +kernel
theorem dX13_goes_17 : decode cX13_goes 17 = .ok (.aload_n 0, 1) := by decide +kernel
theorem dX13_goes_18 : decode cX13_goes 18 = .ok (.getfield 394, 3) := by decide +kernel
theorem dX13_goes_21 : decode cX13_goes 21 = .ok (.getfield 354, 3) := by decide +kernel
theorem dX13_goes_24 : decode cX13_goes 24 = .ok (.iload_n 1, 1) := by decide +kernel
theorem dX13_goes_25 : decode cX13_goes 25 = .ok (.iaload, 1) := by decide +kernel
theorem dX13_goes_26 : decode cX13_goes 26 = .ok (.iaload, 1) := by decide +kernel
theorem dX13_goes_27 : decode cX13_goes 27 = .ok (.istore 4, 2) := by decide +kernel
theorem dX13_goes_29 : decode cX13_goes 29 = .ok (.aload_n 0, 1) := by decide +kernel
theorem dX13_goes_30 : decode cX13_goes 30 = .ok (.iconst 0, 1) := by decide +kernel
theorem dX13_goes_31 : decode cX13_goes 31 = .ok (.putfield 428, 3) := by decide +kernel
theorem dX13_goes_34 : decode cX13_goes 34 = .ok (.iconst 0, 1) := by decide +kernel
theorem dX13_goes_35 : decode cX13_goes 35 = .ok (.istore 5, 2) := by decide +kernel
theorem dX13_goes_37 : decode cX13_goes 37 = .ok (.iload 5, 2) := by decide +kernel
theorem dX13_goes_39 : decode cX13_goes 39 = .ok (.aload_n 0, 1) := by decide +kernel
theorem dX13_goes_40 : decode cX13_goes 40 = .ok (.getfield 431, 3) := by decide +kernel
theorem dX13_goes_43 : decode cX13_goes 43 = .ok (.if_icmp .ge 168, 3) := by decide +kernel
theorem dX13_goes_46 : decode cX13_goes 46 = .ok (.aload_n 0, 1) := by decide +kernel
theorem dX13_goes_47 : decode cX13_goes 47 = .ok (.getfield 24, 3) := by decide +kernel
theorem dX13_goes_50 : decode cX13_goes 50 = .ok (.iload 5, 2) := by decide +kernel
theorem dX13_goes_52 : decode cX13_goes 52 = .ok (.iaload, 1) := by decide +kernel
theorem dX13_goes_53 : decode cX13_goes 53 = .ok (.istore 6, 2) := by decide +kernel
theorem dX13_goes_55 : decode cX13_goes 55 = .ok (.iload_n 3, 1) := by decide +kernel
theorem dX13_goes_56 : decode cX13_goes 56 = .ok (.aload_n 0, 1) := by decide +kernel
theorem dX13_goes_57 : decode cX13_goes 57 = .ok (.getfield 394, 3) := by decide +kernel
theorem dX13_goes_60 : decode cX13_goes 60 = .ok (.iload 4, 2) := by decide +kernel
theorem dX13_goes_62 : decode cX13_goes 62 = .ok (.aload_n 0, 1) := by decide +kernel
theorem dX13_goes_63 : decode cX13_goes 63 = .ok (.getfield 394, 3) := by decide +kernel
theorem dX13_goes_66 : decode cX13_goes 66 = .ok (.getfield 329, 3) := by decide +kernel
theorem dX13_goes_69 : decode cX13_goes 69 = .ok (.iload 6, 2) := by decide +kernel
theorem dX13_goes_71 : decode cX13_goes 71 = .ok (.iaload, 1) := by decide +kernel
theorem dX13_goes_72 : decode cX13_goes 72 = .ok (.invokevirtual 434, 3) := by decide +kernel
theorem dX13_goes_75 : decode cX13_goes 75 = .ok (.iadd, 1) := by decide +kernel
theorem dX13_goes_76 : decode cX13_goes 76 = .ok (.istore_n 3, 1) := by decide +kernel
theorem dX13_goes_77 : decode cX13_goes 77 = .ok (.aload_n 0, 1) := by decide +kernel
theorem dX13_goes_78 : decode cX13_goes 78 = .ok (.getfield 27, 3) := by decide +kernel
theorem dX13_goes_81 : decode cX13_goes 81 = .ok (.iload 5, 2) := by decide +kernel
theorem dX13_goes_83 : decode cX13_goes 83 = .ok (.iload_n 3, 1) := by decide +kernel
theorem dX13_goes_84 : decode cX13_goes 84 = .ok (.iastore, 1) := by decide +kernel
theorem dX13_goes_85 : decode cX13_goes 85 = .ok (.iload_n 3, 1) := by decide +kernel
theorem dX13_goes_86 : decode cX13_goes 86 = .ok (.aload_n 0, 1) := by decide +kernel
theorem dX13_goes_87 : decode cX13_goes 87 = .ok (.getfield 394, 3) := by decide +kernel
theorem dX13_goes_90 : decode cX13_goes 90 = .ok (.getfield 263, 3) := by decide +kernel
theorem dX13_goes_93 : decode cX13_goes 93 = .ok (.if_icmp .gt 19, 3) := by decide +kernel
theorem dX13_goes_96 : decode cX13_goes 96 = .ok (.aload_n 0, 1) := by decide +kernel
theorem dX13_goes_97 : decode cX13_goes 97 = .ok (.iload_n 1, 1) := by decide +kernel
theorem dX13_goes_98 : decode cX13_goes 98 = .ok (.iload_n 3, 1) := by decide +kernel
theorem dX13_goes_99 : decode cX13_goes 99 = .ok (.invokevirtual 437, 3) := by decide +kernel
theorem dX13_goes_102 : decode cX13_goes 102 = .ok (.aload_n 0, 1) := by decide +kernel
theorem dX13_goes_103 : decode cX13_goes 103 = .ok (.getfield 394, 3) := by decide +kernel
theorem dX13_goes_106 : decode cX13_goes 106 = .ok (.getfield 220, 3) := by decide +kernel
theorem dX13_goes_109 : decode cX13_goes 109 = .ok (.if_icmp .ge 16, 3) := by decide +kernel
theorem dX13_goes_112 : decode cX13_goes 112 = .ok (.aload_n 0, 1) := by decide +kernel
theorem dX13_goes_113 : decode cX13_goes 113 = .ok (.dup, 1) := by decide +kernel
theorem dX13_goes_114 : decode cX13_goes 114 = .ok (.getfield 428, 3) := by decide +kernel
theorem dX13_goes_117 : decode cX13_goes 117 = .ok (.iconst 1, 1) := by decide +kernel
theorem dX13_goes_118 : decode cX13_goes 118 = .ok (.iload 6, 2) := by decide +kernel
theorem dX13_goes_120 : decode cX13_goes 120 = .ok (.ishl, 1) := by decide +kernel
theorem dX13_goes_121 : decode cX13_goes 121 = .ok (.ior, 1) := by decide +kernel
theorem dX13_goes_122 : decode cX13_goes 122 = .ok (.putfield 428, 3) := by decide +kernel
theorem dX13_goes_125 : decode cX13_goes 125 = .ok (.iload_n 3, 1) := by decide +kernel
theorem dX13_goes_126 : decode cX13_goes 126 = .ok (.aload_n 0, 1) := by decide +kernel
theorem dX13_goes_127 : decode cX13_goes 127 = .ok (.getfield 394, 3) := by decide +kernel
theorem dX13_goes_130 : decode cX13_goes 130 = .ok (.getfield 334, 3) := by decide +kernel
theorem dX13_goes_133 : decode cX13_goes 133 = .ok (.iload 6, 2) := by decide +kernel
theorem dX13_goes_135 : decode cX13_goes 135 = .ok (.iaload, 1) := by decide +kernel
theorem dX13_goes_136 : decode cX13_goes 136 = .ok (.aload_n 0, 1) := by decide +kernel
theorem dX13_goes_137 : decode cX13_goes 137 = .ok (.getfield 394, 3) := by decide +kernel
theorem dX13_goes_140 : decode cX13_goes 140 = .ok (.getfield 342, 3) := by decide +kernel
theorem dX13_goes_143 : decode cX13_goes 143 = .ok (.iload 6, 2) := by decide +kernel
theorem dX13_goes_145 : decode cX13_goes 145 = .ok (.baload, 1) := by decide +kernel
theorem dX13_goes_146 : decode cX13_goes 146 = .ok (.ifCond .eq 19, 3) := by decide +kernel
theorem dX13_goes_149 : decode cX13_goes 149 = .ok (.aload_n 0, 1) := by decide +kernel
theorem dX13_goes_150 : decode cX13_goes 150 = .ok (.getfield 394, 3) := by decide +kernel
theorem dX13_goes_153 : decode cX13_goes 153 = .ok (.getfield 362, 3) := by decide +kernel
theorem dX13_goes_156 : decode cX13_goes 156 = .ok (.iload_n 1, 1) := by decide +kernel
theorem dX13_goes_157 : decode cX13_goes 157 = .ok (.baload, 1) := by decide +kernel
theorem dX13_goes_158 : decode cX13_goes 158 = .ok (.ifCond .eq 7, 3) := by decide +kernel
theorem dX13_goes_161 : decode cX13_goes 161 = .ok (.iconst 5, 1) := by decide +kernel
theorem dX13_goes_162 : decode cX13_goes 162 = .ok (.goto 4, 3) := by decide +kernel
theorem dX13_goes_165 : decode cX13_goes 165 = .ok (.iconst 0, 1) := by decide +kernel
theorem dX13_goes_166 : decode cX13_goes 166 = .ok (.iadd, 1) := by decide +kernel
theorem dX13_goes_167 : decode cX13_goes 167 = .ok (.iload_n 2, 1) := by decide +kernel
theorem dX13_goes_168 : decode cX13_goes 168 = .ok (.iload 6, 2) := by decide +kernel
theorem dX13_goes_170 : decode cX13_goes 170 = .ok (.invokestatic 440, 3) := by decide +kernel
theorem dX13_goes_173 : decode cX13_goes 173 = .ok (.ifCond .eq 16, 3) := by decide +kernel
theorem dX13_goes_176 : decode cX13_goes 176 = .ok (.aload_n 0, 1) := by decide +kernel
theorem dX13_goes_177 : decode cX13_goes 177 = .ok (.getfield 394, 3) := by decide +kernel
theorem dX13_goes_180 : decode cX13_goes 180 = .ok (.getfield 336, 3) := by decide +kernel
theorem dX13_goes_183 : decode cX13_goes 183 = .ok (.iload 6, 2) := by decide +kernel
theorem dX13_goes_185 : decode cX13_goes 185 = .ok (.iaload, 1) := by decide +kernel
theorem dX13_goes_186 : decode cX13_goes 186 = .ok (.goto 4, 3) := by decide +kernel
theorem dX13_goes_189 : decode cX13_goes 189 = .ok (.iconst 0, 1) := by decide +kernel
theorem dX13_goes_190 : decode cX13_goes 190 = .ok (.iadd, 1) := by decide +kernel
theorem dX13_goes_191 : decode cX13_goes 191 = .ok (.iadd, 1) := by decide +kernel
theorem dX13_goes_192 : decode cX13_goes 192 = .ok (.istore_n 3, 1) := by decide +kernel
theorem dX13_goes_193 : decode cX13_goes 193 = .ok (.aload_n 0, 1) := by decide +kernel
theorem dX13_goes_194 : decode cX13_goes 194 = .ok (.getfield 394, 3) := by decide +kernel
theorem dX13_goes_197 : decode cX13_goes 197 = .ok (.getfield 329, 3) := by decide +kernel
theorem dX13_goes_200 : decode cX13_goes 200 = .ok (.iload 6, 2) := by decide +kernel
theorem dX13_goes_202 : decode cX13_goes 202 = .ok (.iaload, 1) := by decide +kernel
theorem dX13_goes_203 : decode cX13_goes 203 = .ok (.istore 4, 2) := by decide +kernel
theorem dX13_goes_205 : decode cX13_goes 205 = .ok (.iinc 5 1, 3) := by decide +kernel
theorem dX13_goes_208 : decode cX13_goes 208 = .ok (.goto (-171), 3) := by decide +kernel
theorem dX13_goes_211 : decode cX13_goes 211 = .ok (.return_, 1) := by decide +kernel
theorem dX13_heatBy_0 : decode cX13_heatBy 0 = .ok (.aload_n 0, 1) := by decide +kernel
theorem dX13_heatBy_1 : decode cX13_heatBy 1 = .ok (.getfield 394, 3) := by decide +kernel
theorem dX13_heatBy_4 : decode cX13_heatBy 4 = .ok (.getfield 276, 3) := by decide +kernel
theorem dX13_heatBy_7 : decode cX13_heatBy 7 = .ok (.aload_n 0, 1) := by decide +kernel
theorem dX13_heatBy_8 : decode cX13_heatBy 8 = .ok (.getfield 394, 3) := by decide +kernel
theorem dX13_heatBy_11 : decode cX13_heatBy 11 = .ok (.getfield 354, 3) := by decide +kernel
theorem dX13_heatBy_14 : decode cX13_heatBy 14 = .ok (.iload_n 1, 1) := by decide +kernel
theorem dX13_heatBy_15 : decode cX13_heatBy 15 = .ok (.iaload, 1) := by decide +kernel
theorem dX13_heatBy_16 : decode cX13_heatBy 16 = .ok (.iaload, 1) := by decide +kernel
theorem dX13_heatBy_17 : decode cX13_heatBy 17 = .ok (.aload_n 0, 1) := by decide +kernel
theorem dX13_heatBy_18 : decode cX13_heatBy 18 = .ok (.getfield 394, 3) := by decide +kernel
theorem dX13_heatBy_21 : decode cX13_heatBy 21 = .ok (.getfield 360, 3) := by decide +kernel
theorem dX13_heatBy_24 : decode cX13_heatBy 24 = .ok (.iload_n 1, 1) := by decide +kernel
theorem dX13_heatBy_25 : decode cX13_heatBy 25 = .ok (.iaload, 1) := by decide +kernel
theorem dX13_heatBy_26 : decode cX13_heatBy 26 = .ok (.iload_n 2, 1) := by decide +kernel
theorem dX13_heatBy_27 : decode cX13_heatBy 27 = .ok (.aload_n 0, 1) := by decide +kernel
theorem dX13_heatBy_28 : decode cX13_heatBy 28 = .ok (.getfield 394, 3) := by decide +kernel
theorem dX13_heatBy_31 : decode cX13_heatBy 31 = .ok (.getfield 356, 3) := by decide +kernel
theorem dX13_heatBy_34 : decode cX13_heatBy 34 = .ok (.iload_n 1, 1) := by decide +kernel
theorem dX13_heatBy_35 : decode cX13_heatBy 35 = .ok (.iaload, 1) := by decide +kernel
theorem dX13_heatBy_36 : decode cX13_heatBy 36 = .ok (.isub, 1) := by decide +kernel
theorem dX13_heatBy_37 : decode cX13_heatBy 37 = .ok (.imul, 1) := by decide +kernel
theorem dX13_heatBy_38 : decode cX13_heatBy 38 = .ok (.bipush 10, 2) := by decide +kernel
theorem dX13_heatBy_40 : decode cX13_heatBy 40 = .ok (.idiv, 1) := by decide +kernel
theorem dX13_heatBy_41 : decode cX13_heatBy 41 = .ok (.isub, 1) := by decide +kernel
theorem dX13_heatBy_42 : decode cX13_heatBy 42 = .ok (.ireturn, 1) := by decide +kernel
theorem dX13_goesAsDriven_0 : decode cX13_goesAsDriven 0 = .ok (.aload_n 0, 1) := by decide +kernel
theorem dX13_goesAsDriven_1 : decode cX13_goesAsDriven 1 = .ok (.aload_n 0, 1) := by decide +kernel
theorem dX13_goesAsDriven_2 : decode cX13_goesAsDriven 2 = .ok (.getfield 17, 3) := by decide +kernel
theorem dX13_goesAsDriven_5 : decode cX13_goesAsDriven 5 = .ok (.iload_n 1, 1) := by decide +kernel
theorem dX13_goesAsDriven_6 : decode cX13_goesAsDriven 6 = .ok (.iaload, 1) := by decide +kernel
theorem dX13_goesAsDriven_7 : decode cX13_goesAsDriven 7 = .ok (.putfield 431, 3) := by decide +kernel
theorem dX13_goesAsDriven_10 : decode cX13_goesAsDriven 10 = .ok (.iconst 0, 1) := by decide +kernel
theorem dX13_goesAsDriven_11 : decode cX13_goesAsDriven 11 = .ok (.istore_n 3, 1) := by decide +kernel
theorem dX13_goesAsDriven_12 : decode cX13_goesAsDriven 12 = .ok (.iload_n 3, 1) := by decide +kernel
theorem dX13_goesAsDriven_13 : decode cX13_goesAsDriven 13 = .ok (.aload_n 0, 1) := by decide +kernel
theorem dX13_goesAsDriven_14 : decode cX13_goesAsDriven 14 = .ok (.getfield 431, 3) := by decide +kernel
theorem dX13_goesAsDriven_17 : decode cX13_goesAsDriven 17 = .ok (.if_icmp .ge 26, 3) := by decide +kernel
theorem dX13_goesAsDriven_20 : decode cX13_goesAsDriven 20 = .ok (.aload_n 0, 1) := by decide +kernel
theorem dX13_goesAsDriven_21 : decode cX13_goesAsDriven 21 = .ok (.getfield 24, 3) := by decide +kernel
theorem dX13_goesAsDriven_24 : decode cX13_goesAsDriven 24 = .ok (.iload_n 3, 1) := by decide +kernel
theorem dX13_goesAsDriven_25 : decode cX13_goesAsDriven 25 = .ok (.aload_n 0, 1) := by decide +kernel
theorem dX13_goesAsDriven_26 : decode cX13_goesAsDriven 26 = .ok (.getfield 21, 3) := by decide +kernel
theorem dX13_goesAsDriven_29 : decode cX13_goesAsDriven 29 = .ok (.bipush 6, 2) := by decide +kernel
theorem dX13_goesAsDriven_31 : decode cX13_goesAsDriven 31 = .ok (.iload_n 1, 1) := by decide +kernel
theorem dX13_goesAsDriven_32 : decode cX13_goesAsDriven 32 = .ok (.imul, 1) := by decide +kernel
theorem dX13_goesAsDriven_33 : decode cX13_goesAsDriven 33 = .ok (.iload_n 3, 1) := by decide +kernel
theorem dX13_goesAsDriven_34 : decode cX13_goesAsDriven 34 = .ok (.iadd, 1) := by decide +kernel
theorem dX13_goesAsDriven_35 : decode cX13_goesAsDriven 35 = .ok (.iaload, 1) := by decide +kernel
theorem dX13_goesAsDriven_36 : decode cX13_goesAsDriven 36 = .ok (.iastore, 1) := by decide +kernel
theorem dX13_goesAsDriven_37 : decode cX13_goesAsDriven 37 = .ok (.iinc 3 1, 3) := by decide +kernel
theorem dX13_goesAsDriven_40 : decode cX13_goesAsDriven 40 = .ok (.goto (-28), 3) := by decide +kernel
theorem dX13_goesAsDriven_43 : decode cX13_goesAsDriven 43 = .ok (.aload_n 0, 1) := by decide +kernel
theorem dX13_goesAsDriven_44 : decode cX13_goesAsDriven 44 = .ok (.iload_n 1, 1) := by decide +kernel
theorem dX13_goesAsDriven_45 : decode cX13_goesAsDriven 45 = .ok (.iload_n 2, 1) := by decide +kernel
theorem dX13_goesAsDriven_46 : decode cX13_goesAsDriven 46 = .ok (.invokevirtual 444, 3) := by decide +kernel
theorem dX13_goesAsDriven_49 : decode cX13_goesAsDriven 49 = .ok (.return_, 1) := by decide +kernel
theorem dX13_comesTo_0 : decode cX13_comesTo 0 = .ok (.iconst 0, 1) := by decide +kernel
theorem dX13_comesTo_1 : decode cX13_comesTo 1 = .ok (.istore_n 2, 1) := by decide +kernel
theorem dX13_comesTo_2 : decode cX13_comesTo 2 = .ok (.aload_n 0, 1) := by decide +kernel
theorem dX13_comesTo_3 : decode cX13_comesTo 3 = .ok (.getfield 24, 3) := by decide +kernel
theorem dX13_comesTo_6 : decode cX13_comesTo 6 = .ok (.iload_n 2, 1) := by decide +kernel
theorem dX13_comesTo_7 : decode cX13_comesTo 7 = .ok (.iaload, 1) := by decide +kernel
theorem dX13_comesTo_8 : decode cX13_comesTo 8 = .ok (.iload_n 1, 1) := by decide +kernel
theorem dX13_comesTo_9 : decode cX13_comesTo 9 = .ok (.if_icmp .eq 9, 3) := by decide +kernel
theorem dX13_comesTo_12 : decode cX13_comesTo 12 = .ok (.iinc 2 1, 3) := by decide +kernel
theorem dX13_comesTo_15 : decode cX13_comesTo 15 = .ok (.goto (-13), 3) := by decide +kernel
theorem dX13_comesTo_18 : decode cX13_comesTo 18 = .ok (.aload_n 0, 1) := by decide +kernel
theorem dX13_comesTo_19 : decode cX13_comesTo 19 = .ok (.getfield 27, 3) := by decide +kernel
theorem dX13_comesTo_22 : decode cX13_comesTo 22 = .ok (.iload_n 2, 1) := by decide +kernel
theorem dX13_comesTo_23 : decode cX13_comesTo 23 = .ok (.iaload, 1) := by decide +kernel
theorem dX13_comesTo_24 : decode cX13_comesTo 24 = .ok (.ireturn, 1) := by decide +kernel
theorem dX13_comes_0 : decode cX13_comes 0 = .ok (.aload_n 0, 1) := by decide +kernel
theorem dX13_comes_1 : decode cX13_comes 1 = .ok (.iconst 0, 1) := by decide +kernel
theorem dX13_comes_2 : decode cX13_comes 2 = .ok (.putfield 75, 3) := by decide +kernel
theorem dX13_comes_5 : decode cX13_comes 5 = .ok (.aload_n 0, 1) := by decide +kernel
theorem dX13_comes_6 : decode cX13_comes 6 = .ok (.iload_n 1, 1) := by decide +kernel
theorem dX13_comes_7 : decode cX13_comes 7 = .ok (.invokevirtual 422, 3) := by decide +kernel
theorem dX13_comes_10 : decode cX13_comes 10 = .ok (.ifCond .ne 9, 3) := by decide +kernel
theorem dX13_comes_13 : decode cX13_comes 13 = .ok (.aload_n 0, 1) := by decide +kernel
theorem dX13_comes_14 : decode cX13_comes 14 = .ok (.iconst 1, 1) := by decide +kernel
theorem dX13_comes_15 : decode cX13_comes 15 = .ok (.invokevirtual 81, 3) := by decide +kernel
theorem dX13_comes_18 : decode cX13_comes 18 = .ok (.ireturn, 1) := by decide +kernel
theorem dX13_comes_19 : decode cX13_comes 19 = .ok (.aload_n 0, 1) := by decide +kernel
theorem dX13_comes_20 : decode cX13_comes 20 = .ok (.iload_n 1, 1) := by decide +kernel
theorem dX13_comes_21 : decode cX13_comes 21 = .ok (.invokevirtual 425, 3) := by decide +kernel
theorem dX13_comes_24 : decode cX13_comes 24 = .ok (.istore_n 2, 1) := by decide +kernel
theorem dX13_comes_25 : decode cX13_comes 25 = .ok (.iload_n 2, 1) := by decide +kernel
theorem dX13_comes_26 : decode cX13_comes 26 = .ok (.iconst (-1), 1) := by decide +kernel
theorem dX13_comes_27 : decode cX13_comes 27 = .ok (.if_icmp .ne 10, 3) := by decide +kernel
theorem dX13_comes_30 : decode cX13_comes 30 = .ok (.aload_n 0, 1) := by decide +kernel
theorem dX13_comes_31 : decode cX13_comes 31 = .ok (.bipush 6, 2) := by decide +kernel
theorem dX13_comes_33 : decode cX13_comes 33 = .ok (.invokevirtual 81, 3) := by decide +kernel
theorem dX13_comes_36 : decode cX13_comes 36 = .ok (.ireturn, 1) := by decide +kernel
theorem dX13_comes_37 : decode cX13_comes 37 = .ok (.aload_n 0, 1) := by decide +kernel
theorem dX13_comes_38 : decode cX13_comes 38 = .ok (.iload_n 2, 1) := by decide +kernel
theorem dX13_comes_39 : decode cX13_comes 39 = .ok (.aload_n 0, 1) := by decide +kernel
theorem dX13_comes_40 : decode cX13_comes 40 = .ok (.getfield 397, 3) := by decide +kernel
theorem dX13_comes_43 : decode cX13_comes 43 = .ok (.invokevirtual 448, 3) := by decide +kernel
theorem dX13_comes_46 : decode cX13_comes 46 = .ok (.aload_n 0, 1) := by decide +kernel
theorem dX13_comes_47 : decode cX13_comes 47 = .ok (.aload_n 0, 1) := by decide +kernel
theorem dX13_comes_48 : decode cX13_comes 48 = .ok (.iload_n 1, 1) := by decide +kernel
theorem dX13_comes_49 : decode cX13_comes 49 = .ok (.invokevirtual 451, 3) := by decide +kernel
theorem dX13_comes_52 : decode cX13_comes 52 = .ok (.invokevirtual 416, 3) := by decide +kernel
theorem dX13_comes_55 : decode cX13_comes 55 = .ok (.ireturn, 1) := by decide +kernel
theorem dX13_heat_0 : decode cX13_heat 0 = .ok (.aload_n 0, 1) := by decide +kernel
theorem dX13_heat_1 : decode cX13_heat 1 = .ok (.iconst 0, 1) := by decide +kernel
theorem dX13_heat_2 : decode cX13_heat 2 = .ok (.putfield 75, 3) := by decide +kernel
theorem dX13_heat_5 : decode cX13_heat 5 = .ok (.aload_n 0, 1) := by decide +kernel
theorem dX13_heat_6 : decode cX13_heat 6 = .ok (.iload_n 1, 1) := by decide +kernel
theorem dX13_heat_7 : decode cX13_heat 7 = .ok (.invokevirtual 422, 3) := by decide +kernel
theorem dX13_heat_10 : decode cX13_heat 10 = .ok (.ifCond .ne 9, 3) := by decide +kernel
theorem dX13_heat_13 : decode cX13_heat 13 = .ok (.aload_n 0, 1) := by decide +kernel
theorem dX13_heat_14 : decode cX13_heat 14 = .ok (.iconst 1, 1) := by decide +kernel
theorem dX13_heat_15 : decode cX13_heat 15 = .ok (.invokevirtual 454, 3) := by decide +kernel
theorem dX13_heat_18 : decode cX13_heat 18 = .ok (.ireturn, 1) := by decide +kernel
theorem dX13_heat_19 : decode cX13_heat 19 = .ok (.aload_n 0, 1) := by decide +kernel
theorem dX13_heat_20 : decode cX13_heat 20 = .ok (.iload_n 1, 1) := by decide +kernel
theorem dX13_heat_21 : decode cX13_heat 21 = .ok (.invokevirtual 425, 3) := by decide +kernel
theorem dX13_heat_24 : decode cX13_heat 24 = .ok (.istore_n 2, 1) := by decide +kernel
theorem dX13_heat_25 : decode cX13_heat 25 = .ok (.iload_n 2, 1) := by decide +kernel
theorem dX13_heat_26 : decode cX13_heat 26 = .ok (.iconst (-1), 1) := by decide +kernel
theorem dX13_heat_27 : decode cX13_heat 27 = .ok (.if_icmp .ne 10, 3) := by decide +kernel
theorem dX13_heat_30 : decode cX13_heat 30 = .ok (.aload_n 0, 1) := by decide +kernel
theorem dX13_heat_31 : decode cX13_heat 31 = .ok (.bipush 6, 2) := by decide +kernel
theorem dX13_heat_33 : decode cX13_heat 33 = .ok (.invokevirtual 454, 3) := by decide +kernel
theorem dX13_heat_36 : decode cX13_heat 36 = .ok (.ireturn, 1) := by decide +kernel
theorem dX13_heat_37 : decode cX13_heat 37 = .ok (.aload_n 0, 1) := by decide +kernel
theorem dX13_heat_38 : decode cX13_heat 38 = .ok (.iload_n 2, 1) := by decide +kernel
theorem dX13_heat_39 : decode cX13_heat 39 = .ok (.aload_n 0, 1) := by decide +kernel
theorem dX13_heat_40 : decode cX13_heat 40 = .ok (.getfield 397, 3) := by decide +kernel
theorem dX13_heat_43 : decode cX13_heat 43 = .ok (.invokevirtual 448, 3) := by decide +kernel
theorem dX13_heat_46 : decode cX13_heat 46 = .ok (.aload_n 0, 1) := by decide +kernel
theorem dX13_heat_47 : decode cX13_heat 47 = .ok (.aload_n 0, 1) := by decide +kernel
theorem dX13_heat_48 : decode cX13_heat 48 = .ok (.iload_n 2, 1) := by decide +kernel
theorem dX13_heat_49 : decode cX13_heat 49 = .ok (.aload_n 0, 1) := by decide +kernel
theorem dX13_heat_50 : decode cX13_heat 50 = .ok (.iload_n 1, 1) := by decide +kernel
theorem dX13_heat_51 : decode cX13_heat 51 = .ok (.invokevirtual 451, 3) := by decide +kernel
theorem dX13_heat_54 : decode cX13_heat 54 = .ok (.invokevirtual 437, 3) := by decide +kernel
theorem dX13_heat_57 : decode cX13_heat 57 = .ok (.invokevirtual 416, 3) := by decide +kernel
theorem dX13_heat_60 : decode cX13_heat 60 = .ok (.ireturn, 1) := by decide +kernel
theorem dX13_bad_0 : decode cX13_bad 0 = .ok (.aload_n 0, 1) := by decide +kernel
theorem dX13_bad_1 : decode cX13_bad 1 = .ok (.iconst 0, 1) := by decide +kernel
theorem dX13_bad_2 : decode cX13_bad 2 = .ok (.putfield 75, 3) := by decide +kernel
theorem dX13_bad_5 : decode cX13_bad 5 = .ok (.aload_n 0, 1) := by decide +kernel
theorem dX13_bad_6 : decode cX13_bad 6 = .ok (.iload_n 1, 1) := by decide +kernel
theorem dX13_bad_7 : decode cX13_bad 7 = .ok (.invokevirtual 419, 3) := by decide +kernel
theorem dX13_bad_10 : decode cX13_bad 10 = .ok (.ifCond .ne 9, 3) := by decide +kernel
theorem dX13_bad_13 : decode cX13_bad 13 = .ok (.aload_n 0, 1) := by decide +kernel
theorem dX13_bad_14 : decode cX13_bad 14 = .ok (.iconst 1, 1) := by decide +kernel
theorem dX13_bad_15 : decode cX13_bad 15 = .ok (.invokevirtual 81, 3) := by decide +kernel
theorem dX13_bad_18 : decode cX13_bad 18 = .ok (.ireturn, 1) := by decide +kernel
theorem dX13_bad_19 : decode cX13_bad 19 = .ok (.aload_n 0, 1) := by decide +kernel
theorem dX13_bad_20 : decode cX13_bad 20 = .ok (.iload_n 1, 1) := by decide +kernel
theorem dX13_bad_21 : decode cX13_bad 21 = .ok (.aload_n 0, 1) := by decide +kernel
theorem dX13_bad_22 : decode cX13_bad 22 = .ok (.getfield 397, 3) := by decide +kernel
theorem dX13_bad_25 : decode cX13_bad 25 = .ok (.invokevirtual 448, 3) := by decide +kernel
theorem dX13_bad_28 : decode cX13_bad 28 = .ok (.aload_n 0, 1) := by decide +kernel
theorem dX13_bad_29 : decode cX13_bad 29 = .ok (.aload_n 0, 1) := by decide +kernel
theorem dX13_bad_30 : decode cX13_bad 30 = .ok (.getfield 428, 3) := by decide +kernel
theorem dX13_bad_33 : decode cX13_bad 33 = .ok (.invokevirtual 416, 3) := by decide +kernel
theorem dX13_bad_36 : decode cX13_bad 36 = .ok (.ireturn, 1) := by decide +kernel
theorem dX13_way_0 : decode cX13_way 0 = .ok (.aload_n 0, 1) := by decide +kernel
theorem dX13_way_1 : decode cX13_way 1 = .ok (.iconst 0, 1) := by decide +kernel
theorem dX13_way_2 : decode cX13_way 2 = .ok (.putfield 75, 3) := by decide +kernel
theorem dX13_way_5 : decode cX13_way 5 = .ok (.aload_n 0, 1) := by decide +kernel
theorem dX13_way_6 : decode cX13_way 6 = .ok (.getfield 394, 3) := by decide +kernel
theorem dX13_way_9 : decode cX13_way 9 = .ok (.ifnonnull 9, 3) := by decide +kernel
theorem dX13_way_12 : decode cX13_way 12 = .ok (.aload_n 0, 1) := by decide +kernel
theorem dX13_way_13 : decode cX13_way 13 = .ok (.iconst 1, 1) := by decide +kernel
theorem dX13_way_14 : decode cX13_way 14 = .ok (.invokevirtual 81, 3) := by decide +kernel
theorem dX13_way_17 : decode cX13_way 17 = .ok (.ireturn, 1) := by decide +kernel
theorem dX13_way_18 : decode cX13_way 18 = .ok (.iload_n 1, 1) := by decide +kernel
theorem dX13_way_19 : decode cX13_way 19 = .ok (.iconst 0, 1) := by decide +kernel
theorem dX13_way_20 : decode cX13_way 20 = .ok (.bipush 99, 2) := by decide +kernel
theorem dX13_way_22 : decode cX13_way 22 = .ok (.invokestatic 153, 3) := by decide +kernel
theorem dX13_way_25 : decode cX13_way 25 = .ok (.ifCond .eq 29, 3) := by decide +kernel
theorem dX13_way_28 : decode cX13_way 28 = .ok (.iload_n 2, 1) := by decide +kernel
theorem dX13_way_29 : decode cX13_way 29 = .ok (.iconst 0, 1) := by decide +kernel
theorem dX13_way_30 : decode cX13_way 30 = .ok (.bipush 99, 2) := by decide +kernel
theorem dX13_way_32 : decode cX13_way 32 = .ok (.invokestatic 153, 3) := by decide +kernel
theorem dX13_way_35 : decode cX13_way 35 = .ok (.ifCond .eq 19, 3) := by decide +kernel
theorem dX13_way_38 : decode cX13_way 38 = .ok (.aload_n 0, 1) := by decide +kernel
theorem dX13_way_39 : decode cX13_way 39 = .ok (.aload_n 0, 1) := by decide +kernel
theorem dX13_way_40 : decode cX13_way 40 = .ok (.getfield 394, 3) := by decide +kernel
theorem dX13_way_43 : decode cX13_way 43 = .ok (.iload_n 1, 1) := by decide +kernel
theorem dX13_way_44 : decode cX13_way 44 = .ok (.iload_n 2, 1) := by decide +kernel
theorem dX13_way_45 : decode cX13_way 45 = .ok (.invokevirtual 434, 3) := by decide +kernel
theorem dX13_way_48 : decode cX13_way 48 = .ok (.invokevirtual 416, 3) := by decide +kernel
theorem dX13_way_51 : decode cX13_way 51 = .ok (.goto 8, 3) := by decide +kernel
theorem dX13_way_54 : decode cX13_way 54 = .ok (.aload_n 0, 1) := by decide +kernel
theorem dX13_way_55 : decode cX13_way 55 = .ok (.iconst 2, 1) := by decide +kernel
theorem dX13_way_56 : decode cX13_way 56 = .ok (.invokevirtual 81, 3) := by decide +kernel
theorem dX13_way_59 : decode cX13_way 59 = .ok (.ireturn, 1) := by decide +kernel
theorem dX13_bits_0 : decode cX13_bits 0 = .ok (.iconst 0, 1) := by decide +kernel
theorem dX13_bits_1 : decode cX13_bits 1 = .ok (.istore_n 1, 1) := by decide +kernel
theorem dX13_bits_2 : decode cX13_bits 2 = .ok (.iload_n 0, 1) := by decide +kernel
theorem dX13_bits_3 : decode cX13_bits 3 = .ok (.istore_n 2, 1) := by decide +kernel
theorem dX13_bits_4 : decode cX13_bits 4 = .ok (.iload_n 2, 1) := by decide +kernel
theorem dX13_bits_5 : decode cX13_bits 5 = .ok (.ifCond .eq 15, 3) := by decide +kernel
theorem dX13_bits_8 : decode cX13_bits 8 = .ok (.iinc 1 1, 3) := by decide +kernel
theorem dX13_bits_11 : decode cX13_bits 11 = .ok (.iload_n 2, 1) := by decide +kernel
theorem dX13_bits_12 : decode cX13_bits 12 = .ok (.iload_n 2, 1) := by decide +kernel
theorem dX13_bits_13 : decode cX13_bits 13 = .ok (.iconst 1, 1) := by decide +kernel
theorem dX13_bits_14 : decode cX13_bits 14 = .ok (.isub, 1) := by decide +kernel
theorem dX13_bits_15 : decode cX13_bits 15 = .ok (.iand, 1) := by decide +kernel
theorem dX13_bits_16 : decode cX13_bits 16 = .ok (.istore_n 2, 1) := by decide +kernel
theorem dX13_bits_17 : decode cX13_bits 17 = .ok (.goto (-13), 3) := by decide +kernel
theorem dX13_bits_20 : decode cX13_bits 20 = .ok (.iload_n 1, 1) := by decide +kernel
theorem dX13_bits_21 : decode cX13_bits 21 = .ok (.ireturn, 1) := by decide +kernel
theorem dX13_orders_0 : decode cX13_orders 0 = .ok (.iconst 1, 1) := by decide +kernel
theorem dX13_orders_1 : decode cX13_orders 1 = .ok (.istore_n 1, 1) := by decide +kernel
theorem dX13_orders_2 : decode cX13_orders 2 = .ok (.iconst 2, 1) := by decide +kernel
theorem dX13_orders_3 : decode cX13_orders 3 = .ok (.istore_n 2, 1) := by decide +kernel
theorem dX13_orders_4 : decode cX13_orders 4 = .ok (.iload_n 2, 1) := by decide +kernel
theorem dX13_orders_5 : decode cX13_orders 5 = .ok (.iload_n 0, 1) := by decide +kernel
theorem dX13_orders_6 : decode cX13_orders 6 = .ok (.if_icmp .gt 13, 3) := by decide +kernel
theorem dX13_orders_9 : decode cX13_orders 9 = .ok (.iload_n 1, 1) := by decide +kernel
theorem dX13_orders_10 : decode cX13_orders 10 = .ok (.iload_n 2, 1) := by decide +kernel
theorem dX13_orders_11 : decode cX13_orders 11 = .ok (.imul, 1) := by decide +kernel
theorem dX13_orders_12 : decode cX13_orders 12 = .ok (.istore_n 1, 1) := by decide +kernel
theorem dX13_orders_13 : decode cX13_orders 13 = .ok (.iinc 2 1, 3) := by decide +kernel
theorem dX13_orders_16 : decode cX13_orders 16 = .ok (.goto (-12), 3) := by decide +kernel
theorem dX13_orders_19 : decode cX13_orders 19 = .ok (.iload_n 1, 1) := by decide +kernel
theorem dX13_orders_20 : decode cX13_orders 20 = .ok (.ireturn, 1) := by decide +kernel
theorem dX13_ordered_0 : decode cX13_ordered 0 = .ok (.aload_n 0, 1) := by decide +kernel
theorem dX13_ordered_1 : decode cX13_ordered 1 = .ok (.iload_n 1, 1) := by decide +kernel
theorem dX13_ordered_2 : decode cX13_ordered 2 = .ok (.invokestatic 457, 3) := by decide +kernel
theorem dX13_ordered_5 : decode cX13_ordered 5 = .ok (.putfield 431, 3) := by decide +kernel
theorem dX13_ordered_8 : decode cX13_ordered 8 = .ok (.iload_n 2, 1) := by decide +kernel
theorem dX13_ordered_9 : decode cX13_ordered 9 = .ok (.istore_n 3, 1) := by decide +kernel
theorem dX13_ordered_10 : decode cX13_ordered 10 = .ok (.iload_n 1, 1) := by decide +kernel
theorem dX13_ordered_11 : decode cX13_ordered 11 = .ok (.istore 4, 2) := by decide +kernel
theorem dX13_ordered_13 : decode cX13_ordered 13 = .ok (.aload_n 0, 1) := by decide +kernel
theorem dX13_ordered_14 : decode cX13_ordered 14 = .ok (.getfield 431, 3) := by decide +kernel
theorem dX13_ordered_17 : decode cX13_ordered 17 = .ok (.invokestatic 460, 3) := by decide +kernel
theorem dX13_ordered_20 : decode cX13_ordered 20 = .ok (.istore 5, 2) := by decide +kernel
theorem dX13_ordered_22 : decode cX13_ordered 22 = .ok (.iconst 0, 1) := by decide +kernel
theorem dX13_ordered_23 : decode cX13_ordered 23 = .ok (.istore 6, 2) := by decide +kernel
theorem dX13_ordered_25 : decode cX13_ordered 25 = .ok (.iload 6, 2) := by decide +kernel
theorem dX13_ordered_27 : decode cX13_ordered 27 = .ok (.aload_n 0, 1) := by decide +kernel
theorem dX13_ordered_28 : decode cX13_ordered 28 = .ok (.getfield 431, 3) := by decide +kernel
theorem dX13_ordered_31 : decode cX13_ordered 31 = .ok (.if_icmp .ge 96, 3) := by decide +kernel
theorem dX13_ordered_34 : decode cX13_ordered 34 = .ok (.iload 5, 2) := by decide +kernel
theorem dX13_ordered_36 : decode cX13_ordered 36 = .ok (.aload_n 0, 1) := by decide +kernel
theorem dX13_ordered_37 : decode cX13_ordered 37 = .ok (.getfield 431, 3) := by decide +kernel
theorem dX13_ordered_40 : decode cX13_ordered 40 = .ok (.iload 6, 2) := by decide +kernel
theorem dX13_ordered_42 : decode cX13_ordered 42 = .ok (.isub, 1) := by decide +kernel
theorem dX13_ordered_43 : decode cX13_ordered 43 = .ok (.idiv, 1) := by decide +kernel
theorem dX13_ordered_44 : decode cX13_ordered 44 = .ok (.istore 5, 2) := by decide +kernel
theorem dX13_ordered_46 : decode cX13_ordered 46 = .ok (.iload_n 3, 1) := by decide +kernel
theorem dX13_ordered_47 : decode cX13_ordered 47 = .ok (.iload 5, 2) := by decide +kernel
theorem dX13_ordered_49 : decode cX13_ordered 49 = .ok (.idiv, 1) := by decide +kernel
theorem dX13_ordered_50 : decode cX13_ordered 50 = .ok (.istore 7, 2) := by decide +kernel
theorem dX13_ordered_52 : decode cX13_ordered 52 = .ok (.iload_n 3, 1) := by decide +kernel
theorem dX13_ordered_53 : decode cX13_ordered 53 = .ok (.iload 5, 2) := by decide +kernel
theorem dX13_ordered_55 : decode cX13_ordered 55 = .ok (.irem, 1) := by decide +kernel
theorem dX13_ordered_56 : decode cX13_ordered 56 = .ok (.istore_n 3, 1) := by decide +kernel
theorem dX13_ordered_57 : decode cX13_ordered 57 = .ok (.iconst 0, 1) := by decide +kernel
theorem dX13_ordered_58 : decode cX13_ordered 58 = .ok (.istore 8, 2) := by decide +kernel
theorem dX13_ordered_60 : decode cX13_ordered 60 = .ok (.iload 4, 2) := by decide +kernel
theorem dX13_ordered_62 : decode cX13_ordered 62 = .ok (.iload 8, 2) := by decide +kernel
theorem dX13_ordered_64 : decode cX13_ordered 64 = .ok (.invokestatic 440, 3) := by decide +kernel
theorem dX13_ordered_67 : decode cX13_ordered 67 = .ok (.ifCond .eq 8, 3) := by decide +kernel
theorem dX13_ordered_70 : decode cX13_ordered 70 = .ok (.iload 7, 2) := by decide +kernel
theorem dX13_ordered_72 : decode cX13_ordered 72 = .ok (.ifCond .le 29, 3) := by decide +kernel
theorem dX13_ordered_75 : decode cX13_ordered 75 = .ok (.iload 7, 2) := by decide +kernel
theorem dX13_ordered_77 : decode cX13_ordered 77 = .ok (.iload 4, 2) := by decide +kernel
theorem dX13_ordered_79 : decode cX13_ordered 79 = .ok (.iload 8, 2) := by decide +kernel
theorem dX13_ordered_81 : decode cX13_ordered 81 = .ok (.invokestatic 440, 3) := by decide +kernel
theorem dX13_ordered_84 : decode cX13_ordered 84 = .ok (.ifCond .eq 7, 3) := by decide +kernel
theorem dX13_ordered_87 : decode cX13_ordered 87 = .ok (.iconst 1, 1) := by decide +kernel
theorem dX13_ordered_88 : decode cX13_ordered 88 = .ok (.goto 4, 3) := by decide +kernel
theorem dX13_ordered_91 : decode cX13_ordered 91 = .ok (.iconst 0, 1) := by decide +kernel
theorem dX13_ordered_92 : decode cX13_ordered 92 = .ok (.isub, 1) := by decide +kernel
theorem dX13_ordered_93 : decode cX13_ordered 93 = .ok (.istore 7, 2) := by decide +kernel
theorem dX13_ordered_95 : decode cX13_ordered 95 = .ok (.iinc 8 1, 3) := by decide +kernel
theorem dX13_ordered_98 : decode cX13_ordered 98 = .ok (.goto (-38), 3) := by decide +kernel
theorem dX13_ordered_101 : decode cX13_ordered 101 = .ok (.iload 4, 2) := by decide +kernel
theorem dX13_ordered_103 : decode cX13_ordered 103 = .ok (.iconst 1, 1) := by decide +kernel
theorem dX13_ordered_104 : decode cX13_ordered 104 = .ok (.iload 8, 2) := by decide +kernel
theorem dX13_ordered_106 : decode cX13_ordered 106 = .ok (.ishl, 1) := by decide +kernel
theorem dX13_ordered_107 : decode cX13_ordered 107 = .ok (.iconst (-1), 1) := by decide +kernel
theorem dX13_ordered_108 : decode cX13_ordered 108 = .ok (.ixor, 1) := by decide +kernel
theorem dX13_ordered_109 : decode cX13_ordered 109 = .ok (.iand, 1) := by decide +kernel
theorem dX13_ordered_110 : decode cX13_ordered 110 = .ok (.istore 4, 2) := by decide +kernel
theorem dX13_ordered_112 : decode cX13_ordered 112 = .ok (.aload_n 0, 1) := by decide +kernel
theorem dX13_ordered_113 : decode cX13_ordered 113 = .ok (.getfield 24, 3) := by decide +kernel
theorem dX13_ordered_116 : decode cX13_ordered 116 = .ok (.iload 6, 2) := by decide +kernel
theorem dX13_ordered_118 : decode cX13_ordered 118 = .ok (.iload 8, 2) := by decide +kernel
theorem dX13_ordered_120 : decode cX13_ordered 120 = .ok (.iastore, 1) := by decide +kernel
theorem dX13_ordered_121 : decode cX13_ordered 121 = .ok (.iinc 6 1, 3) := by decide +kernel
theorem dX13_ordered_124 : decode cX13_ordered 124 = .ok (.goto (-99), 3) := by decide +kernel
theorem dX13_ordered_127 : decode cX13_ordered 127 = .ok (.return_, 1) := by decide +kernel
theorem dX13_bests_0 : decode cX13_bests 0 = .ok (.aload_n 0, 1) := by decide +kernel
theorem dX13_bests_1 : decode cX13_bests 1 = .ok (.iconst 0, 1) := by decide +kernel
theorem dX13_bests_2 : decode cX13_bests 2 = .ok (.putfield 463, 3) := by decide +kernel
theorem dX13_bests_5 : decode cX13_bests 5 = .ok (.aload_n 0, 1) := by decide +kernel
theorem dX13_bests_6 : decode cX13_bests 6 = .ok (.aload_n 0, 1) := by decide +kernel
theorem dX13_bests_7 : decode cX13_bests 7 = .ok (.getfield 394, 3) := by decide +kernel
theorem dX13_bests_10 : decode cX13_bests 10 = .ok (.getfield 356, 3) := by decide +kernel
theorem dX13_bests_13 : decode cX13_bests 13 = .ok (.iload_n 1, 1) := by decide +kernel
theorem dX13_bests_14 : decode cX13_bests 14 = .ok (.iaload, 1) := by decide +kernel
theorem dX13_bests_15 : decode cX13_bests 15 = .ok (.putfield 466, 3) := by decide +kernel
theorem dX13_bests_18 : decode cX13_bests 18 = .ok (.iload_n 2, 1) := by decide +kernel
theorem dX13_bests_19 : decode cX13_bests 19 = .ok (.invokestatic 457, 3) := by decide +kernel
theorem dX13_bests_22 : decode cX13_bests 22 = .ok (.invokestatic 460, 3) := by decide +kernel
theorem dX13_bests_25 : decode cX13_bests 25 = .ok (.istore_n 3, 1) := by decide +kernel
theorem dX13_bests_26 : decode cX13_bests 26 = .ok (.iconst 0, 1) := by decide +kernel
theorem dX13_bests_27 : decode cX13_bests 27 = .ok (.istore 4, 2) := by decide +kernel
theorem dX13_bests_29 : decode cX13_bests 29 = .ok (.iload 4, 2) := by decide +kernel
theorem dX13_bests_31 : decode cX13_bests 31 = .ok (.iload_n 3, 1) := by decide +kernel
theorem dX13_bests_32 : decode cX13_bests 32 = .ok (.if_icmp .ge 127, 3) := by decide +kernel
theorem dX13_bests_35 : decode cX13_bests 35 = .ok (.iload_n 2, 1) := by decide +kernel
theorem dX13_bests_36 : decode cX13_bests 36 = .ok (.ifCond .eq 123, 3) := by decide +kernel
theorem dX13_bests_39 : decode cX13_bests 39 = .ok (.aload_n 0, 1) := by decide +kernel
theorem dX13_bests_40 : decode cX13_bests 40 = .ok (.iload_n 2, 1) := by decide +kernel
theorem dX13_bests_41 : decode cX13_bests 41 = .ok (.iload 4, 2) := by decide +kernel
theorem dX13_bests_43 : decode cX13_bests 43 = .ok (.invokevirtual 469, 3) := by decide +kernel
theorem dX13_bests_46 : decode cX13_bests 46 = .ok (.aload_n 0, 1) := by decide +kernel
theorem dX13_bests_47 : decode cX13_bests 47 = .ok (.iload_n 1, 1) := by decide +kernel
theorem dX13_bests_48 : decode cX13_bests 48 = .ok (.iconst 0, 1) := by decide +kernel
theorem dX13_bests_49 : decode cX13_bests 49 = .ok (.invokevirtual 444, 3) := by decide +kernel
theorem dX13_bests_52 : decode cX13_bests 52 = .ok (.aload_n 0, 1) := by decide +kernel
theorem dX13_bests_53 : decode cX13_bests 53 = .ok (.getfield 428, 3) := by decide +kernel
theorem dX13_bests_56 : decode cX13_bests 56 = .ok (.invokestatic 457, 3) := by decide +kernel
theorem dX13_bests_59 : decode cX13_bests 59 = .ok (.istore 5, 2) := by decide +kernel
theorem dX13_bests_61 : decode cX13_bests 61 = .ok (.aload_n 0, 1) := by decide +kernel
theorem dX13_bests_62 : decode cX13_bests 62 = .ok (.getfield 27, 3) := by decide +kernel
theorem dX13_bests_65 : decode cX13_bests 65 = .ok (.aload_n 0, 1) := by decide +kernel
theorem dX13_bests_66 : decode cX13_bests 66 = .ok (.getfield 431, 3) := by decide +kernel
theorem dX13_bests_69 : decode cX13_bests 69 = .ok (.iconst 1, 1) := by decide +kernel
theorem dX13_bests_70 : decode cX13_bests 70 = .ok (.isub, 1) := by decide +kernel
theorem dX13_bests_71 : decode cX13_bests 71 = .ok (.iaload, 1) := by decide +kernel
theorem dX13_bests_72 : decode cX13_bests 72 = .ok (.istore 6, 2) := by decide +kernel
theorem dX13_bests_74 : decode cX13_bests 74 = .ok (.iload 4, 2) := by decide +kernel
theorem dX13_bests_76 : decode cX13_bests 76 = .ok (.ifCond .le 33, 3) := by decide +kernel
theorem dX13_bests_79 : decode cX13_bests 79 = .ok (.iload 5, 2) := by decide +kernel
theorem dX13_bests_81 : decode cX13_bests 81 = .ok (.aload_n 0, 1) := by decide +kernel
theorem dX13_bests_82 : decode cX13_bests 82 = .ok (.getfield 463, 3) := by decide +kernel
theorem dX13_bests_85 : decode cX13_bests 85 = .ok (.if_icmp .gt 68, 3) := by decide +kernel
theorem dX13_bests_88 : decode cX13_bests 88 = .ok (.iload 5, 2) := by decide +kernel
theorem dX13_bests_90 : decode cX13_bests 90 = .ok (.aload_n 0, 1) := by decide +kernel
theorem dX13_bests_91 : decode cX13_bests 91 = .ok (.getfield 463, 3) := by decide +kernel
theorem dX13_bests_94 : decode cX13_bests 94 = .ok (.if_icmp .ne 15, 3) := by decide +kernel
theorem dX13_bests_97 : decode cX13_bests 97 = .ok (.iload 6, 2) := by decide +kernel
theorem dX13_bests_99 : decode cX13_bests 99 = .ok (.aload_n 0, 1) := by decide +kernel
theorem dX13_bests_100 : decode cX13_bests 100 = .ok (.getfield 466, 3) := by decide +kernel
theorem dX13_bests_103 : decode cX13_bests 103 = .ok (.if_icmp .lt 6, 3) := by decide +kernel
theorem dX13_bests_106 : decode cX13_bests 106 = .ok (.goto 47, 3) := by decide +kernel
theorem dX13_bests_109 : decode cX13_bests 109 = .ok (.aload_n 0, 1) := by decide +kernel
theorem dX13_bests_110 : decode cX13_bests 110 = .ok (.iload 5, 2) := by decide +kernel
theorem dX13_bests_112 : decode cX13_bests 112 = .ok (.putfield 463, 3) := by decide +kernel
theorem dX13_bests_115 : decode cX13_bests 115 = .ok (.aload_n 0, 1) := by decide +kernel
theorem dX13_bests_116 : decode cX13_bests 116 = .ok (.iload 6, 2) := by decide +kernel
theorem dX13_bests_118 : decode cX13_bests 118 = .ok (.putfield 466, 3) := by decide +kernel
theorem dX13_bests_121 : decode cX13_bests 121 = .ok (.iconst 0, 1) := by decide +kernel
theorem dX13_bests_122 : decode cX13_bests 122 = .ok (.istore 7, 2) := by decide +kernel
theorem dX13_bests_124 : decode cX13_bests 124 = .ok (.iload 7, 2) := by decide +kernel
theorem dX13_bests_126 : decode cX13_bests 126 = .ok (.aload_n 0, 1) := by decide +kernel
theorem dX13_bests_127 : decode cX13_bests 127 = .ok (.getfield 431, 3) := by decide +kernel
theorem dX13_bests_130 : decode cX13_bests 130 = .ok (.if_icmp .ge 23, 3) := by decide +kernel
theorem dX13_bests_133 : decode cX13_bests 133 = .ok (.aload_n 0, 1) := by decide +kernel
theorem dX13_bests_134 : decode cX13_bests 134 = .ok (.getfield 30, 3) := by decide +kernel
theorem dX13_bests_137 : decode cX13_bests 137 = .ok (.iload 7, 2) := by decide +kernel
theorem dX13_bests_139 : decode cX13_bests 139 = .ok (.aload_n 0, 1) := by decide +kernel
theorem dX13_bests_140 : decode cX13_bests 140 = .ok (.getfield 24, 3) := by decide +kernel
theorem dX13_bests_143 : decode cX13_bests 143 = .ok (.iload 7, 2) := by decide +kernel
theorem dX13_bests_145 : decode cX13_bests 145 = .ok (.iaload, 1) := by decide +kernel
theorem dX13_bests_146 : decode cX13_bests 146 = .ok (.iastore, 1) := by decide +kernel
theorem dX13_bests_147 : decode cX13_bests 147 = .ok (.iinc 7 1, 3) := by decide +kernel
theorem dX13_bests_150 : decode cX13_bests 150 = .ok (.goto (-26), 3) := by decide +kernel
theorem dX13_bests_153 : decode cX13_bests 153 = .ok (.iinc 4 1, 3) := by decide +kernel
theorem dX13_bests_156 : decode cX13_bests 156 = .ok (.goto (-127), 3) := by decide +kernel
theorem dX13_bests_159 : decode cX13_bests 159 = .ok (.return_, 1) := by decide +kernel
theorem dX13_refusesBest_0 : decode cX13_refusesBest 0 = .ok (.aload_n 0, 1) := by decide +kernel
theorem dX13_refusesBest_1 : decode cX13_refusesBest 1 = .ok (.iload_n 1, 1) := by decide +kernel
theorem dX13_refusesBest_2 : decode cX13_refusesBest 2 = .ok (.invokevirtual 419, 3) := by decide +kernel
theorem dX13_refusesBest_5 : decode cX13_refusesBest 5 = .ok (.ifCond .eq 20, 3) := by decide +kernel
theorem dX13_refusesBest_8 : decode cX13_refusesBest 8 = .ok (.iload_n 2, 1) := by decide +kernel
theorem dX13_refusesBest_9 : decode cX13_refusesBest 9 = .ok (.ifCond .lt 16, 3) := by decide +kernel
theorem dX13_refusesBest_12 : decode cX13_refusesBest 12 = .ok (.iload_n 2, 1) := by decide +kernel
theorem dX13_refusesBest_13 : decode cX13_refusesBest 13 = .ok (.iconst 1, 1) := by decide +kernel
theorem dX13_refusesBest_14 : decode cX13_refusesBest 14 = .ok (.aload_n 0, 1) := by decide +kernel
theorem dX13_refusesBest_15 : decode cX13_refusesBest 15 = .ok (.getfield 394, 3) := by decide +kernel
theorem dX13_refusesBest_18 : decode cX13_refusesBest 18 = .ok (.getfield 223, 3) := by decide +kernel
theorem dX13_refusesBest_21 : decode cX13_refusesBest 21 = .ok (.ishl, 1) := by decide +kernel
theorem dX13_refusesBest_22 : decode cX13_refusesBest 22 = .ok (.if_icmp .lt 5, 3) := by decide +kernel
theorem dX13_refusesBest_25 : decode cX13_refusesBest 25 = .ok (.iconst 1, 1) := by decide +kernel
theorem dX13_refusesBest_26 : decode cX13_refusesBest 26 = .ok (.ireturn, 1) := by decide +kernel
theorem dX13_refusesBest_27 : decode cX13_refusesBest 27 = .ok (.iload_n 2, 1) := by decide +kernel
theorem dX13_refusesBest_28 : decode cX13_refusesBest 28 = .ok (.invokestatic 457, 3) := by decide +kernel
theorem dX13_refusesBest_31 : decode cX13_refusesBest 31 = .ok (.aload_n 0, 1) := by decide +kernel
theorem dX13_refusesBest_32 : decode cX13_refusesBest 32 = .ok (.getfield 394, 3) := by decide +kernel
theorem dX13_refusesBest_35 : decode cX13_refusesBest 35 = .ok (.getfield 358, 3) := by decide +kernel
theorem dX13_refusesBest_38 : decode cX13_refusesBest 38 = .ok (.iload_n 1, 1) := by decide +kernel
theorem dX13_refusesBest_39 : decode cX13_refusesBest 39 = .ok (.iaload, 1) := by decide +kernel
theorem dX13_refusesBest_40 : decode cX13_refusesBest 40 = .ok (.if_icmp .le 7, 3) := by decide +kernel
theorem dX13_refusesBest_43 : decode cX13_refusesBest 43 = .ok (.iconst 3, 1) := by decide +kernel
theorem dX13_refusesBest_44 : decode cX13_refusesBest 44 = .ok (.goto 4, 3) := by decide +kernel
theorem dX13_refusesBest_47 : decode cX13_refusesBest 47 = .ok (.iconst 0, 1) := by decide +kernel
theorem dX13_refusesBest_48 : decode cX13_refusesBest 48 = .ok (.ireturn, 1) := by decide +kernel
theorem dX13_best_0 : decode cX13_best 0 = .ok (.aload_n 0, 1) := by decide +kernel
theorem dX13_best_1 : decode cX13_best 1 = .ok (.iconst 0, 1) := by decide +kernel
theorem dX13_best_2 : decode cX13_best 2 = .ok (.putfield 75, 3) := by decide +kernel
theorem dX13_best_5 : decode cX13_best 5 = .ok (.aload_n 0, 1) := by decide +kernel
theorem dX13_best_6 : decode cX13_best 6 = .ok (.iload_n 1, 1) := by decide +kernel
theorem dX13_best_7 : decode cX13_best 7 = .ok (.iload_n 2, 1) := by decide +kernel
theorem dX13_best_8 : decode cX13_best 8 = .ok (.invokevirtual 472, 3) := by decide +kernel
theorem dX13_best_11 : decode cX13_best 11 = .ok (.istore_n 3, 1) := by decide +kernel
theorem dX13_best_12 : decode cX13_best 12 = .ok (.iload_n 3, 1) := by decide +kernel
theorem dX13_best_13 : decode cX13_best 13 = .ok (.ifCond .le 9, 3) := by decide +kernel
theorem dX13_best_16 : decode cX13_best 16 = .ok (.aload_n 0, 1) := by decide +kernel
theorem dX13_best_17 : decode cX13_best 17 = .ok (.iload_n 3, 1) := by decide +kernel
theorem dX13_best_18 : decode cX13_best 18 = .ok (.invokevirtual 81, 3) := by decide +kernel
theorem dX13_best_21 : decode cX13_best 21 = .ok (.ireturn, 1) := by decide +kernel
theorem dX13_best_22 : decode cX13_best 22 = .ok (.aload_n 0, 1) := by decide +kernel
theorem dX13_best_23 : decode cX13_best 23 = .ok (.iload_n 1, 1) := by decide +kernel
theorem dX13_best_24 : decode cX13_best 24 = .ok (.iload_n 2, 1) := by decide +kernel
theorem dX13_best_25 : decode cX13_best 25 = .ok (.invokevirtual 475, 3) := by decide +kernel
theorem dX13_best_28 : decode cX13_best 28 = .ok (.aload_n 0, 1) := by decide +kernel
theorem dX13_best_29 : decode cX13_best 29 = .ok (.sipush 10000, 3) := by decide +kernel
theorem dX13_best_32 : decode cX13_best 32 = .ok (.aload_n 0, 1) := by decide +kernel
theorem dX13_best_33 : decode cX13_best 33 = .ok (.getfield 463, 3) := by decide +kernel
theorem dX13_best_36 : decode cX13_best 36 = .ok (.imul, 1) := by decide +kernel
theorem dX13_best_37 : decode cX13_best 37 = .ok (.aload_n 0, 1) := by decide +kernel
theorem dX13_best_38 : decode cX13_best 38 = .ok (.getfield 466, 3) := by decide +kernel
theorem dX13_best_41 : decode cX13_best 41 = .ok (.iadd, 1) := by decide +kernel
theorem dX13_best_42 : decode cX13_best 42 = .ok (.invokevirtual 416, 3) := by decide +kernel
theorem dX13_best_45 : decode cX13_best 45 = .ok (.ireturn, 1) := by decide +kernel
theorem dX13_bestAt_0 : decode cX13_bestAt 0 = .ok (.aload_n 0, 1) := by decide +kernel
theorem dX13_bestAt_1 : decode cX13_bestAt 1 = .ok (.iconst 0, 1) := by decide +kernel
theorem dX13_bestAt_2 : decode cX13_bestAt 2 = .ok (.putfield 75, 3) := by decide +kernel
theorem dX13_bestAt_5 : decode cX13_bestAt 5 = .ok (.aload_n 0, 1) := by decide +kernel
theorem dX13_bestAt_6 : decode cX13_bestAt 6 = .ok (.iload_n 1, 1) := by decide +kernel
theorem dX13_bestAt_7 : decode cX13_bestAt 7 = .ok (.iload_n 2, 1) := by decide +kernel
theorem dX13_bestAt_8 : decode cX13_bestAt 8 = .ok (.invokevirtual 472, 3) := by decide +kernel
theorem dX13_bestAt_11 : decode cX13_bestAt 11 = .ok (.istore 4, 2) := by decide +kernel
theorem dX13_bestAt_13 : decode cX13_bestAt 13 = .ok (.iload 4, 2) := by decide +kernel
theorem dX13_bestAt_15 : decode cX13_bestAt 15 = .ok (.ifCond .le 10, 3) := by decide +kernel
theorem dX13_bestAt_18 : decode cX13_bestAt 18 = .ok (.aload_n 0, 1) := by decide +kernel
theorem dX13_bestAt_19 : decode cX13_bestAt 19 = .ok (.iload 4, 2) := by decide +kernel
theorem dX13_bestAt_21 : decode cX13_bestAt 21 = .ok (.invokevirtual 81, 3) := by decide +kernel
theorem dX13_bestAt_24 : decode cX13_bestAt 24 = .ok (.ireturn, 1) := by decide +kernel
theorem dX13_bestAt_25 : decode cX13_bestAt 25 = .ok (.iload_n 3, 1) := by decide +kernel
theorem dX13_bestAt_26 : decode cX13_bestAt 26 = .ok (.ifCond .lt 11, 3) := by decide +kernel
theorem dX13_bestAt_29 : decode cX13_bestAt 29 = .ok (.iload_n 3, 1) := by decide +kernel
theorem dX13_bestAt_30 : decode cX13_bestAt 30 = .ok (.iload_n 2, 1) := by decide +kernel
theorem dX13_bestAt_31 : decode cX13_bestAt 31 = .ok (.invokestatic 457, 3) := by decide +kernel
theorem dX13_bestAt_34 : decode cX13_bestAt 34 = .ok (.if_icmp .lt 9, 3) := by decide +kernel
theorem dX13_bestAt_37 : decode cX13_bestAt 37 = .ok (.aload_n 0, 1) := by decide +kernel
theorem dX13_bestAt_38 : decode cX13_bestAt 38 = .ok (.iconst 1, 1) := by decide +kernel
theorem dX13_bestAt_39 : decode cX13_bestAt 39 = .ok (.invokevirtual 81, 3) := by decide +kernel
theorem dX13_bestAt_42 : decode cX13_bestAt 42 = .ok (.ireturn, 1) := by decide +kernel
theorem dX13_bestAt_43 : decode cX13_bestAt 43 = .ok (.aload_n 0, 1) := by decide +kernel
theorem dX13_bestAt_44 : decode cX13_bestAt 44 = .ok (.iload_n 1, 1) := by decide +kernel
theorem dX13_bestAt_45 : decode cX13_bestAt 45 = .ok (.iload_n 2, 1) := by decide +kernel
theorem dX13_bestAt_46 : decode cX13_bestAt 46 = .ok (.invokevirtual 475, 3) := by decide +kernel
theorem dX13_bestAt_49 : decode cX13_bestAt 49 = .ok (.aload_n 0, 1) := by decide +kernel
theorem dX13_bestAt_50 : decode cX13_bestAt 50 = .ok (.aload_n 0, 1) := by decide +kernel
theorem dX13_bestAt_51 : decode cX13_bestAt 51 = .ok (.getfield 30, 3) := by decide +kernel
theorem dX13_bestAt_54 : decode cX13_bestAt 54 = .ok (.iload_n 3, 1) := by decide +kernel
theorem dX13_bestAt_55 : decode cX13_bestAt 55 = .ok (.iaload, 1) := by decide +kernel
theorem dX13_bestAt_56 : decode cX13_bestAt 56 = .ok (.invokevirtual 416, 3) := by decide +kernel
theorem dX13_bestAt_59 : decode cX13_bestAt 59 = .ok (.ireturn, 1) := by decide +kernel
theorem dX13_housesOf_0 : decode cX13_housesOf 0 = .ok (.iconst 0, 1) := by decide +kernel
theorem dX13_housesOf_1 : decode cX13_housesOf 1 = .ok (.istore_n 3, 1) := by decide +kernel
theorem dX13_housesOf_2 : decode cX13_housesOf 2 = .ok (.iload_n 1, 1) := by decide +kernel
theorem dX13_housesOf_3 : decode cX13_housesOf 3 = .ok (.istore 4, 2) := by decide +kernel
theorem dX13_housesOf_5 : decode cX13_housesOf 5 = .ok (.aload_n 0, 1) := by decide +kernel
theorem dX13_housesOf_6 : decode cX13_housesOf 6 = .ok (.getfield 394, 3) := by decide +kernel
theorem dX13_housesOf_9 : decode cX13_housesOf 9 = .ok (.getfield 223, 3) := by decide +kernel
theorem dX13_housesOf_12 : decode cX13_housesOf 12 = .ok (.iconst 1, 1) := by decide +kernel
theorem dX13_housesOf_13 : decode cX13_housesOf 13 = .ok (.isub, 1) := by decide +kernel
theorem dX13_housesOf_14 : decode cX13_housesOf 14 = .ok (.istore 5, 2) := by decide +kernel
theorem dX13_housesOf_16 : decode cX13_housesOf 16 = .ok (.iload 5, 2) := by decide +kernel
theorem dX13_housesOf_18 : decode cX13_housesOf 18 = .ok (.ifCond .lt 42, 3) := by decide +kernel
theorem dX13_housesOf_21 : decode cX13_housesOf 21 = .ok (.iload 4, 2) := by decide +kernel
theorem dX13_housesOf_23 : decode cX13_housesOf 23 = .ok (.aload_n 0, 1) := by decide +kernel
theorem dX13_housesOf_24 : decode cX13_housesOf 24 = .ok (.getfield 394, 3) := by decide +kernel
theorem dX13_housesOf_27 : decode cX13_housesOf 27 = .ok (.getfield 226, 3) := by decide +kernel
theorem dX13_housesOf_30 : decode cX13_housesOf 30 = .ok (.irem, 1) := by decide +kernel
theorem dX13_housesOf_31 : decode cX13_housesOf 31 = .ok (.iload_n 2, 1) := by decide +kernel
theorem dX13_housesOf_32 : decode cX13_housesOf 32 = .ok (.if_icmp .ne 10, 3) := by decide +kernel
theorem dX13_housesOf_35 : decode cX13_housesOf 35 = .ok (.iload_n 3, 1) := by decide +kernel
theorem dX13_housesOf_36 : decode cX13_housesOf 36 = .ok (.iconst 1, 1) := by decide +kernel
theorem dX13_housesOf_37 : decode cX13_housesOf 37 = .ok (.iload 5, 2) := by decide +kernel
theorem dX13_housesOf_39 : decode cX13_housesOf 39 = .ok (.ishl, 1) := by decide +kernel
theorem dX13_housesOf_40 : decode cX13_housesOf 40 = .ok (.ior, 1) := by decide +kernel
theorem dX13_housesOf_41 : decode cX13_housesOf 41 = .ok (.istore_n 3, 1) := by decide +kernel
theorem dX13_housesOf_42 : decode cX13_housesOf 42 = .ok (.iload 4, 2) := by decide +kernel
theorem dX13_housesOf_44 : decode cX13_housesOf 44 = .ok (.aload_n 0, 1) := by decide +kernel
theorem dX13_housesOf_45 : decode cX13_housesOf 45 = .ok (.getfield 394, 3) := by decide +kernel
theorem dX13_housesOf_48 : decode cX13_housesOf 48 = .ok (.getfield 226, 3) := by decide +kernel
theorem dX13_housesOf_51 : decode cX13_housesOf 51 = .ok (.idiv, 1) := by decide +kernel
theorem dX13_housesOf_52 : decode cX13_housesOf 52 = .ok (.istore 4, 2) := by decide +kernel
theorem dX13_housesOf_54 : decode cX13_housesOf 54 = .ok (.iinc 5 (-1), 3) := by decide +kernel
theorem dX13_housesOf_57 : decode cX13_housesOf 57 = .ok (.goto (-41), 3) := by decide +kernel
theorem dX13_housesOf_60 : decode cX13_housesOf 60 = .ok (.iload_n 3, 1) := by decide +kernel
theorem dX13_housesOf_61 : decode cX13_housesOf 61 = .ok (.ireturn, 1) := by decide +kernel
theorem dX13_shares_0 : decode cX13_shares 0 = .ok (.iconst 1, 1) := by decide +kernel
theorem dX13_shares_1 : decode cX13_shares 1 = .ok (.istore_n 1, 1) := by decide +kernel
theorem dX13_shares_2 : decode cX13_shares 2 = .ok (.iconst 0, 1) := by decide +kernel
theorem dX13_shares_3 : decode cX13_shares 3 = .ok (.istore_n 2, 1) := by decide +kernel
theorem dX13_shares_4 : decode cX13_shares 4 = .ok (.iload_n 2, 1) := by decide +kernel
theorem dX13_shares_5 : decode cX13_shares 5 = .ok (.aload_n 0, 1) := by decide +kernel
theorem dX13_shares_6 : decode cX13_shares 6 = .ok (.getfield 394, 3) := by decide +kernel
theorem dX13_shares_9 : decode cX13_shares 9 = .ok (.getfield 223, 3) := by decide +kernel
theorem dX13_shares_12 : decode cX13_shares 12 = .ok (.if_icmp .ge 19, 3) := by decide +kernel
theorem dX13_shares_15 : decode cX13_shares 15 = .ok (.iload_n 1, 1) := by decide +kernel
theorem dX13_shares_16 : decode cX13_shares 16 = .ok (.aload_n 0, 1) := by decide +kernel
theorem dX13_shares_17 : decode cX13_shares 17 = .ok (.getfield 394, 3) := by decide +kernel
theorem dX13_shares_20 : decode cX13_shares 20 = .ok (.getfield 226, 3) := by decide +kernel
theorem dX13_shares_23 : decode cX13_shares 23 = .ok (.imul, 1) := by decide +kernel
theorem dX13_shares_24 : decode cX13_shares 24 = .ok (.istore_n 1, 1) := by decide +kernel
theorem dX13_shares_25 : decode cX13_shares 25 = .ok (.iinc 2 1, 3) := by decide +kernel
theorem dX13_shares_28 : decode cX13_shares 28 = .ok (.goto (-24), 3) := by decide +kernel
theorem dX13_shares_31 : decode cX13_shares 31 = .ok (.iload_n 1, 1) := by decide +kernel
theorem dX13_shares_32 : decode cX13_shares 32 = .ok (.ireturn, 1) := by decide +kernel
theorem dX13_weighsCars_0 : decode cX13_weighsCars 0 = .ok (.iconst 0, 1) := by decide +kernel
theorem dX13_weighsCars_1 : decode cX13_weighsCars 1 = .ok (.istore_n 1, 1) := by decide +kernel
theorem dX13_weighsCars_2 : decode cX13_weighsCars 2 = .ok (.iload_n 1, 1) := by decide +kernel
theorem dX13_weighsCars_3 : decode cX13_weighsCars 3 = .ok (.aload_n 0, 1) := by decide +kernel
theorem dX13_weighsCars_4 : decode cX13_weighsCars 4 = .ok (.getfield 394, 3) := by decide +kernel
theorem dX13_weighsCars_7 : decode cX13_weighsCars 7 = .ok (.getfield 226, 3) := by decide +kernel
theorem dX13_weighsCars_10 : decode cX13_weighsCars 10 = .ok (.if_icmp .ge 93, 3) := by decide +kernel
theorem dX13_weighsCars_13 : decode cX13_weighsCars 13 = .ok (.iconst 0, 1) := by decide +kernel
theorem dX13_weighsCars_14 : decode cX13_weighsCars 14 = .ok (.istore_n 2, 1) := by decide +kernel
theorem dX13_weighsCars_15 : decode cX13_weighsCars 15 = .ok (.iload_n 2, 1) := by decide +kernel
theorem dX13_weighsCars_16 : decode cX13_weighsCars 16 = .ok (.iconst 1, 1) := by decide +kernel
theorem dX13_weighsCars_17 : decode cX13_weighsCars 17 = .ok (.aload_n 0, 1) := by decide +kernel
theorem dX13_weighsCars_18 : decode cX13_weighsCars 18 = .ok (.getfield 394, 3) := by decide +kernel
theorem dX13_weighsCars_21 : decode cX13_weighsCars 21 = .ok (.getfield 223, 3) := by decide +kernel
theorem dX13_weighsCars_24 : decode cX13_weighsCars 24 = .ok (.ishl, 1) := by decide +kernel
theorem dX13_weighsCars_25 : decode cX13_weighsCars 25 = .ok (.if_icmp .ge 72, 3) := by decide +kernel
theorem dX13_weighsCars_28 : decode cX13_weighsCars 28 = .ok (.iload_n 2, 1) := by decide +kernel
theorem dX13_weighsCars_29 : decode cX13_weighsCars 29 = .ok (.invokestatic 457, 3) := by decide +kernel
theorem dX13_weighsCars_32 : decode cX13_weighsCars 32 = .ok (.aload_n 0, 1) := by decide +kernel
theorem dX13_weighsCars_33 : decode cX13_weighsCars 33 = .ok (.getfield 394, 3) := by decide +kernel
theorem dX13_weighsCars_36 : decode cX13_weighsCars 36 = .ok (.getfield 358, 3) := by decide +kernel
theorem dX13_weighsCars_39 : decode cX13_weighsCars 39 = .ok (.iload_n 1, 1) := by decide +kernel
theorem dX13_weighsCars_40 : decode cX13_weighsCars 40 = .ok (.iaload, 1) := by decide +kernel
theorem dX13_weighsCars_41 : decode cX13_weighsCars 41 = .ok (.if_icmp .le 6, 3) := by decide +kernel
theorem dX13_weighsCars_44 : decode cX13_weighsCars 44 = .ok (.goto 47, 3) := by decide +kernel
theorem dX13_weighsCars_47 : decode cX13_weighsCars 47 = .ok (.aload_n 0, 1) := by decide +kernel
theorem dX13_weighsCars_48 : decode cX13_weighsCars 48 = .ok (.iload_n 1, 1) := by decide +kernel
theorem dX13_weighsCars_49 : decode cX13_weighsCars 49 = .ok (.iload_n 2, 1) := by decide +kernel
theorem dX13_weighsCars_50 : decode cX13_weighsCars 50 = .ok (.invokevirtual 475, 3) := by decide +kernel
theorem dX13_weighsCars_53 : decode cX13_weighsCars 53 = .ok (.aload_n 0, 1) := by decide +kernel
theorem dX13_weighsCars_54 : decode cX13_weighsCars 54 = .ok (.getfield 36, 3) := by decide +kernel
theorem dX13_weighsCars_57 : decode cX13_weighsCars 57 = .ok (.iload_n 1, 1) := by decide +kernel
theorem dX13_weighsCars_58 : decode cX13_weighsCars 58 = .ok (.bipush 6, 2) := by decide +kernel
theorem dX13_weighsCars_60 : decode cX13_weighsCars 60 = .ok (.ishl, 1) := by decide +kernel
theorem dX13_weighsCars_61 : decode cX13_weighsCars 61 = .ok (.iload_n 2, 1) := by decide +kernel
theorem dX13_weighsCars_62 : decode cX13_weighsCars 62 = .ok (.iadd, 1) := by decide +kernel
theorem dX13_weighsCars_63 : decode cX13_weighsCars 63 = .ok (.aload_n 0, 1) := by decide +kernel
theorem dX13_weighsCars_64 : decode cX13_weighsCars 64 = .ok (.getfield 463, 3) := by decide +kernel
theorem dX13_weighsCars_67 : decode cX13_weighsCars 67 = .ok (.iastore, 1) := by decide +kernel
theorem dX13_weighsCars_68 : decode cX13_weighsCars 68 = .ok (.aload_n 0, 1) := by decide +kernel
theorem dX13_weighsCars_69 : decode cX13_weighsCars 69 = .ok (.getfield 39, 3) := by decide +kernel
theorem dX13_weighsCars_72 : decode cX13_weighsCars 72 = .ok (.iload_n 1, 1) := by decide +kernel
theorem dX13_weighsCars_73 : decode cX13_weighsCars 73 = .ok (.bipush 6, 2) := by decide +kernel
theorem dX13_weighsCars_75 : decode cX13_weighsCars 75 = .ok (.ishl, 1) := by decide +kernel
theorem dX13_weighsCars_76 : decode cX13_weighsCars 76 = .ok (.iload_n 2, 1) := by decide +kernel
theorem dX13_weighsCars_77 : decode cX13_weighsCars 77 = .ok (.iadd, 1) := by decide +kernel
theorem dX13_weighsCars_78 : decode cX13_weighsCars 78 = .ok (.iload_n 2, 1) := by decide +kernel
theorem dX13_weighsCars_79 : decode cX13_weighsCars 79 = .ok (.ifCond .ne 7, 3) := by decide +kernel
theorem dX13_weighsCars_82 : decode cX13_weighsCars 82 = .ok (.iconst 0, 1) := by decide +kernel
theorem dX13_weighsCars_83 : decode cX13_weighsCars 83 = .ok (.goto 7, 3) := by decide +kernel
theorem dX13_weighsCars_86 : decode cX13_weighsCars 86 = .ok (.aload_n 0, 1) := by decide +kernel
theorem dX13_weighsCars_87 : decode cX13_weighsCars 87 = .ok (.getfield 466, 3) := by decide +kernel
theorem dX13_weighsCars_90 : decode cX13_weighsCars 90 = .ok (.iastore, 1) := by decide +kernel
theorem dX13_weighsCars_91 : decode cX13_weighsCars 91 = .ok (.iinc 2 1, 3) := by decide +kernel
theorem dX13_weighsCars_94 : decode cX13_weighsCars 94 = .ok (.goto (-79), 3) := by decide +kernel
theorem dX13_weighsCars_97 : decode cX13_weighsCars 97 = .ok (.iinc 1 1, 3) := by decide +kernel
theorem dX13_weighsCars_100 : decode cX13_weighsCars 100 = .ok (.goto (-98), 3) := by decide +kernel
theorem dX13_weighsCars_103 : decode cX13_weighsCars 103 = .ok (.return_, 1) := by decide +kernel
theorem dX13_share_0 : decode cX13_share 0 = .ok (.aload_n 0, 1) := by decide +kernel
theorem dX13_share_1 : decode cX13_share 1 = .ok (.iconst 0, 1) := by decide +kernel
theorem dX13_share_2 : decode cX13_share 2 = .ok (.putfield 75, 3) := by decide +kernel
theorem dX13_share_5 : decode cX13_share 5 = .ok (.aload_n 0, 1) := by decide +kernel
theorem dX13_share_6 : decode cX13_share 6 = .ok (.getfield 394, 3) := by decide +kernel
theorem dX13_share_9 : decode cX13_share 9 = .ok (.ifnonnull 9, 3) := by decide +kernel
theorem dX13_share_12 : decode cX13_share 12 = .ok (.aload_n 0, 1) := by decide +kernel
theorem dX13_share_13 : decode cX13_share 13 = .ok (.iconst 1, 1) := by decide +kernel
theorem dX13_share_14 : decode cX13_share 14 = .ok (.invokevirtual 81, 3) := by decide +kernel
theorem dX13_share_17 : decode cX13_share 17 = .ok (.ireturn, 1) := by decide +kernel
theorem dX13_share_18 : decode cX13_share 18 = .ok (.aload_n 0, 1) := by decide +kernel
theorem dX13_share_19 : decode cX13_share 19 = .ok (.invokevirtual 478, 3) := by decide +kernel
theorem dX13_share_22 : decode cX13_share 22 = .ok (.iconst (-1), 1) := by decide +kernel
theorem dX13_share_23 : decode cX13_share 23 = .ok (.istore_n 1, 1) := by decide +kernel
theorem dX13_share_24 : decode cX13_share 24 = .ok (.iconst 0, 1) := by decide +kernel
theorem dX13_share_25 : decode cX13_share 25 = .ok (.istore_n 2, 1) := by decide +kernel
theorem dX13_share_26 : decode cX13_share 26 = .ok (.iconst 0, 1) := by decide +kernel
theorem dX13_share_27 : decode cX13_share 27 = .ok (.istore_n 3, 1) := by decide +kernel
theorem dX13_share_28 : decode cX13_share 28 = .ok (.iconst 0, 1) := by decide +kernel
theorem dX13_share_29 : decode cX13_share 29 = .ok (.istore 4, 2) := by decide +kernel
theorem dX13_share_31 : decode cX13_share 31 = .ok (.iload 4, 2) := by decide +kernel
theorem dX13_share_33 : decode cX13_share 33 = .ok (.aload_n 0, 1) := by decide +kernel
theorem dX13_share_34 : decode cX13_share 34 = .ok (.invokevirtual 481, 3) := by decide +kernel
theorem dX13_share_37 : decode cX13_share 37 = .ok (.if_icmp .ge 155, 3) := by decide +kernel
theorem dX13_share_40 : decode cX13_share 40 = .ok (.iconst 0, 1) := by decide +kernel
theorem dX13_share_41 : decode cX13_share 41 = .ok (.istore 5, 2) := by decide +kernel
theorem dX13_share_43 : decode cX13_share 43 = .ok (.iconst 0, 1) := by decide +kernel
theorem dX13_share_44 : decode cX13_share 44 = .ok (.istore 6, 2) := by decide +kernel
theorem dX13_share_46 : decode cX13_share 46 = .ok (.iconst 1, 1) := by decide +kernel
theorem dX13_share_47 : decode cX13_share 47 = .ok (.istore 7, 2) := by decide +kernel
theorem dX13_share_49 : decode cX13_share 49 = .ok (.iconst 0, 1) := by decide +kernel
theorem dX13_share_50 : decode cX13_share 50 = .ok (.istore 8, 2) := by decide +kernel
theorem dX13_share_52 : decode cX13_share 52 = .ok (.iload 8, 2) := by decide +kernel
theorem dX13_share_54 : decode cX13_share 54 = .ok (.aload_n 0, 1) := by decide +kernel
theorem dX13_share_55 : decode cX13_share 55 = .ok (.getfield 394, 3) := by decide +kernel
theorem dX13_share_58 : decode cX13_share 58 = .ok (.getfield 226, 3) := by decide +kernel
theorem dX13_share_61 : decode cX13_share 61 = .ok (.if_icmp .ge 85, 3) := by decide +kernel
theorem dX13_share_64 : decode cX13_share 64 = .ok (.aload_n 0, 1) := by decide +kernel
theorem dX13_share_65 : decode cX13_share 65 = .ok (.iload 4, 2) := by decide +kernel
theorem dX13_share_67 : decode cX13_share 67 = .ok (.iload 8, 2) := by decide +kernel
theorem dX13_share_69 : decode cX13_share 69 = .ok (.invokevirtual 484, 3) := by decide +kernel
theorem dX13_share_72 : decode cX13_share 72 = .ok (.istore 9, 2) := by decide +kernel
theorem dX13_share_74 : decode cX13_share 74 = .ok (.iload 7, 2) := by decide +kernel
theorem dX13_share_76 : decode cX13_share 76 = .ok (.ifCond .eq 25, 3) := by decide +kernel
theorem dX13_share_79 : decode cX13_share 79 = .ok (.iload 9, 2) := by decide +kernel
theorem dX13_share_81 : decode cX13_share 81 = .ok (.invokestatic 457, 3) := by decide +kernel
theorem dX13_share_84 : decode cX13_share 84 = .ok (.aload_n 0, 1) := by decide +kernel
theorem dX13_share_85 : decode cX13_share 85 = .ok (.getfield 394, 3) := by decide +kernel
theorem dX13_share_88 : decode cX13_share 88 = .ok (.getfield 358, 3) := by decide +kernel
theorem dX13_share_91 : decode cX13_share 91 = .ok (.iload 8, 2) := by decide +kernel
theorem dX13_share_93 : decode cX13_share 93 = .ok (.iaload, 1) := by decide +kernel
theorem dX13_share_94 : decode cX13_share 94 = .ok (.if_icmp .gt 7, 3) := by decide +kernel
theorem dX13_share_97 : decode cX13_share 97 = .ok (.iconst 1, 1) := by decide +kernel
theorem dX13_share_98 : decode cX13_share 98 = .ok (.goto 4, 3) := by decide +kernel
theorem dX13_share_101 : decode cX13_share 101 = .ok (.iconst 0, 1) := by decide +kernel
theorem dX13_share_102 : decode cX13_share 102 = .ok (.istore 7, 2) := by decide +kernel
theorem dX13_share_104 : decode cX13_share 104 = .ok (.iload 5, 2) := by decide +kernel
theorem dX13_share_106 : decode cX13_share 106 = .ok (.aload_n 0, 1) := by decide +kernel
theorem dX13_share_107 : decode cX13_share 107 = .ok (.getfield 36, 3) := by decide +kernel
theorem dX13_share_110 : decode cX13_share 110 = .ok (.iload 8, 2) := by decide +kernel
theorem dX13_share_112 : decode cX13_share 112 = .ok (.bipush 6, 2) := by decide +kernel
theorem dX13_share_114 : decode cX13_share 114 = .ok (.ishl, 1) := by decide +kernel
theorem dX13_share_115 : decode cX13_share 115 = .ok (.iload 9, 2) := by decide +kernel
theorem dX13_share_117 : decode cX13_share 117 = .ok (.iadd, 1) := by decide +kernel
theorem dX13_share_118 : decode cX13_share 118 = .ok (.iaload, 1) := by decide +kernel
theorem dX13_share_119 : decode cX13_share 119 = .ok (.iadd, 1) := by decide +kernel
theorem dX13_share_120 : decode cX13_share 120 = .ok (.istore 5, 2) := by decide +kernel
theorem dX13_share_122 : decode cX13_share 122 = .ok (.iload 6, 2) := by decide +kernel
theorem dX13_share_124 : decode cX13_share 124 = .ok (.aload_n 0, 1) := by decide +kernel
theorem dX13_share_125 : decode cX13_share 125 = .ok (.getfield 39, 3) := by decide +kernel
theorem dX13_share_128 : decode cX13_share 128 = .ok (.iload 8, 2) := by decide +kernel
theorem dX13_share_130 : decode cX13_share 130 = .ok (.bipush 6, 2) := by decide +kernel
theorem dX13_share_132 : decode cX13_share 132 = .ok (.ishl, 1) := by decide +kernel
theorem dX13_share_133 : decode cX13_share 133 = .ok (.iload 9, 2) := by decide +kernel
theorem dX13_share_135 : decode cX13_share 135 = .ok (.iadd, 1) := by decide +kernel
theorem dX13_share_136 : decode cX13_share 136 = .ok (.iaload, 1) := by decide +kernel
theorem dX13_share_137 : decode cX13_share 137 = .ok (.iadd, 1) := by decide +kernel
theorem dX13_share_138 : decode cX13_share 138 = .ok (.istore 6, 2) := by decide +kernel
theorem dX13_share_140 : decode cX13_share 140 = .ok (.iinc 8 1, 3) := by decide +kernel
theorem dX13_share_143 : decode cX13_share 143 = .ok (.goto (-91), 3) := by decide +kernel
theorem dX13_share_146 : decode cX13_share 146 = .ok (.iload 7, 2) := by decide +kernel
theorem dX13_share_148 : decode cX13_share 148 = .ok (.ifCond .eq 38, 3) := by decide +kernel
theorem dX13_share_151 : decode cX13_share 151 = .ok (.iload_n 1, 1) := by decide +kernel
theorem dX13_share_152 : decode cX13_share 152 = .ok (.iconst (-1), 1) := by decide +kernel
theorem dX13_share_153 : decode cX13_share 153 = .ok (.if_icmp .eq 24, 3) := by decide +kernel
theorem dX13_share_156 : decode cX13_share 156 = .ok (.iload 5, 2) := by decide +kernel
theorem dX13_share_158 : decode cX13_share 158 = .ok (.iload_n 2, 1) := by decide +kernel
theorem dX13_share_159 : decode cX13_share 159 = .ok (.if_icmp .gt 27, 3) := by decide +kernel
theorem dX13_share_162 : decode cX13_share 162 = .ok (.iload 5, 2) := by decide +kernel
theorem dX13_share_164 : decode cX13_share 164 = .ok (.iload_n 2, 1) := by decide +kernel
theorem dX13_share_165 : decode cX13_share 165 = .ok (.if_icmp .ne 12, 3) := by decide +kernel
theorem dX13_share_168 : decode cX13_share 168 = .ok (.iload 6, 2) := by decide +kernel
theorem dX13_share_170 : decode cX13_share 170 = .ok (.iload_n 3, 1) := by decide +kernel
theorem dX13_share_171 : decode cX13_share 171 = .ok (.if_icmp .lt 6, 3) := by decide +kernel
theorem dX13_share_174 : decode cX13_share 174 = .ok (.goto 12, 3) := by decide +kernel
theorem dX13_share_177 : decode cX13_share 177 = .ok (.iload 4, 2) := by decide +kernel
theorem dX13_share_179 : decode cX13_share 179 = .ok (.istore_n 1, 1) := by decide +kernel
theorem dX13_share_180 : decode cX13_share 180 = .ok (.iload 5, 2) := by decide +kernel
theorem dX13_share_182 : decode cX13_share 182 = .ok (.istore_n 2, 1) := by decide +kernel
theorem dX13_share_183 : decode cX13_share 183 = .ok (.iload 6, 2) := by decide +kernel
theorem dX13_share_185 : decode cX13_share 185 = .ok (.istore_n 3, 1) := by decide +kernel
theorem dX13_share_186 : decode cX13_share 186 = .ok (.iinc 4 1, 3) := by decide +kernel
theorem dX13_share_189 : decode cX13_share 189 = .ok (.goto (-158), 3) := by decide +kernel
theorem dX13_share_192 : decode cX13_share 192 = .ok (.iload_n 1, 1) := by decide +kernel
theorem dX13_share_193 : decode cX13_share 193 = .ok (.iconst (-1), 1) := by decide +kernel
theorem dX13_share_194 : decode cX13_share 194 = .ok (.if_icmp .ne 10, 3) := by decide +kernel
theorem dX13_share_197 : decode cX13_share 197 = .ok (.aload_n 0, 1) := by decide +kernel
theorem dX13_share_198 : decode cX13_share 198 = .ok (.bipush 6, 2) := by decide +kernel
theorem dX13_share_200 : decode cX13_share 200 = .ok (.invokevirtual 81, 3) := by decide +kernel
theorem dX13_share_203 : decode cX13_share 203 = .ok (.ireturn, 1) := by decide +kernel
theorem dX13_share_204 : decode cX13_share 204 = .ok (.aload_n 0, 1) := by decide +kernel
theorem dX13_share_205 : decode cX13_share 205 = .ok (.iconst 1, 1) := by decide +kernel
theorem dX13_share_206 : decode cX13_share 206 = .ok (.putfield 413, 3) := by decide +kernel
theorem dX13_share_209 : decode cX13_share 209 = .ok (.iconst 0, 1) := by decide +kernel
theorem dX13_share_210 : decode cX13_share 210 = .ok (.istore 4, 2) := by decide +kernel
theorem dX13_share_212 : decode cX13_share 212 = .ok (.iload 4, 2) := by decide +kernel
theorem dX13_share_214 : decode cX13_share 214 = .ok (.aload_n 0, 1) := by decide +kernel
theorem dX13_share_215 : decode cX13_share 215 = .ok (.getfield 394, 3) := by decide +kernel
theorem dX13_share_218 : decode cX13_share 218 = .ok (.getfield 226, 3) := by decide +kernel
theorem dX13_share_221 : decode cX13_share 221 = .ok (.if_icmp .ge 54, 3) := by decide +kernel
theorem dX13_share_224 : decode cX13_share 224 = .ok (.iconst 0, 1) := by decide +kernel
theorem dX13_share_225 : decode cX13_share 225 = .ok (.istore 5, 2) := by decide +kernel
theorem dX13_share_227 : decode cX13_share 227 = .ok (.iload 5, 2) := by decide +kernel
theorem dX13_share_229 : decode cX13_share 229 = .ok (.aload_n 0, 1) := by decide +kernel
theorem dX13_share_230 : decode cX13_share 230 = .ok (.getfield 394, 3) := by decide +kernel
theorem dX13_share_233 : decode cX13_share 233 = .ok (.getfield 223, 3) := by decide +kernel
theorem dX13_share_236 : decode cX13_share 236 = .ok (.if_icmp .ge 33, 3) := by decide +kernel
theorem dX13_share_239 : decode cX13_share 239 = .ok (.aload_n 0, 1) := by decide +kernel
theorem dX13_share_240 : decode cX13_share 240 = .ok (.iload_n 1, 1) := by decide +kernel
theorem dX13_share_241 : decode cX13_share 241 = .ok (.iload 4, 2) := by decide +kernel
theorem dX13_share_243 : decode cX13_share 243 = .ok (.invokevirtual 484, 3) := by decide +kernel
theorem dX13_share_246 : decode cX13_share 246 = .ok (.iload 5, 2) := by decide +kernel
theorem dX13_share_248 : decode cX13_share 248 = .ok (.invokestatic 440, 3) := by decide +kernel
theorem dX13_share_251 : decode cX13_share 251 = .ok (.ifCond .eq 12, 3) := by decide +kernel
theorem dX13_share_254 : decode cX13_share 254 = .ok (.aload_n 0, 1) := by decide +kernel
theorem dX13_share_255 : decode cX13_share 255 = .ok (.getfield 33, 3) := by decide +kernel
theorem dX13_share_258 : decode cX13_share 258 = .ok (.iload 5, 2) := by decide +kernel
theorem dX13_share_260 : decode cX13_share 260 = .ok (.iload 4, 2) := by decide +kernel
theorem dX13_share_262 : decode cX13_share 262 = .ok (.iastore, 1) := by decide +kernel
theorem dX13_share_263 : decode cX13_share 263 = .ok (.iinc 5 1, 3) := by decide +kernel
theorem dX13_share_266 : decode cX13_share 266 = .ok (.goto (-39), 3) := by decide +kernel
theorem dX13_share_269 : decode cX13_share 269 = .ok (.iinc 4 1, 3) := by decide +kernel
theorem dX13_share_272 : decode cX13_share 272 = .ok (.goto (-60), 3) := by decide +kernel
theorem dX13_share_275 : decode cX13_share 275 = .ok (.aload_n 0, 1) := by decide +kernel
theorem dX13_share_276 : decode cX13_share 276 = .ok (.iload_n 2, 1) := by decide +kernel
theorem dX13_share_277 : decode cX13_share 277 = .ok (.invokevirtual 416, 3) := by decide +kernel
theorem dX13_share_280 : decode cX13_share 280 = .ok (.ireturn, 1) := by decide +kernel
theorem dX13_shared_0 : decode cX13_shared 0 = .ok (.aload_n 0, 1) := by decide +kernel
theorem dX13_shared_1 : decode cX13_shared 1 = .ok (.iconst 0, 1) := by decide +kernel
theorem dX13_shared_2 : decode cX13_shared 2 = .ok (.putfield 75, 3) := by decide +kernel
theorem dX13_shared_5 : decode cX13_shared 5 = .ok (.aload_n 0, 1) := by decide +kernel
theorem dX13_shared_6 : decode cX13_shared 6 = .ok (.iload_n 1, 1) := by decide +kernel
theorem dX13_shared_7 : decode cX13_shared 7 = .ok (.invokevirtual 422, 3) := by decide +kernel
theorem dX13_shared_10 : decode cX13_shared 10 = .ok (.ifCond .eq 19, 3) := by decide +kernel
theorem dX13_shared_13 : decode cX13_shared 13 = .ok (.aload_n 0, 1) := by decide +kernel
theorem dX13_shared_14 : decode cX13_shared 14 = .ok (.getfield 413, 3) := by decide +kernel
theorem dX13_shared_17 : decode cX13_shared 17 = .ok (.ifCond .eq 12, 3) := by decide +kernel
theorem dX13_shared_20 : decode cX13_shared 20 = .ok (.aload_n 0, 1) := by decide +kernel
theorem dX13_shared_21 : decode cX13_shared 21 = .ok (.getfield 33, 3) := by decide +kernel
theorem dX13_shared_24 : decode cX13_shared 24 = .ok (.iload_n 1, 1) := by decide +kernel
theorem dX13_shared_25 : decode cX13_shared 25 = .ok (.iaload, 1) := by decide +kernel
theorem dX13_shared_26 : decode cX13_shared 26 = .ok (.goto 4, 3) := by decide +kernel
theorem dX13_shared_29 : decode cX13_shared 29 = .ok (.iconst (-1), 1) := by decide +kernel
theorem dX13_shared_30 : decode cX13_shared 30 = .ok (.ireturn, 1) := by decide +kernel
theorem dX13_odds_0 : decode cX13_odds 0 = .ok (.aload_n 0, 1) := by decide +kernel
theorem dX13_odds_1 : decode cX13_odds 1 = .ok (.iconst 0, 1) := by decide +kernel
theorem dX13_odds_2 : decode cX13_odds 2 = .ok (.putfield 75, 3) := by decide +kernel
theorem dX13_odds_5 : decode cX13_odds 5 = .ok (.aload_n 0, 1) := by decide +kernel
theorem dX13_odds_6 : decode cX13_odds 6 = .ok (.iload_n 1, 1) := by decide +kernel
theorem dX13_odds_7 : decode cX13_odds 7 = .ok (.invokevirtual 419, 3) := by decide +kernel
theorem dX13_odds_10 : decode cX13_odds 10 = .ok (.ifCond .ne 10, 3) := by decide +kernel
theorem dX13_odds_13 : decode cX13_odds 13 = .ok (.aload_n 0, 1) := by decide +kernel
theorem dX13_odds_14 : decode cX13_odds 14 = .ok (.iconst 1, 1) := by decide +kernel
theorem dX13_odds_15 : decode cX13_odds 15 = .ok (.invokevirtual 81, 3) := by decide +kernel
theorem dX13_odds_18 : decode cX13_odds 18 = .ok (.i2l, 1) := by decide +kernel
theorem dX13_odds_19 : decode cX13_odds 19 = .ok (.lreturn, 1) := by decide +kernel
theorem dX13_odds_20 : decode cX13_odds 20 = .ok (.lconst 0, 1) := by decide +kernel
theorem dX13_odds_21 : decode cX13_odds 21 = .ok (.lstore_n 2, 1) := by decide +kernel
theorem dX13_odds_22 : decode cX13_odds 22 = .ok (.iconst 0, 1) := by decide +kernel
theorem dX13_odds_23 : decode cX13_odds 23 = .ok (.istore 4, 2) := by decide +kernel
theorem dX13_odds_25 : decode cX13_odds 25 = .ok (.iload 4, 2) := by decide +kernel
theorem dX13_odds_27 : decode cX13_odds 27 = .ok (.iconst 1, 1) := by decide +kernel
theorem dX13_odds_28 : decode cX13_odds 28 = .ok (.aload_n 0, 1) := by decide +kernel
theorem dX13_odds_29 : decode cX13_odds 29 = .ok (.getfield 17, 3) := by decide +kernel
theorem dX13_odds_32 : decode cX13_odds 32 = .ok (.iload_n 1, 1) := by decide +kernel
theorem dX13_odds_33 : decode cX13_odds 33 = .ok (.iaload, 1) := by decide +kernel
theorem dX13_odds_34 : decode cX13_odds 34 = .ok (.ishl, 1) := by decide +kernel
theorem dX13_odds_35 : decode cX13_odds 35 = .ok (.if_icmp .ge 138, 3) := by decide +kernel
theorem dX13_odds_38 : decode cX13_odds 38 = .ok (.iconst 0, 1) := by decide +kernel
theorem dX13_odds_39 : decode cX13_odds 39 = .ok (.istore 5, 2) := by decide +kernel
theorem dX13_odds_41 : decode cX13_odds 41 = .ok (.lconst 1, 1) := by decide +kernel
theorem dX13_odds_42 : decode cX13_odds 42 = .ok (.lstore 6, 2) := by decide +kernel
theorem dX13_odds_44 : decode cX13_odds 44 = .ok (.iconst 0, 1) := by decide +kernel
theorem dX13_odds_45 : decode cX13_odds 45 = .ok (.istore 8, 2) := by decide +kernel
theorem dX13_odds_47 : decode cX13_odds 47 = .ok (.iload 8, 2) := by decide +kernel
theorem dX13_odds_49 : decode cX13_odds 49 = .ok (.aload_n 0, 1) := by decide +kernel
theorem dX13_odds_50 : decode cX13_odds 50 = .ok (.getfield 17, 3) := by decide +kernel
theorem dX13_odds_53 : decode cX13_odds 53 = .ok (.iload_n 1, 1) := by decide +kernel
theorem dX13_odds_54 : decode cX13_odds 54 = .ok (.iaload, 1) := by decide +kernel
theorem dX13_odds_55 : decode cX13_odds 55 = .ok (.if_icmp .ge 89, 3) := by decide +kernel
theorem dX13_odds_58 : decode cX13_odds 58 = .ok (.aload_n 0, 1) := by decide +kernel
theorem dX13_odds_59 : decode cX13_odds 59 = .ok (.getfield 21, 3) := by decide +kernel
theorem dX13_odds_62 : decode cX13_odds 62 = .ok (.bipush 6, 2) := by decide +kernel
theorem dX13_odds_64 : decode cX13_odds 64 = .ok (.iload_n 1, 1) := by decide +kernel
theorem dX13_odds_65 : decode cX13_odds 65 = .ok (.imul, 1) := by decide +kernel
theorem dX13_odds_66 : decode cX13_odds 66 = .ok (.iload 8, 2) := by decide +kernel
theorem dX13_odds_68 : decode cX13_odds 68 = .ok (.iadd, 1) := by decide +kernel
theorem dX13_odds_69 : decode cX13_odds 69 = .ok (.iaload, 1) := by decide +kernel
theorem dX13_odds_70 : decode cX13_odds 70 = .ok (.istore 9, 2) := by decide +kernel
theorem dX13_odds_72 : decode cX13_odds 72 = .ok (.iload 5, 2) := by decide +kernel
theorem dX13_odds_74 : decode cX13_odds 74 = .ok (.iload 4, 2) := by decide +kernel
theorem dX13_odds_76 : decode cX13_odds 76 = .ok (.iload 8, 2) := by decide +kernel
theorem dX13_odds_78 : decode cX13_odds 78 = .ok (.invokestatic 440, 3) := by decide +kernel
theorem dX13_odds_81 : decode cX13_odds 81 = .ok (.ifCond .eq 10, 3) := by decide +kernel
theorem dX13_odds_84 : decode cX13_odds 84 = .ok (.iconst 1, 1) := by decide +kernel
theorem dX13_odds_85 : decode cX13_odds 85 = .ok (.iload 9, 2) := by decide +kernel
theorem dX13_odds_87 : decode cX13_odds 87 = .ok (.ishl, 1) := by decide +kernel
theorem dX13_odds_88 : decode cX13_odds 88 = .ok (.goto 4, 3) := by decide +kernel
theorem dX13_odds_91 : decode cX13_odds 91 = .ok (.iconst 0, 1) := by decide +kernel
theorem dX13_odds_92 : decode cX13_odds 92 = .ok (.ior, 1) := by decide +kernel
theorem dX13_odds_93 : decode cX13_odds 93 = .ok (.istore 5, 2) := by decide +kernel
theorem dX13_odds_95 : decode cX13_odds 95 = .ok (.lload 6, 2) := by decide +kernel
theorem dX13_odds_97 : decode cX13_odds 97 = .ok (.iload 4, 2) := by decide +kernel
theorem dX13_odds_99 : decode cX13_odds 99 = .ok (.iload 8, 2) := by decide +kernel
theorem dX13_odds_101 : decode cX13_odds 101 = .ok (.invokestatic 440, 3) := by decide +kernel
theorem dX13_odds_104 : decode cX13_odds 104 = .ok (.ifCond .eq 17, 3) := by decide +kernel
theorem dX13_odds_107 : decode cX13_odds 107 = .ok (.aload_n 0, 1) := by decide +kernel
theorem dX13_odds_108 : decode cX13_odds 108 = .ok (.getfield 394, 3) := by decide +kernel
theorem dX13_odds_111 : decode cX13_odds 111 = .ok (.getfield 338, 3) := by decide +kernel
theorem dX13_odds_114 : decode cX13_odds 114 = .ok (.iload 9, 2) := by decide +kernel
theorem dX13_odds_116 : decode cX13_odds 116 = .ok (.iaload, 1) := by decide +kernel
theorem dX13_odds_117 : decode cX13_odds 117 = .ok (.i2l, 1) := by decide +kernel
theorem dX13_odds_118 : decode cX13_odds 118 = .ok (.goto 17, 3) := by decide +kernel
theorem dX13_odds_121 : decode cX13_odds 121 = .ok (.bipush 100, 2) := by decide +kernel
theorem dX13_odds_123 : decode cX13_odds 123 = .ok (.aload_n 0, 1) := by decide +kernel
theorem dX13_odds_124 : decode cX13_odds 124 = .ok (.getfield 394, 3) := by decide +kernel
theorem dX13_odds_127 : decode cX13_odds 127 = .ok (.getfield 338, 3) := by decide +kernel
theorem dX13_odds_130 : decode cX13_odds 130 = .ok (.iload 9, 2) := by decide +kernel
theorem dX13_odds_132 : decode cX13_odds 132 = .ok (.iaload, 1) := by decide +kernel
theorem dX13_odds_133 : decode cX13_odds 133 = .ok (.isub, 1) := by decide +kernel
theorem dX13_odds_134 : decode cX13_odds 134 = .ok (.i2l, 1) := by decide +kernel
theorem dX13_odds_135 : decode cX13_odds 135 = .ok (.lmul, 1) := by decide +kernel
theorem dX13_odds_136 : decode cX13_odds 136 = .ok (.lstore 6, 2) := by decide +kernel
theorem dX13_odds_138 : decode cX13_odds 138 = .ok (.iinc 8 1, 3) := by decide +kernel
theorem dX13_odds_141 : decode cX13_odds 141 = .ok (.goto (-94), 3) := by decide +kernel
theorem dX13_odds_144 : decode cX13_odds 144 = .ok (.aload_n 0, 1) := by decide +kernel
theorem dX13_odds_145 : decode cX13_odds 145 = .ok (.iload_n 1, 1) := by decide +kernel
theorem dX13_odds_146 : decode cX13_odds 146 = .ok (.iload 5, 2) := by decide +kernel
theorem dX13_odds_148 : decode cX13_odds 148 = .ok (.invokevirtual 448, 3) := by decide +kernel
theorem dX13_odds_151 : decode cX13_odds 151 = .ok (.lload_n 2, 1) := by decide +kernel
theorem dX13_odds_152 : decode cX13_odds 152 = .ok (.aload_n 0, 1) := by decide +kernel
theorem dX13_odds_153 : decode cX13_odds 153 = .ok (.getfield 428, 3) := by decide +kernel
theorem dX13_odds_156 : decode cX13_odds 156 = .ok (.ifCond .ne 8, 3) := by decide +kernel
theorem dX13_odds_159 : decode cX13_odds 159 = .ok (.lload 6, 2) := by decide +kernel
theorem dX13_odds_161 : decode cX13_odds 161 = .ok (.goto 4, 3) := by decide +kernel
theorem dX13_odds_164 : decode cX13_odds 164 = .ok (.lconst 0, 1) := by decide +kernel
theorem dX13_odds_165 : decode cX13_odds 165 = .ok (.ladd, 1) := by decide +kernel
theorem dX13_odds_166 : decode cX13_odds 166 = .ok (.lstore_n 2, 1) := by decide +kernel
theorem dX13_odds_167 : decode cX13_odds 167 = .ok (.iinc 4 1, 3) := by decide +kernel
theorem dX13_odds_170 : decode cX13_odds 170 = .ok (.goto (-145), 3) := by decide +kernel
theorem dX13_odds_173 : decode cX13_odds 173 = .ok (.aload_n 0, 1) := by decide +kernel
theorem dX13_odds_174 : decode cX13_odds 174 = .ok (.iconst 0, 1) := by decide +kernel
theorem dX13_odds_175 : decode cX13_odds 175 = .ok (.invokevirtual 416, 3) := by decide +kernel
theorem dX13_odds_178 : decode cX13_odds 178 = .ok (.pop, 1) := by decide +kernel
theorem dX13_odds_179 : decode cX13_odds 179 = .ok (.lload_n 2, 1) := by decide +kernel
theorem dX13_odds_180 : decode cX13_odds 180 = .ok (.lreturn, 1) := by decide +kernel
theorem dX13_costs_0 : decode cX13_costs 0 = .ok (.aload_n 0, 1) := by decide +kernel
theorem dX13_costs_1 : decode cX13_costs 1 = .ok (.iconst 0, 1) := by decide +kernel
theorem dX13_costs_2 : decode cX13_costs 2 = .ok (.putfield 75, 3) := by decide +kernel
theorem dX13_costs_5 : decode cX13_costs 5 = .ok (.aload_n 0, 1) := by decide +kernel
theorem dX13_costs_6 : decode cX13_costs 6 = .ok (.iload_n 1, 1) := by decide +kernel
theorem dX13_costs_7 : decode cX13_costs 7 = .ok (.invokevirtual 422, 3) := by decide +kernel
theorem dX13_costs_10 : decode cX13_costs 10 = .ok (.ifCond .ne 9, 3) := by decide +kernel
theorem dX13_costs_13 : decode cX13_costs 13 = .ok (.aload_n 0, 1) := by decide +kernel
theorem dX13_costs_14 : decode cX13_costs 14 = .ok (.iconst 1, 1) := by decide +kernel
theorem dX13_costs_15 : decode cX13_costs 15 = .ok (.invokevirtual 454, 3) := by decide +kernel
theorem dX13_costs_18 : decode cX13_costs 18 = .ok (.ireturn, 1) := by decide +kernel
theorem dX13_costs_19 : decode cX13_costs 19 = .ok (.aload_n 0, 1) := by decide +kernel
theorem dX13_costs_20 : decode cX13_costs 20 = .ok (.iload_n 1, 1) := by decide +kernel
theorem dX13_costs_21 : decode cX13_costs 21 = .ok (.invokevirtual 425, 3) := by decide +kernel
theorem dX13_costs_24 : decode cX13_costs 24 = .ok (.istore_n 2, 1) := by decide +kernel
theorem dX13_costs_25 : decode cX13_costs 25 = .ok (.iload_n 2, 1) := by decide +kernel
theorem dX13_costs_26 : decode cX13_costs 26 = .ok (.iconst (-1), 1) := by decide +kernel
theorem dX13_costs_27 : decode cX13_costs 27 = .ok (.if_icmp .ne 10, 3) := by decide +kernel
theorem dX13_costs_30 : decode cX13_costs 30 = .ok (.aload_n 0, 1) := by decide +kernel
theorem dX13_costs_31 : decode cX13_costs 31 = .ok (.bipush 6, 2) := by decide +kernel
theorem dX13_costs_33 : decode cX13_costs 33 = .ok (.invokevirtual 454, 3) := by decide +kernel
theorem dX13_costs_36 : decode cX13_costs 36 = .ok (.ireturn, 1) := by decide +kernel
theorem dX13_costs_37 : decode cX13_costs 37 = .ok (.aload_n 0, 1) := by decide +kernel
theorem dX13_costs_38 : decode cX13_costs 38 = .ok (.iload_n 2, 1) := by decide +kernel
theorem dX13_costs_39 : decode cX13_costs 39 = .ok (.iconst 0, 1) := by decide +kernel
theorem dX13_costs_40 : decode cX13_costs 40 = .ok (.invokevirtual 448, 3) := by decide +kernel
theorem dX13_costs_43 : decode cX13_costs 43 = .ok (.aload_n 0, 1) := by decide +kernel
theorem dX13_costs_44 : decode cX13_costs 44 = .ok (.getfield 428, 3) := by decide +kernel
theorem dX13_costs_47 : decode cX13_costs 47 = .ok (.invokestatic 457, 3) := by decide +kernel
theorem dX13_costs_50 : decode cX13_costs 50 = .ok (.istore_n 3, 1) := by decide +kernel
theorem dX13_costs_51 : decode cX13_costs 51 = .ok (.aload_n 0, 1) := by decide +kernel
theorem dX13_costs_52 : decode cX13_costs 52 = .ok (.iload_n 2, 1) := by decide +kernel
theorem dX13_costs_53 : decode cX13_costs 53 = .ok (.iconst 1, 1) := by decide +kernel
theorem dX13_costs_54 : decode cX13_costs 54 = .ok (.iload_n 1, 1) := by decide +kernel
theorem dX13_costs_55 : decode cX13_costs 55 = .ok (.ishl, 1) := by decide +kernel
theorem dX13_costs_56 : decode cX13_costs 56 = .ok (.invokevirtual 448, 3) := by decide +kernel
theorem dX13_costs_59 : decode cX13_costs 59 = .ok (.aload_n 0, 1) := by decide +kernel
theorem dX13_costs_60 : decode cX13_costs 60 = .ok (.aload_n 0, 1) := by decide +kernel
theorem dX13_costs_61 : decode cX13_costs 61 = .ok (.getfield 428, 3) := by decide +kernel
theorem dX13_costs_64 : decode cX13_costs 64 = .ok (.invokestatic 457, 3) := by decide +kernel
theorem dX13_costs_67 : decode cX13_costs 67 = .ok (.iload_n 3, 1) := by decide +kernel
theorem dX13_costs_68 : decode cX13_costs 68 = .ok (.isub, 1) := by decide +kernel
