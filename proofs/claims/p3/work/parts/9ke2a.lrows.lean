/-! Rows and words of the law. -/
abbrev cX12_outAt : ByteArray := prog_1_method_8_code
def yX12_outAt : MethodName := ⟨RX12, "outAt", "(II)I"⟩
theorem dX12_outAt_0 : decode cX12_outAt 0 = .ok (.aload_n 0, 1) := by decide +kernel
theorem dX12_outAt_1 : decode cX12_outAt 1 = .ok (.iload_n 1, 1) := by decide +kernel
theorem dX12_outAt_2 : decode cX12_outAt 2 = .ok (.invokevirtual 116, 3) := by decide +kernel
theorem dX12_outAt_5 : decode cX12_outAt 5 = .ok (.astore_n 3, 1) := by decide +kernel
theorem dX12_outAt_6 : decode cX12_outAt 6 = .ok (.aload_n 3, 1) := by decide +kernel
theorem dX12_outAt_7 : decode cX12_outAt 7 = .ok (.ifnull 18, 3) := by decide +kernel
theorem dX12_outAt_10 : decode cX12_outAt 10 = .ok (.iload_n 2, 1) := by decide +kernel
theorem dX12_outAt_11 : decode cX12_outAt 11 = .ok (.ifCond .lt 14, 3) := by decide +kernel
theorem dX12_outAt_14 : decode cX12_outAt 14 = .ok (.iload_n 2, 1) := by decide +kernel
theorem dX12_outAt_15 : decode cX12_outAt 15 = .ok (.aload_n 3, 1) := by decide +kernel
theorem dX12_outAt_16 : decode cX12_outAt 16 = .ok (.getfield 172, 3) := by decide +kernel
theorem dX12_outAt_19 : decode cX12_outAt 19 = .ok (.getfield 106, 3) := by decide +kernel
theorem dX12_outAt_22 : decode cX12_outAt 22 = .ok (.if_icmp .lt 11, 3) := by decide +kernel
theorem dX12_outAt_25 : decode cX12_outAt 25 = .ok (.new 175, 3) := by decide +kernel
theorem dX12_outAt_28 : decode cX12_outAt 28 = .ok (.dup, 1) := by decide +kernel
theorem dX12_outAt_29 : decode cX12_outAt 29 = .ok (.invokespecial 177, 3) := by decide +kernel
theorem dX12_outAt_32 : decode cX12_outAt 32 = .ok (.athrow, 1) := by decide +kernel
theorem dX12_outAt_33 : decode cX12_outAt 33 = .ok (.aload_n 3, 1) := by decide +kernel
theorem dX12_outAt_34 : decode cX12_outAt 34 = .ok (.getfield 172, 3) := by decide +kernel
theorem dX12_outAt_37 : decode cX12_outAt 37 = .ok (.iload_n 2, 1) := by decide +kernel
theorem dX12_outAt_38 : decode cX12_outAt 38 = .ok (.invokevirtual 178, 3) := by decide +kernel
theorem dX12_outAt_41 : decode cX12_outAt 41 = .ok (.ireturn, 1) := by decide +kernel
abbrev cX12_logAt : ByteArray := prog_1_method_17_code
def yX12_logAt : MethodName := ⟨RX12, "logAt", "(I)I"⟩
theorem dX12_logAt_0 : decode cX12_logAt 0 = .ok (.iload_n 1, 1) := by decide +kernel
theorem dX12_logAt_1 : decode cX12_logAt 1 = .ok (.ifCond .lt 14, 3) := by decide +kernel
theorem dX12_logAt_4 : decode cX12_logAt 4 = .ok (.iload_n 1, 1) := by decide +kernel
theorem dX12_logAt_5 : decode cX12_logAt 5 = .ok (.aload_n 0, 1) := by decide +kernel
theorem dX12_logAt_6 : decode cX12_logAt 6 = .ok (.getfield 25, 3) := by decide +kernel
theorem dX12_logAt_9 : decode cX12_logAt 9 = .ok (.getfield 106, 3) := by decide +kernel
theorem dX12_logAt_12 : decode cX12_logAt 12 = .ok (.if_icmp .lt 11, 3) := by decide +kernel
theorem dX12_logAt_15 : decode cX12_logAt 15 = .ok (.new 175, 3) := by decide +kernel
theorem dX12_logAt_18 : decode cX12_logAt 18 = .ok (.dup, 1) := by decide +kernel
theorem dX12_logAt_19 : decode cX12_logAt 19 = .ok (.invokespecial 177, 3) := by decide +kernel
theorem dX12_logAt_22 : decode cX12_logAt 22 = .ok (.athrow, 1) := by decide +kernel
theorem dX12_logAt_23 : decode cX12_logAt 23 = .ok (.aload_n 0, 1) := by decide +kernel
theorem dX12_logAt_24 : decode cX12_logAt 24 = .ok (.getfield 25, 3) := by decide +kernel
theorem dX12_logAt_27 : decode cX12_logAt 27 = .ok (.iload_n 1, 1) := by decide +kernel
theorem dX12_logAt_28 : decode cX12_logAt 28 = .ok (.invokevirtual 178, 3) := by decide +kernel
theorem dX12_logAt_31 : decode cX12_logAt 31 = .ok (.ireturn, 1) := by decide +kernel
abbrev cL_outAt : ByteArray := method_3_code
def yL_outAt : MethodName := ⟨RL, "outAt", "(LKeySteward;II[J)I"⟩
theorem dL_outAt_0 : decode cL_outAt 0 = .ok (.aload_n 3, 1) := by decide +kernel
theorem dL_outAt_1 : decode cL_outAt 1 = .ok (.iconst 0, 1) := by decide +kernel
theorem dL_outAt_2 : decode cL_outAt 2 = .ok (.aload_n 0, 1) := by decide +kernel
theorem dL_outAt_3 : decode cL_outAt 3 = .ok (.iload_n 1, 1) := by decide +kernel
theorem dL_outAt_4 : decode cL_outAt 4 = .ok (.iload_n 2, 1) := by decide +kernel
theorem dL_outAt_5 : decode cL_outAt 5 = .ok (.invokevirtual 7, 3) := by decide +kernel
theorem dL_outAt_8 : decode cL_outAt 8 = .ok (.i2l, 1) := by decide +kernel
theorem dL_outAt_9 : decode cL_outAt 9 = .ok (.lastore, 1) := by decide +kernel
theorem dL_outAt_10 : decode cL_outAt 10 = .ok (.goto 7, 3) := by decide +kernel
theorem dL_outAt_13 : decode cL_outAt 13 = .ok (.astore 4, 2) := by decide +kernel
theorem dL_outAt_15 : decode cL_outAt 15 = .ok (.iconst 1, 1) := by decide +kernel
theorem dL_outAt_16 : decode cL_outAt 16 = .ok (.ireturn, 1) := by decide +kernel
theorem dL_outAt_17 : decode cL_outAt 17 = .ok (.iconst 0, 1) := by decide +kernel
theorem dL_outAt_18 : decode cL_outAt 18 = .ok (.ireturn, 1) := by decide +kernel
abbrev cL_logAt : ByteArray := method_4_code
def yL_logAt : MethodName := ⟨RL, "logAt", "(LKeySteward;I[J)I"⟩
theorem dL_logAt_0 : decode cL_logAt 0 = .ok (.aload_n 2, 1) := by decide +kernel
theorem dL_logAt_1 : decode cL_logAt 1 = .ok (.iconst 0, 1) := by decide +kernel
theorem dL_logAt_2 : decode cL_logAt 2 = .ok (.aload_n 0, 1) := by decide +kernel
theorem dL_logAt_3 : decode cL_logAt 3 = .ok (.iload_n 1, 1) := by decide +kernel
theorem dL_logAt_4 : decode cL_logAt 4 = .ok (.invokevirtual 15, 3) := by decide +kernel
theorem dL_logAt_7 : decode cL_logAt 7 = .ok (.i2l, 1) := by decide +kernel
theorem dL_logAt_8 : decode cL_logAt 8 = .ok (.lastore, 1) := by decide +kernel
theorem dL_logAt_9 : decode cL_logAt 9 = .ok (.goto 6, 3) := by decide +kernel
theorem dL_logAt_12 : decode cL_logAt 12 = .ok (.astore_n 3, 1) := by decide +kernel
theorem dL_logAt_13 : decode cL_logAt 13 = .ok (.iconst 1, 1) := by decide +kernel
theorem dL_logAt_14 : decode cL_logAt 14 = .ok (.ireturn, 1) := by decide +kernel
theorem dL_logAt_15 : decode cL_logAt 15 = .ok (.iconst 0, 1) := by decide +kernel
theorem dL_logAt_16 : decode cL_logAt 16 = .ok (.ireturn, 1) := by decide +kernel
abbrev cL_law : ByteArray := code
def yL_law : MethodName := ⟨RL, "law", "([I)Z"⟩
theorem dL_law_0 : decode cL_law 0 = .ok (.new 8, 3) := by decide +kernel
theorem dL_law_3 : decode cL_law 3 = .ok (.dup, 1) := by decide +kernel
theorem dL_law_4 : decode cL_law 4 = .ok (.invokespecial 19, 3) := by decide +kernel
theorem dL_law_7 : decode cL_law 7 = .ok (.astore_n 1, 1) := by decide +kernel
theorem dL_law_8 : decode cL_law 8 = .ok (.new 20, 3) := by decide +kernel
theorem dL_law_11 : decode cL_law 11 = .ok (.dup, 1) := by decide +kernel
theorem dL_law_12 : decode cL_law 12 = .ok (.invokespecial 22, 3) := by decide +kernel
theorem dL_law_15 : decode cL_law 15 = .ok (.astore_n 2, 1) := by decide +kernel
theorem dL_law_16 : decode cL_law 16 = .ok (.iconst 1, 1) := by decide +kernel
theorem dL_law_17 : decode cL_law 17 = .ok (.newarray .long, 2) := by decide +kernel
theorem dL_law_19 : decode cL_law 19 = .ok (.astore_n 3, 1) := by decide +kernel
theorem dL_law_20 : decode cL_law 20 = .ok (.iconst 0, 1) := by decide +kernel
theorem dL_law_21 : decode cL_law 21 = .ok (.istore 4, 2) := by decide +kernel
theorem dL_law_23 : decode cL_law 23 = .ok (.iload 4, 2) := by decide +kernel
theorem dL_law_25 : decode cL_law 25 = .ok (.aload_n 0, 1) := by decide +kernel
theorem dL_law_26 : decode cL_law 26 = .ok (.arraylength, 1) := by decide +kernel
theorem dL_law_27 : decode cL_law 27 = .ok (.bipush 6, 2) := by decide +kernel
theorem dL_law_29 : decode cL_law 29 = .ok (.isub, 1) := by decide +kernel
theorem dL_law_30 : decode cL_law 30 = .ok (.if_icmp .gt 619, 3) := by decide +kernel
theorem dL_law_33 : decode cL_law 33 = .ok (.aload_n 0, 1) := by decide +kernel
theorem dL_law_34 : decode cL_law 34 = .ok (.iload 4, 2) := by decide +kernel
theorem dL_law_36 : decode cL_law 36 = .ok (.iaload, 1) := by decide +kernel
theorem dL_law_37 : decode cL_law 37 = .ok (.bipush 31, 2) := by decide +kernel
theorem dL_law_39 : decode cL_law 39 = .ok (.iand, 1) := by decide +kernel
theorem dL_law_40 : decode cL_law 40 = .ok (.tableswitch 603 0 18 #[92, 165, 190, 215, 240, 265, 290, 330, 367, 424, 437, 460, 473, 486, 499, 512, 540, 565, 578], 92) := by decide +kernel
theorem dL_law_132 : decode cL_law 132 = .ok (.aload_n 1, 1) := by decide +kernel
theorem dL_law_133 : decode cL_law 133 = .ok (.aload_n 0, 1) := by decide +kernel
theorem dL_law_134 : decode cL_law 134 = .ok (.iload 4, 2) := by decide +kernel
theorem dL_law_136 : decode cL_law 136 = .ok (.iconst 1, 1) := by decide +kernel
theorem dL_law_137 : decode cL_law 137 = .ok (.iadd, 1) := by decide +kernel
theorem dL_law_138 : decode cL_law 138 = .ok (.iaload, 1) := by decide +kernel
theorem dL_law_139 : decode cL_law 139 = .ok (.aload_n 0, 1) := by decide +kernel
theorem dL_law_140 : decode cL_law 140 = .ok (.iload 4, 2) := by decide +kernel
theorem dL_law_142 : decode cL_law 142 = .ok (.iconst 2, 1) := by decide +kernel
theorem dL_law_143 : decode cL_law 143 = .ok (.iadd, 1) := by decide +kernel
theorem dL_law_144 : decode cL_law 144 = .ok (.iaload, 1) := by decide +kernel
theorem dL_law_145 : decode cL_law 145 = .ok (.aload_n 0, 1) := by decide +kernel
theorem dL_law_146 : decode cL_law 146 = .ok (.iload 4, 2) := by decide +kernel
theorem dL_law_148 : decode cL_law 148 = .ok (.iconst 3, 1) := by decide +kernel
theorem dL_law_149 : decode cL_law 149 = .ok (.iadd, 1) := by decide +kernel
theorem dL_law_150 : decode cL_law 150 = .ok (.iaload, 1) := by decide +kernel
theorem dL_law_151 : decode cL_law 151 = .ok (.aload_n 0, 1) := by decide +kernel
theorem dL_law_152 : decode cL_law 152 = .ok (.iload 4, 2) := by decide +kernel
theorem dL_law_154 : decode cL_law 154 = .ok (.iconst 4, 1) := by decide +kernel
theorem dL_law_155 : decode cL_law 155 = .ok (.iadd, 1) := by decide +kernel
theorem dL_law_156 : decode cL_law 156 = .ok (.iaload, 1) := by decide +kernel
theorem dL_law_157 : decode cL_law 157 = .ok (.aload_n 0, 1) := by decide +kernel
theorem dL_law_158 : decode cL_law 158 = .ok (.iload 4, 2) := by decide +kernel
theorem dL_law_160 : decode cL_law 160 = .ok (.iconst 5, 1) := by decide +kernel
theorem dL_law_161 : decode cL_law 161 = .ok (.iadd, 1) := by decide +kernel
theorem dL_law_162 : decode cL_law 162 = .ok (.iaload, 1) := by decide +kernel
theorem dL_law_163 : decode cL_law 163 = .ok (.invokevirtual 23, 3) := by decide +kernel
theorem dL_law_166 : decode cL_law 166 = .ok (.pop, 1) := by decide +kernel
theorem dL_law_167 : decode cL_law 167 = .ok (.aload_n 2, 1) := by decide +kernel
theorem dL_law_168 : decode cL_law 168 = .ok (.aload_n 0, 1) := by decide +kernel
theorem dL_law_169 : decode cL_law 169 = .ok (.iload 4, 2) := by decide +kernel
theorem dL_law_171 : decode cL_law 171 = .ok (.iconst 1, 1) := by decide +kernel
theorem dL_law_172 : decode cL_law 172 = .ok (.iadd, 1) := by decide +kernel
theorem dL_law_173 : decode cL_law 173 = .ok (.iaload, 1) := by decide +kernel
theorem dL_law_174 : decode cL_law 174 = .ok (.aload_n 0, 1) := by decide +kernel
theorem dL_law_175 : decode cL_law 175 = .ok (.iload 4, 2) := by decide +kernel
theorem dL_law_177 : decode cL_law 177 = .ok (.iconst 2, 1) := by decide +kernel
theorem dL_law_178 : decode cL_law 178 = .ok (.iadd, 1) := by decide +kernel
theorem dL_law_179 : decode cL_law 179 = .ok (.iaload, 1) := by decide +kernel
theorem dL_law_180 : decode cL_law 180 = .ok (.aload_n 0, 1) := by decide +kernel
theorem dL_law_181 : decode cL_law 181 = .ok (.iload 4, 2) := by decide +kernel
theorem dL_law_183 : decode cL_law 183 = .ok (.iconst 3, 1) := by decide +kernel
theorem dL_law_184 : decode cL_law 184 = .ok (.iadd, 1) := by decide +kernel
theorem dL_law_185 : decode cL_law 185 = .ok (.iaload, 1) := by decide +kernel
theorem dL_law_186 : decode cL_law 186 = .ok (.aload_n 0, 1) := by decide +kernel
theorem dL_law_187 : decode cL_law 187 = .ok (.iload 4, 2) := by decide +kernel
theorem dL_law_189 : decode cL_law 189 = .ok (.iconst 4, 1) := by decide +kernel
theorem dL_law_190 : decode cL_law 190 = .ok (.iadd, 1) := by decide +kernel
theorem dL_law_191 : decode cL_law 191 = .ok (.iaload, 1) := by decide +kernel
theorem dL_law_192 : decode cL_law 192 = .ok (.aload_n 0, 1) := by decide +kernel
theorem dL_law_193 : decode cL_law 193 = .ok (.iload 4, 2) := by decide +kernel
theorem dL_law_195 : decode cL_law 195 = .ok (.iconst 5, 1) := by decide +kernel
theorem dL_law_196 : decode cL_law 196 = .ok (.iadd, 1) := by decide +kernel
theorem dL_law_197 : decode cL_law 197 = .ok (.iaload, 1) := by decide +kernel
theorem dL_law_198 : decode cL_law 198 = .ok (.invokevirtual 27, 3) := by decide +kernel
theorem dL_law_201 : decode cL_law 201 = .ok (.pop, 1) := by decide +kernel
theorem dL_law_202 : decode cL_law 202 = .ok (.goto 441, 3) := by decide +kernel
theorem dL_law_205 : decode cL_law 205 = .ok (.aload_n 1, 1) := by decide +kernel
theorem dL_law_206 : decode cL_law 206 = .ok (.aload_n 0, 1) := by decide +kernel
theorem dL_law_207 : decode cL_law 207 = .ok (.iload 4, 2) := by decide +kernel
theorem dL_law_209 : decode cL_law 209 = .ok (.iconst 1, 1) := by decide +kernel
theorem dL_law_210 : decode cL_law 210 = .ok (.iadd, 1) := by decide +kernel
theorem dL_law_211 : decode cL_law 211 = .ok (.iaload, 1) := by decide +kernel
theorem dL_law_212 : decode cL_law 212 = .ok (.invokevirtual 28, 3) := by decide +kernel
theorem dL_law_215 : decode cL_law 215 = .ok (.aload_n 2, 1) := by decide +kernel
theorem dL_law_216 : decode cL_law 216 = .ok (.aload_n 0, 1) := by decide +kernel
theorem dL_law_217 : decode cL_law 217 = .ok (.iload 4, 2) := by decide +kernel
theorem dL_law_219 : decode cL_law 219 = .ok (.iconst 1, 1) := by decide +kernel
theorem dL_law_220 : decode cL_law 220 = .ok (.iadd, 1) := by decide +kernel
theorem dL_law_221 : decode cL_law 221 = .ok (.iaload, 1) := by decide +kernel
theorem dL_law_222 : decode cL_law 222 = .ok (.invokevirtual 32, 3) := by decide +kernel
theorem dL_law_225 : decode cL_law 225 = .ok (.if_icmp .eq 418, 3) := by decide +kernel
theorem dL_law_228 : decode cL_law 228 = .ok (.iconst 0, 1) := by decide +kernel
theorem dL_law_229 : decode cL_law 229 = .ok (.ireturn, 1) := by decide +kernel
theorem dL_law_230 : decode cL_law 230 = .ok (.aload_n 1, 1) := by decide +kernel
theorem dL_law_231 : decode cL_law 231 = .ok (.aload_n 0, 1) := by decide +kernel
theorem dL_law_232 : decode cL_law 232 = .ok (.iload 4, 2) := by decide +kernel
theorem dL_law_234 : decode cL_law 234 = .ok (.iconst 1, 1) := by decide +kernel
theorem dL_law_235 : decode cL_law 235 = .ok (.iadd, 1) := by decide +kernel
theorem dL_law_236 : decode cL_law 236 = .ok (.iaload, 1) := by decide +kernel
theorem dL_law_237 : decode cL_law 237 = .ok (.invokevirtual 33, 3) := by decide +kernel
theorem dL_law_240 : decode cL_law 240 = .ok (.pop, 1) := by decide +kernel
theorem dL_law_241 : decode cL_law 241 = .ok (.aload_n 2, 1) := by decide +kernel
theorem dL_law_242 : decode cL_law 242 = .ok (.aload_n 0, 1) := by decide +kernel
theorem dL_law_243 : decode cL_law 243 = .ok (.iload 4, 2) := by decide +kernel
theorem dL_law_245 : decode cL_law 245 = .ok (.iconst 1, 1) := by decide +kernel
theorem dL_law_246 : decode cL_law 246 = .ok (.iadd, 1) := by decide +kernel
theorem dL_law_247 : decode cL_law 247 = .ok (.iaload, 1) := by decide +kernel
theorem dL_law_248 : decode cL_law 248 = .ok (.invokevirtual 36, 3) := by decide +kernel
theorem dL_law_251 : decode cL_law 251 = .ok (.pop, 1) := by decide +kernel
theorem dL_law_252 : decode cL_law 252 = .ok (.goto 391, 3) := by decide +kernel
theorem dL_law_255 : decode cL_law 255 = .ok (.aload_n 1, 1) := by decide +kernel
theorem dL_law_256 : decode cL_law 256 = .ok (.aload_n 0, 1) := by decide +kernel
theorem dL_law_257 : decode cL_law 257 = .ok (.iload 4, 2) := by decide +kernel
theorem dL_law_259 : decode cL_law 259 = .ok (.iconst 1, 1) := by decide +kernel
theorem dL_law_260 : decode cL_law 260 = .ok (.iadd, 1) := by decide +kernel
theorem dL_law_261 : decode cL_law 261 = .ok (.iaload, 1) := by decide +kernel
theorem dL_law_262 : decode cL_law 262 = .ok (.invokevirtual 37, 3) := by decide +kernel
theorem dL_law_265 : decode cL_law 265 = .ok (.pop, 1) := by decide +kernel
theorem dL_law_266 : decode cL_law 266 = .ok (.aload_n 2, 1) := by decide +kernel
theorem dL_law_267 : decode cL_law 267 = .ok (.aload_n 0, 1) := by decide +kernel
theorem dL_law_268 : decode cL_law 268 = .ok (.iload 4, 2) := by decide +kernel
theorem dL_law_270 : decode cL_law 270 = .ok (.iconst 1, 1) := by decide +kernel
theorem dL_law_271 : decode cL_law 271 = .ok (.iadd, 1) := by decide +kernel
theorem dL_law_272 : decode cL_law 272 = .ok (.iaload, 1) := by decide +kernel
theorem dL_law_273 : decode cL_law 273 = .ok (.invokevirtual 40, 3) := by decide +kernel
theorem dL_law_276 : decode cL_law 276 = .ok (.pop, 1) := by decide +kernel
theorem dL_law_277 : decode cL_law 277 = .ok (.goto 366, 3) := by decide +kernel
theorem dL_law_280 : decode cL_law 280 = .ok (.aload_n 1, 1) := by decide +kernel
theorem dL_law_281 : decode cL_law 281 = .ok (.aload_n 0, 1) := by decide +kernel
theorem dL_law_282 : decode cL_law 282 = .ok (.iload 4, 2) := by decide +kernel
theorem dL_law_284 : decode cL_law 284 = .ok (.iconst 1, 1) := by decide +kernel
theorem dL_law_285 : decode cL_law 285 = .ok (.iadd, 1) := by decide +kernel
theorem dL_law_286 : decode cL_law 286 = .ok (.iaload, 1) := by decide +kernel
theorem dL_law_287 : decode cL_law 287 = .ok (.invokevirtual 41, 3) := by decide +kernel
theorem dL_law_290 : decode cL_law 290 = .ok (.pop, 1) := by decide +kernel
theorem dL_law_291 : decode cL_law 291 = .ok (.aload_n 2, 1) := by decide +kernel
theorem dL_law_292 : decode cL_law 292 = .ok (.aload_n 0, 1) := by decide +kernel
theorem dL_law_293 : decode cL_law 293 = .ok (.iload 4, 2) := by decide +kernel
theorem dL_law_295 : decode cL_law 295 = .ok (.iconst 1, 1) := by decide +kernel
theorem dL_law_296 : decode cL_law 296 = .ok (.iadd, 1) := by decide +kernel
theorem dL_law_297 : decode cL_law 297 = .ok (.iaload, 1) := by decide +kernel
theorem dL_law_298 : decode cL_law 298 = .ok (.invokevirtual 44, 3) := by decide +kernel
theorem dL_law_301 : decode cL_law 301 = .ok (.pop, 1) := by decide +kernel
theorem dL_law_302 : decode cL_law 302 = .ok (.goto 341, 3) := by decide +kernel
theorem dL_law_305 : decode cL_law 305 = .ok (.aload_n 1, 1) := by decide +kernel
theorem dL_law_306 : decode cL_law 306 = .ok (.aload_n 0, 1) := by decide +kernel
theorem dL_law_307 : decode cL_law 307 = .ok (.iload 4, 2) := by decide +kernel
theorem dL_law_309 : decode cL_law 309 = .ok (.iconst 1, 1) := by decide +kernel
theorem dL_law_310 : decode cL_law 310 = .ok (.iadd, 1) := by decide +kernel
theorem dL_law_311 : decode cL_law 311 = .ok (.iaload, 1) := by decide +kernel
theorem dL_law_312 : decode cL_law 312 = .ok (.invokevirtual 45, 3) := by decide +kernel
theorem dL_law_315 : decode cL_law 315 = .ok (.pop, 1) := by decide +kernel
theorem dL_law_316 : decode cL_law 316 = .ok (.aload_n 2, 1) := by decide +kernel
theorem dL_law_317 : decode cL_law 317 = .ok (.aload_n 0, 1) := by decide +kernel
theorem dL_law_318 : decode cL_law 318 = .ok (.iload 4, 2) := by decide +kernel
theorem dL_law_320 : decode cL_law 320 = .ok (.iconst 1, 1) := by decide +kernel
theorem dL_law_321 : decode cL_law 321 = .ok (.iadd, 1) := by decide +kernel
theorem dL_law_322 : decode cL_law 322 = .ok (.iaload, 1) := by decide +kernel
theorem dL_law_323 : decode cL_law 323 = .ok (.invokevirtual 48, 3) := by decide +kernel
theorem dL_law_326 : decode cL_law 326 = .ok (.pop, 1) := by decide +kernel
theorem dL_law_327 : decode cL_law 327 = .ok (.goto 316, 3) := by decide +kernel
theorem dL_law_330 : decode cL_law 330 = .ok (.aload_n 1, 1) := by decide +kernel
theorem dL_law_331 : decode cL_law 331 = .ok (.aload_n 0, 1) := by decide +kernel
theorem dL_law_332 : decode cL_law 332 = .ok (.iload 4, 2) := by decide +kernel
theorem dL_law_334 : decode cL_law 334 = .ok (.iconst 1, 1) := by decide +kernel
theorem dL_law_335 : decode cL_law 335 = .ok (.iadd, 1) := by decide +kernel
theorem dL_law_336 : decode cL_law 336 = .ok (.iaload, 1) := by decide +kernel
theorem dL_law_337 : decode cL_law 337 = .ok (.aload_n 0, 1) := by decide +kernel
theorem dL_law_338 : decode cL_law 338 = .ok (.iload 4, 2) := by decide +kernel
theorem dL_law_340 : decode cL_law 340 = .ok (.iconst 2, 1) := by decide +kernel
theorem dL_law_341 : decode cL_law 341 = .ok (.iadd, 1) := by decide +kernel
theorem dL_law_342 : decode cL_law 342 = .ok (.iaload, 1) := by decide +kernel
theorem dL_law_343 : decode cL_law 343 = .ok (.aload_n 3, 1) := by decide +kernel
theorem dL_law_344 : decode cL_law 344 = .ok (.invokestatic 49, 3) := by decide +kernel
theorem dL_law_347 : decode cL_law 347 = .ok (.istore 5, 2) := by decide +kernel
theorem dL_law_349 : decode cL_law 349 = .ok (.aload_n 2, 1) := by decide +kernel
theorem dL_law_350 : decode cL_law 350 = .ok (.aload_n 0, 1) := by decide +kernel
theorem dL_law_351 : decode cL_law 351 = .ok (.iload 4, 2) := by decide +kernel
theorem dL_law_353 : decode cL_law 353 = .ok (.iconst 1, 1) := by decide +kernel
theorem dL_law_354 : decode cL_law 354 = .ok (.iadd, 1) := by decide +kernel
theorem dL_law_355 : decode cL_law 355 = .ok (.iaload, 1) := by decide +kernel
theorem dL_law_356 : decode cL_law 356 = .ok (.aload_n 0, 1) := by decide +kernel
theorem dL_law_357 : decode cL_law 357 = .ok (.iload 4, 2) := by decide +kernel
theorem dL_law_359 : decode cL_law 359 = .ok (.iconst 2, 1) := by decide +kernel
theorem dL_law_360 : decode cL_law 360 = .ok (.iadd, 1) := by decide +kernel
theorem dL_law_361 : decode cL_law 361 = .ok (.iaload, 1) := by decide +kernel
theorem dL_law_362 : decode cL_law 362 = .ok (.invokevirtual 54, 3) := by decide +kernel
theorem dL_law_365 : decode cL_law 365 = .ok (.istore 6, 2) := by decide +kernel
theorem dL_law_367 : decode cL_law 367 = .ok (.goto 276, 3) := by decide +kernel
theorem dL_law_370 : decode cL_law 370 = .ok (.aload_n 1, 1) := by decide +kernel
theorem dL_law_371 : decode cL_law 371 = .ok (.aload_n 0, 1) := by decide +kernel
theorem dL_law_372 : decode cL_law 372 = .ok (.iload 4, 2) := by decide +kernel
theorem dL_law_374 : decode cL_law 374 = .ok (.iconst 1, 1) := by decide +kernel
theorem dL_law_375 : decode cL_law 375 = .ok (.iadd, 1) := by decide +kernel
theorem dL_law_376 : decode cL_law 376 = .ok (.iaload, 1) := by decide +kernel
theorem dL_law_377 : decode cL_law 377 = .ok (.aload_n 0, 1) := by decide +kernel
theorem dL_law_378 : decode cL_law 378 = .ok (.iload 4, 2) := by decide +kernel
theorem dL_law_380 : decode cL_law 380 = .ok (.iconst 2, 1) := by decide +kernel
theorem dL_law_381 : decode cL_law 381 = .ok (.iadd, 1) := by decide +kernel
theorem dL_law_382 : decode cL_law 382 = .ok (.iaload, 1) := by decide +kernel
theorem dL_law_383 : decode cL_law 383 = .ok (.invokevirtual 55, 3) := by decide +kernel
theorem dL_law_386 : decode cL_law 386 = .ok (.pop, 1) := by decide +kernel
theorem dL_law_387 : decode cL_law 387 = .ok (.aload_n 2, 1) := by decide +kernel
theorem dL_law_388 : decode cL_law 388 = .ok (.aload_n 0, 1) := by decide +kernel
theorem dL_law_389 : decode cL_law 389 = .ok (.iload 4, 2) := by decide +kernel
theorem dL_law_391 : decode cL_law 391 = .ok (.iconst 1, 1) := by decide +kernel
theorem dL_law_392 : decode cL_law 392 = .ok (.iadd, 1) := by decide +kernel
theorem dL_law_393 : decode cL_law 393 = .ok (.iaload, 1) := by decide +kernel
theorem dL_law_394 : decode cL_law 394 = .ok (.aload_n 0, 1) := by decide +kernel
theorem dL_law_395 : decode cL_law 395 = .ok (.iload 4, 2) := by decide +kernel
theorem dL_law_397 : decode cL_law 397 = .ok (.iconst 2, 1) := by decide +kernel
theorem dL_law_398 : decode cL_law 398 = .ok (.iadd, 1) := by decide +kernel
theorem dL_law_399 : decode cL_law 399 = .ok (.iaload, 1) := by decide +kernel
theorem dL_law_400 : decode cL_law 400 = .ok (.invokevirtual 59, 3) := by decide +kernel
theorem dL_law_403 : decode cL_law 403 = .ok (.pop, 1) := by decide +kernel
theorem dL_law_404 : decode cL_law 404 = .ok (.goto 239, 3) := by decide +kernel
theorem dL_law_407 : decode cL_law 407 = .ok (.aload_n 1, 1) := by decide +kernel
theorem dL_law_408 : decode cL_law 408 = .ok (.aload_n 0, 1) := by decide +kernel
theorem dL_law_409 : decode cL_law 409 = .ok (.iload 4, 2) := by decide +kernel
theorem dL_law_411 : decode cL_law 411 = .ok (.iconst 1, 1) := by decide +kernel
theorem dL_law_412 : decode cL_law 412 = .ok (.iadd, 1) := by decide +kernel
theorem dL_law_413 : decode cL_law 413 = .ok (.iaload, 1) := by decide +kernel
theorem dL_law_414 : decode cL_law 414 = .ok (.i2l, 1) := by decide +kernel
theorem dL_law_415 : decode cL_law 415 = .ok (.bipush 32, 2) := by decide +kernel
theorem dL_law_417 : decode cL_law 417 = .ok (.lshl, 1) := by decide +kernel
theorem dL_law_418 : decode cL_law 418 = .ok (.aload_n 0, 1) := by decide +kernel
theorem dL_law_419 : decode cL_law 419 = .ok (.iload 4, 2) := by decide +kernel
theorem dL_law_421 : decode cL_law 421 = .ok (.iconst 2, 1) := by decide +kernel
theorem dL_law_422 : decode cL_law 422 = .ok (.iadd, 1) := by decide +kernel
theorem dL_law_423 : decode cL_law 423 = .ok (.iaload, 1) := by decide +kernel
theorem dL_law_424 : decode cL_law 424 = .ok (.i2l, 1) := by decide +kernel
theorem dL_law_425 : decode cL_law 425 = .ok (.ldc2_w 60, 3) := by decide +kernel
theorem dL_law_428 : decode cL_law 428 = .ok (.land, 1) := by decide +kernel
theorem dL_law_429 : decode cL_law 429 = .ok (.lor, 1) := by decide +kernel
theorem dL_law_430 : decode cL_law 430 = .ok (.invokevirtual 62, 3) := by decide +kernel
theorem dL_law_433 : decode cL_law 433 = .ok (.pop, 1) := by decide +kernel
theorem dL_law_434 : decode cL_law 434 = .ok (.aload_n 2, 1) := by decide +kernel
theorem dL_law_435 : decode cL_law 435 = .ok (.aload_n 0, 1) := by decide +kernel
theorem dL_law_436 : decode cL_law 436 = .ok (.iload 4, 2) := by decide +kernel
theorem dL_law_438 : decode cL_law 438 = .ok (.iconst 1, 1) := by decide +kernel
theorem dL_law_439 : decode cL_law 439 = .ok (.iadd, 1) := by decide +kernel
theorem dL_law_440 : decode cL_law 440 = .ok (.iaload, 1) := by decide +kernel
theorem dL_law_441 : decode cL_law 441 = .ok (.i2l, 1) := by decide +kernel
theorem dL_law_442 : decode cL_law 442 = .ok (.bipush 32, 2) := by decide +kernel
theorem dL_law_444 : decode cL_law 444 = .ok (.lshl, 1) := by decide +kernel
theorem dL_law_445 : decode cL_law 445 = .ok (.aload_n 0, 1) := by decide +kernel
theorem dL_law_446 : decode cL_law 446 = .ok (.iload 4, 2) := by decide +kernel
theorem dL_law_448 : decode cL_law 448 = .ok (.iconst 2, 1) := by decide +kernel
theorem dL_law_449 : decode cL_law 449 = .ok (.iadd, 1) := by decide +kernel
theorem dL_law_450 : decode cL_law 450 = .ok (.iaload, 1) := by decide +kernel
theorem dL_law_451 : decode cL_law 451 = .ok (.i2l, 1) := by decide +kernel
theorem dL_law_452 : decode cL_law 452 = .ok (.ldc2_w 60, 3) := by decide +kernel
theorem dL_law_455 : decode cL_law 455 = .ok (.land, 1) := by decide +kernel
theorem dL_law_456 : decode cL_law 456 = .ok (.lor, 1) := by decide +kernel
theorem dL_law_457 : decode cL_law 457 = .ok (.invokevirtual 66, 3) := by decide +kernel
theorem dL_law_460 : decode cL_law 460 = .ok (.pop, 1) := by decide +kernel
theorem dL_law_461 : decode cL_law 461 = .ok (.goto 182, 3) := by decide +kernel
theorem dL_law_464 : decode cL_law 464 = .ok (.aload_n 1, 1) := by decide +kernel
theorem dL_law_465 : decode cL_law 465 = .ok (.invokevirtual 67, 3) := by decide +kernel
theorem dL_law_468 : decode cL_law 468 = .ok (.pop2, 1) := by decide +kernel
theorem dL_law_469 : decode cL_law 469 = .ok (.aload_n 2, 1) := by decide +kernel
theorem dL_law_470 : decode cL_law 470 = .ok (.invokevirtual 71, 3) := by decide +kernel
theorem dL_law_473 : decode cL_law 473 = .ok (.pop2, 1) := by decide +kernel
theorem dL_law_474 : decode cL_law 474 = .ok (.goto 169, 3) := by decide +kernel
theorem dL_law_477 : decode cL_law 477 = .ok (.aload_n 1, 1) := by decide +kernel
theorem dL_law_478 : decode cL_law 478 = .ok (.aload_n 0, 1) := by decide +kernel
theorem dL_law_479 : decode cL_law 479 = .ok (.iload 4, 2) := by decide +kernel
theorem dL_law_481 : decode cL_law 481 = .ok (.iconst 1, 1) := by decide +kernel
theorem dL_law_482 : decode cL_law 482 = .ok (.iadd, 1) := by decide +kernel
theorem dL_law_483 : decode cL_law 483 = .ok (.iaload, 1) := by decide +kernel
theorem dL_law_484 : decode cL_law 484 = .ok (.invokevirtual 72, 3) := by decide +kernel
theorem dL_law_487 : decode cL_law 487 = .ok (.aload_n 2, 1) := by decide +kernel
theorem dL_law_488 : decode cL_law 488 = .ok (.aload_n 0, 1) := by decide +kernel
theorem dL_law_489 : decode cL_law 489 = .ok (.iload 4, 2) := by decide +kernel
theorem dL_law_491 : decode cL_law 491 = .ok (.iconst 1, 1) := by decide +kernel
theorem dL_law_492 : decode cL_law 492 = .ok (.iadd, 1) := by decide +kernel
theorem dL_law_493 : decode cL_law 493 = .ok (.iaload, 1) := by decide +kernel
theorem dL_law_494 : decode cL_law 494 = .ok (.invokevirtual 76, 3) := by decide +kernel
theorem dL_law_497 : decode cL_law 497 = .ok (.goto 146, 3) := by decide +kernel
theorem dL_law_500 : decode cL_law 500 = .ok (.aload_n 1, 1) := by decide +kernel
theorem dL_law_501 : decode cL_law 501 = .ok (.invokevirtual 77, 3) := by decide +kernel
theorem dL_law_504 : decode cL_law 504 = .ok (.pop, 1) := by decide +kernel
theorem dL_law_505 : decode cL_law 505 = .ok (.aload_n 2, 1) := by decide +kernel
theorem dL_law_506 : decode cL_law 506 = .ok (.invokevirtual 81, 3) := by decide +kernel
theorem dL_law_509 : decode cL_law 509 = .ok (.pop, 1) := by decide +kernel
theorem dL_law_510 : decode cL_law 510 = .ok (.goto 133, 3) := by decide +kernel
theorem dL_law_513 : decode cL_law 513 = .ok (.aload_n 1, 1) := by decide +kernel
theorem dL_law_514 : decode cL_law 514 = .ok (.invokevirtual 82, 3) := by decide +kernel
theorem dL_law_517 : decode cL_law 517 = .ok (.pop, 1) := by decide +kernel
theorem dL_law_518 : decode cL_law 518 = .ok (.aload_n 2, 1) := by decide +kernel
theorem dL_law_519 : decode cL_law 519 = .ok (.invokevirtual 86, 3) := by decide +kernel
theorem dL_law_522 : decode cL_law 522 = .ok (.pop, 1) := by decide +kernel
theorem dL_law_523 : decode cL_law 523 = .ok (.goto 120, 3) := by decide +kernel
theorem dL_law_526 : decode cL_law 526 = .ok (.aload_n 1, 1) := by decide +kernel
theorem dL_law_527 : decode cL_law 527 = .ok (.invokevirtual 87, 3) := by decide +kernel
theorem dL_law_530 : decode cL_law 530 = .ok (.pop, 1) := by decide +kernel
theorem dL_law_531 : decode cL_law 531 = .ok (.aload_n 2, 1) := by decide +kernel
theorem dL_law_532 : decode cL_law 532 = .ok (.invokevirtual 90, 3) := by decide +kernel
theorem dL_law_535 : decode cL_law 535 = .ok (.pop, 1) := by decide +kernel
theorem dL_law_536 : decode cL_law 536 = .ok (.goto 107, 3) := by decide +kernel
theorem dL_law_539 : decode cL_law 539 = .ok (.aload_n 1, 1) := by decide +kernel
theorem dL_law_540 : decode cL_law 540 = .ok (.invokevirtual 91, 3) := by decide +kernel
theorem dL_law_543 : decode cL_law 543 = .ok (.pop, 1) := by decide +kernel
theorem dL_law_544 : decode cL_law 544 = .ok (.aload_n 2, 1) := by decide +kernel
theorem dL_law_545 : decode cL_law 545 = .ok (.invokevirtual 94, 3) := by decide +kernel
theorem dL_law_548 : decode cL_law 548 = .ok (.pop, 1) := by decide +kernel
theorem dL_law_549 : decode cL_law 549 = .ok (.goto 94, 3) := by decide +kernel
theorem dL_law_552 : decode cL_law 552 = .ok (.aload_n 1, 1) := by decide +kernel
theorem dL_law_553 : decode cL_law 553 = .ok (.aload_n 0, 1) := by decide +kernel
theorem dL_law_554 : decode cL_law 554 = .ok (.iload 4, 2) := by decide +kernel
theorem dL_law_556 : decode cL_law 556 = .ok (.iconst 1, 1) := by decide +kernel
theorem dL_law_557 : decode cL_law 557 = .ok (.iadd, 1) := by decide +kernel
theorem dL_law_558 : decode cL_law 558 = .ok (.iaload, 1) := by decide +kernel
theorem dL_law_559 : decode cL_law 559 = .ok (.aload_n 3, 1) := by decide +kernel
theorem dL_law_560 : decode cL_law 560 = .ok (.invokestatic 95, 3) := by decide +kernel
theorem dL_law_563 : decode cL_law 563 = .ok (.istore 5, 2) := by decide +kernel
theorem dL_law_565 : decode cL_law 565 = .ok (.aload_n 2, 1) := by decide +kernel
theorem dL_law_566 : decode cL_law 566 = .ok (.aload_n 0, 1) := by decide +kernel
theorem dL_law_567 : decode cL_law 567 = .ok (.iload 4, 2) := by decide +kernel
theorem dL_law_569 : decode cL_law 569 = .ok (.iconst 1, 1) := by decide +kernel
theorem dL_law_570 : decode cL_law 570 = .ok (.iadd, 1) := by decide +kernel
theorem dL_law_571 : decode cL_law 571 = .ok (.iaload, 1) := by decide +kernel
theorem dL_law_572 : decode cL_law 572 = .ok (.invokevirtual 98, 3) := by decide +kernel
theorem dL_law_575 : decode cL_law 575 = .ok (.istore 6, 2) := by decide +kernel
theorem dL_law_577 : decode cL_law 577 = .ok (.goto 66, 3) := by decide +kernel
theorem dL_law_580 : decode cL_law 580 = .ok (.aload_n 1, 1) := by decide +kernel
theorem dL_law_581 : decode cL_law 581 = .ok (.aload_n 0, 1) := by decide +kernel
theorem dL_law_582 : decode cL_law 582 = .ok (.iload 4, 2) := by decide +kernel
theorem dL_law_584 : decode cL_law 584 = .ok (.iconst 1, 1) := by decide +kernel
theorem dL_law_585 : decode cL_law 585 = .ok (.iadd, 1) := by decide +kernel
theorem dL_law_586 : decode cL_law 586 = .ok (.iaload, 1) := by decide +kernel
theorem dL_law_587 : decode cL_law 587 = .ok (.invokevirtual 99, 3) := by decide +kernel
theorem dL_law_590 : decode cL_law 590 = .ok (.pop, 1) := by decide +kernel
theorem dL_law_591 : decode cL_law 591 = .ok (.aload_n 2, 1) := by decide +kernel
theorem dL_law_592 : decode cL_law 592 = .ok (.aload_n 0, 1) := by decide +kernel
theorem dL_law_593 : decode cL_law 593 = .ok (.iload 4, 2) := by decide +kernel
theorem dL_law_595 : decode cL_law 595 = .ok (.iconst 1, 1) := by decide +kernel
theorem dL_law_596 : decode cL_law 596 = .ok (.iadd, 1) := by decide +kernel
theorem dL_law_597 : decode cL_law 597 = .ok (.iaload, 1) := by decide +kernel
theorem dL_law_598 : decode cL_law 598 = .ok (.invokevirtual 102, 3) := by decide +kernel
theorem dL_law_601 : decode cL_law 601 = .ok (.pop, 1) := by decide +kernel
theorem dL_law_602 : decode cL_law 602 = .ok (.goto 41, 3) := by decide +kernel
theorem dL_law_605 : decode cL_law 605 = .ok (.aload_n 1, 1) := by decide +kernel
theorem dL_law_606 : decode cL_law 606 = .ok (.invokevirtual 103, 3) := by decide +kernel
theorem dL_law_609 : decode cL_law 609 = .ok (.pop, 1) := by decide +kernel
theorem dL_law_610 : decode cL_law 610 = .ok (.aload_n 2, 1) := by decide +kernel
theorem dL_law_611 : decode cL_law 611 = .ok (.invokevirtual 106, 3) := by decide +kernel
theorem dL_law_614 : decode cL_law 614 = .ok (.pop, 1) := by decide +kernel
theorem dL_law_615 : decode cL_law 615 = .ok (.goto 28, 3) := by decide +kernel
theorem dL_law_618 : decode cL_law 618 = .ok (.aload_n 1, 1) := by decide +kernel
theorem dL_law_619 : decode cL_law 619 = .ok (.aload_n 0, 1) := by decide +kernel
theorem dL_law_620 : decode cL_law 620 = .ok (.iload 4, 2) := by decide +kernel
theorem dL_law_622 : decode cL_law 622 = .ok (.iconst 1, 1) := by decide +kernel
theorem dL_law_623 : decode cL_law 623 = .ok (.iadd, 1) := by decide +kernel
theorem dL_law_624 : decode cL_law 624 = .ok (.iaload, 1) := by decide +kernel
theorem dL_law_625 : decode cL_law 625 = .ok (.invokevirtual 107, 3) := by decide +kernel
theorem dL_law_628 : decode cL_law 628 = .ok (.pop, 1) := by decide +kernel
theorem dL_law_629 : decode cL_law 629 = .ok (.aload_n 2, 1) := by decide +kernel
theorem dL_law_630 : decode cL_law 630 = .ok (.aload_n 0, 1) := by decide +kernel
theorem dL_law_631 : decode cL_law 631 = .ok (.iload 4, 2) := by decide +kernel
theorem dL_law_633 : decode cL_law 633 = .ok (.iconst 1, 1) := by decide +kernel
theorem dL_law_634 : decode cL_law 634 = .ok (.iadd, 1) := by decide +kernel
theorem dL_law_635 : decode cL_law 635 = .ok (.iaload, 1) := by decide +kernel
theorem dL_law_636 : decode cL_law 636 = .ok (.invokevirtual 110, 3) := by decide +kernel
theorem dL_law_639 : decode cL_law 639 = .ok (.pop, 1) := by decide +kernel
theorem dL_law_640 : decode cL_law 640 = .ok (.goto 3, 3) := by decide +kernel
theorem dL_law_643 : decode cL_law 643 = .ok (.iinc 4 6, 3) := by decide +kernel
theorem dL_law_646 : decode cL_law 646 = .ok (.goto (-623), 3) := by decide +kernel
theorem dL_law_649 : decode cL_law 649 = .ok (.iconst 1, 1) := by decide +kernel
theorem dL_law_650 : decode cL_law 650 = .ok (.ireturn, 1) := by decide +kernel
theorem nw_iC : Cond.initialized "KeySteward" ∈ kw := kw_tab (tl_in (tb_1 (List.mem_of_getElem? (i := 1) (by decide +kernel)))) rfl
theorem nw_iM : Cond.initialized "KeyStewardModel" ∈ kw := kw_tab (tl_in (tb_1 (List.mem_of_getElem? (i := 11) (by decide +kernel)))) rfl
theorem nw_iL : Cond.initialized "KeyStewardLaw" ∈ kw := kw_tab (tl_in (tb_1 (List.mem_of_getElem? (i := 0) (by decide +kernel)))) rfl
theorem nl_7 : Cond.methodLink "KeyStewardLaw" 7 ⟨"KeySteward", "outAt", "(II)I"⟩ ∈ kw := kw_tab (tl_in (tb_9 (List.mem_of_getElem? (i := 40) (by decide +kernel)))) rfl
theorem ni_7 : Cond.instanceMethod ⟨"KeySteward", "outAt", "(II)I"⟩ ∈ kw := kw_tab (tl_in (tb_9 (List.mem_of_getElem? (i := 41) (by decide +kernel)))) rfl
theorem ns_7 : Cond.selects "KeySteward" ⟨"KeySteward", "outAt", "(II)I"⟩ ⟨"KeySteward", "outAt", "(II)I"⟩ ∈ kw := kw_tab (tl_in (tb_9 (List.mem_of_getElem? (i := 42) (by decide +kernel)))) rfl
theorem nc_7 : Cond.code ⟨"KeySteward", "outAt", "(II)I"⟩ prog_1_method_8_code 4 (Option.some Jvm.ClassFile.FieldType.int) ∈ kw := kw_tab (tl_in (tb_9 (List.mem_of_getElem? (i := 43) rfl))) rfl
theorem nl_15 : Cond.methodLink "KeyStewardLaw" 15 ⟨"KeySteward", "logAt", "(I)I"⟩ ∈ kw := kw_tab (tl_in (tb_9 (List.mem_of_getElem? (i := 108) (by decide +kernel)))) rfl
theorem ni_15 : Cond.instanceMethod ⟨"KeySteward", "logAt", "(I)I"⟩ ∈ kw := kw_tab (tl_in (tb_9 (List.mem_of_getElem? (i := 109) (by decide +kernel)))) rfl
theorem ns_15 : Cond.selects "KeySteward" ⟨"KeySteward", "logAt", "(I)I"⟩ ⟨"KeySteward", "logAt", "(I)I"⟩ ∈ kw := kw_tab (tl_in (tb_9 (List.mem_of_getElem? (i := 110) (by decide +kernel)))) rfl
theorem nc_15 : Cond.code ⟨"KeySteward", "logAt", "(I)I"⟩ prog_1_method_17_code 2 (Option.some Jvm.ClassFile.FieldType.int) ∈ kw := kw_tab (tl_in (tb_9 (List.mem_of_getElem? (i := 111) rfl))) rfl
theorem nl_19 : Cond.methodLink "KeyStewardLaw" 19 ⟨"KeySteward", "<init>", "()V"⟩ ∈ kw := kw_tab (tl_in (tb_1 (List.mem_of_getElem? (i := 30) (by decide +kernel)))) rfl
theorem ni_19 : Cond.instanceMethod ⟨"KeySteward", "<init>", "()V"⟩ ∈ kw := kw_tab (tl_in (tb_1 (List.mem_of_getElem? (i := 31) (by decide +kernel)))) rfl
theorem nc_19 : Cond.code ⟨"KeySteward", "<init>", "()V"⟩ prog_1_method_1_code 5 (Option.none : Option Jvm.ClassFile.FieldType) ∈ kw := kw_tab (tl_in (tb_1 (List.mem_of_getElem? (i := 32) rfl))) rfl
theorem nl_22 : Cond.methodLink "KeyStewardLaw" 22 ⟨"KeyStewardModel", "<init>", "()V"⟩ ∈ kw := kw_tab (tl_in (tb_9 (List.mem_of_getElem? (i := 114) (by decide +kernel)))) rfl
theorem ni_22 : Cond.instanceMethod ⟨"KeyStewardModel", "<init>", "()V"⟩ ∈ kw := kw_tab (tl_in (tb_9 (List.mem_of_getElem? (i := 115) (by decide +kernel)))) rfl
theorem nc_22 : Cond.code ⟨"KeyStewardModel", "<init>", "()V"⟩ prog_15_method_2_code 2 (Option.none : Option Jvm.ClassFile.FieldType) ∈ kw := kw_tab (tl_in (tb_9 (List.mem_of_getElem? (i := 116) rfl))) rfl
theorem nl_23 : Cond.methodLink "KeyStewardLaw" 23 ⟨"KeySteward", "feed", "(IIIII)Z"⟩ ∈ kw := kw_tab (tl_in (tb_3 (List.mem_of_getElem? (i := 3) (by decide +kernel)))) rfl
theorem ni_23 : Cond.instanceMethod ⟨"KeySteward", "feed", "(IIIII)Z"⟩ ∈ kw := kw_tab (tl_in (tb_3 (List.mem_of_getElem? (i := 4) (by decide +kernel)))) rfl
theorem ns_23 : Cond.selects "KeySteward" ⟨"KeySteward", "feed", "(IIIII)Z"⟩ ⟨"KeySteward", "feed", "(IIIII)Z"⟩ ∈ kw := kw_tab (tl_in (tb_3 (List.mem_of_getElem? (i := 5) (by decide +kernel)))) rfl
theorem nc_23 : Cond.code ⟨"KeySteward", "feed", "(IIIII)Z"⟩ prog_1_method_2_code 6 (Option.some Jvm.ClassFile.FieldType.boolean) ∈ kw := kw_tab (tl_in (tb_3 (List.mem_of_getElem? (i := 6) rfl))) rfl
theorem nl_27 : Cond.methodLink "KeyStewardLaw" 27 ⟨"KeyStewardModel", "feed", "(IIIII)Z"⟩ ∈ kw := kw_tab (tl_in (tb_11 (List.mem_of_getElem? (i := 121) (by decide +kernel)))) rfl
theorem ni_27 : Cond.instanceMethod ⟨"KeyStewardModel", "feed", "(IIIII)Z"⟩ ∈ kw := kw_tab (tl_in (tb_11 (List.mem_of_getElem? (i := 122) (by decide +kernel)))) rfl
theorem ns_27 : Cond.selects "KeyStewardModel" ⟨"KeyStewardModel", "feed", "(IIIII)Z"⟩ ⟨"KeyStewardModel", "feed", "(IIIII)Z"⟩ ∈ kw := kw_tab (tl_in (tb_11 (List.mem_of_getElem? (i := 123) (by decide +kernel)))) rfl
theorem nc_27 : Cond.code ⟨"KeyStewardModel", "feed", "(IIIII)Z"⟩ prog_15_method_172_code 8 (Option.some Jvm.ClassFile.FieldType.boolean) ∈ kw := kw_tab (tl_in (tb_11 (List.mem_of_getElem? (i := 124) rfl))) rfl
theorem nl_28 : Cond.methodLink "KeyStewardLaw" 28 ⟨"KeySteward", "end", "(I)Z"⟩ ∈ kw := kw_tab (tl_in (tb_3 (List.mem_of_getElem? (i := 36) (by decide +kernel)))) rfl
theorem ni_28 : Cond.instanceMethod ⟨"KeySteward", "end", "(I)Z"⟩ ∈ kw := kw_tab (tl_in (tb_3 (List.mem_of_getElem? (i := 37) (by decide +kernel)))) rfl
theorem ns_28 : Cond.selects "KeySteward" ⟨"KeySteward", "end", "(I)Z"⟩ ⟨"KeySteward", "end", "(I)Z"⟩ ∈ kw := kw_tab (tl_in (tb_3 (List.mem_of_getElem? (i := 38) (by decide +kernel)))) rfl
theorem nc_28 : Cond.code ⟨"KeySteward", "end", "(I)Z"⟩ prog_1_method_3_code 2 (Option.some Jvm.ClassFile.FieldType.boolean) ∈ kw := kw_tab (tl_in (tb_3 (List.mem_of_getElem? (i := 39) rfl))) rfl
theorem nl_32 : Cond.methodLink "KeyStewardLaw" 32 ⟨"KeyStewardModel", "end", "(I)Z"⟩ ∈ kw := kw_tab (tl_in (tb_11 (List.mem_of_getElem? (i := 125) (by decide +kernel)))) rfl
theorem ni_32 : Cond.instanceMethod ⟨"KeyStewardModel", "end", "(I)Z"⟩ ∈ kw := kw_tab (tl_in (tb_11 (List.mem_of_getElem? (i := 126) (by decide +kernel)))) rfl
theorem ns_32 : Cond.selects "KeyStewardModel" ⟨"KeyStewardModel", "end", "(I)Z"⟩ ⟨"KeyStewardModel", "end", "(I)Z"⟩ ∈ kw := kw_tab (tl_in (tb_11 (List.mem_of_getElem? (i := 127) (by decide +kernel)))) rfl
theorem nc_32 : Cond.code ⟨"KeyStewardModel", "end", "(I)Z"⟩ prog_15_method_173_code 2 (Option.some Jvm.ClassFile.FieldType.boolean) ∈ kw := kw_tab (tl_in (tb_11 (List.mem_of_getElem? (i := 128) rfl))) rfl
theorem nl_33 : Cond.methodLink "KeyStewardLaw" 33 ⟨"KeySteward", "send", "(I)I"⟩ ∈ kw := kw_tab (tl_in (tb_3 (List.mem_of_getElem? (i := 44) (by decide +kernel)))) rfl
theorem ni_33 : Cond.instanceMethod ⟨"KeySteward", "send", "(I)I"⟩ ∈ kw := kw_tab (tl_in (tb_3 (List.mem_of_getElem? (i := 45) (by decide +kernel)))) rfl
theorem ns_33 : Cond.selects "KeySteward" ⟨"KeySteward", "send", "(I)I"⟩ ⟨"KeySteward", "send", "(I)I"⟩ ∈ kw := kw_tab (tl_in (tb_3 (List.mem_of_getElem? (i := 46) (by decide +kernel)))) rfl
theorem nc_33 : Cond.code ⟨"KeySteward", "send", "(I)I"⟩ prog_1_method_4_code 10 (Option.some Jvm.ClassFile.FieldType.int) ∈ kw := kw_tab (tl_in (tb_3 (List.mem_of_getElem? (i := 47) rfl))) rfl
theorem nl_36 : Cond.methodLink "KeyStewardLaw" 36 ⟨"KeyStewardModel", "send", "(I)I"⟩ ∈ kw := kw_tab (tl_in (tb_11 (List.mem_of_getElem? (i := 129) (by decide +kernel)))) rfl
theorem ni_36 : Cond.instanceMethod ⟨"KeyStewardModel", "send", "(I)I"⟩ ∈ kw := kw_tab (tl_in (tb_11 (List.mem_of_getElem? (i := 130) (by decide +kernel)))) rfl
theorem ns_36 : Cond.selects "KeyStewardModel" ⟨"KeyStewardModel", "send", "(I)I"⟩ ⟨"KeyStewardModel", "send", "(I)I"⟩ ∈ kw := kw_tab (tl_in (tb_11 (List.mem_of_getElem? (i := 131) (by decide +kernel)))) rfl
theorem nc_36 : Cond.code ⟨"KeyStewardModel", "send", "(I)I"⟩ prog_15_method_174_code 9 (Option.some Jvm.ClassFile.FieldType.int) ∈ kw := kw_tab (tl_in (tb_11 (List.mem_of_getElem? (i := 132) rfl))) rfl
theorem nl_37 : Cond.methodLink "KeyStewardLaw" 37 ⟨"KeySteward", "open", "(I)Z"⟩ ∈ kw := kw_tab (tl_in (tb_8 (List.mem_of_getElem? (i := 176) (by decide +kernel)))) rfl
theorem ni_37 : Cond.instanceMethod ⟨"KeySteward", "open", "(I)Z"⟩ ∈ kw := kw_tab (tl_in (tb_8 (List.mem_of_getElem? (i := 177) (by decide +kernel)))) rfl
theorem ns_37 : Cond.selects "KeySteward" ⟨"KeySteward", "open", "(I)Z"⟩ ⟨"KeySteward", "open", "(I)Z"⟩ ∈ kw := kw_tab (tl_in (tb_8 (List.mem_of_getElem? (i := 178) (by decide +kernel)))) rfl
theorem nc_37 : Cond.code ⟨"KeySteward", "open", "(I)Z"⟩ prog_1_method_5_code 3 (Option.some Jvm.ClassFile.FieldType.boolean) ∈ kw := kw_tab (tl_in (tb_8 (List.mem_of_getElem? (i := 179) rfl))) rfl
theorem nl_40 : Cond.methodLink "KeyStewardLaw" 40 ⟨"KeyStewardModel", "open", "(I)Z"⟩ ∈ kw := kw_tab (tl_in (tb_14 (List.mem_of_getElem? (i := 159) (by decide +kernel)))) rfl
theorem ni_40 : Cond.instanceMethod ⟨"KeyStewardModel", "open", "(I)Z"⟩ ∈ kw := kw_tab (tl_in (tb_14 (List.mem_of_getElem? (i := 160) (by decide +kernel)))) rfl
theorem ns_40 : Cond.selects "KeyStewardModel" ⟨"KeyStewardModel", "open", "(I)Z"⟩ ⟨"KeyStewardModel", "open", "(I)Z"⟩ ∈ kw := kw_tab (tl_in (tb_14 (List.mem_of_getElem? (i := 161) (by decide +kernel)))) rfl
theorem nc_40 : Cond.code ⟨"KeyStewardModel", "open", "(I)Z"⟩ prog_15_method_176_code 2 (Option.some Jvm.ClassFile.FieldType.boolean) ∈ kw := kw_tab (tl_in (tb_14 (List.mem_of_getElem? (i := 162) rfl))) rfl
theorem nl_41 : Cond.methodLink "KeyStewardLaw" 41 ⟨"KeySteward", "isOpen", "(I)Z"⟩ ∈ kw := kw_tab (tl_in (tb_8 (List.mem_of_getElem? (i := 180) (by decide +kernel)))) rfl
theorem ni_41 : Cond.instanceMethod ⟨"KeySteward", "isOpen", "(I)Z"⟩ ∈ kw := kw_tab (tl_in (tb_8 (List.mem_of_getElem? (i := 181) (by decide +kernel)))) rfl
theorem ns_41 : Cond.selects "KeySteward" ⟨"KeySteward", "isOpen", "(I)Z"⟩ ⟨"KeySteward", "isOpen", "(I)Z"⟩ ∈ kw := kw_tab (tl_in (tb_8 (List.mem_of_getElem? (i := 182) (by decide +kernel)))) rfl
theorem nc_41 : Cond.code ⟨"KeySteward", "isOpen", "(I)Z"⟩ prog_1_method_6_code 3 (Option.some Jvm.ClassFile.FieldType.boolean) ∈ kw := kw_tab (tl_in (tb_8 (List.mem_of_getElem? (i := 183) rfl))) rfl
theorem nl_44 : Cond.methodLink "KeyStewardLaw" 44 ⟨"KeyStewardModel", "isOpen", "(I)Z"⟩ ∈ kw := kw_tab (tl_in (tb_14 (List.mem_of_getElem? (i := 166) (by decide +kernel)))) rfl
theorem ni_44 : Cond.instanceMethod ⟨"KeyStewardModel", "isOpen", "(I)Z"⟩ ∈ kw := kw_tab (tl_in (tb_14 (List.mem_of_getElem? (i := 167) (by decide +kernel)))) rfl
theorem ns_44 : Cond.selects "KeyStewardModel" ⟨"KeyStewardModel", "isOpen", "(I)Z"⟩ ⟨"KeyStewardModel", "isOpen", "(I)Z"⟩ ∈ kw := kw_tab (tl_in (tb_14 (List.mem_of_getElem? (i := 168) (by decide +kernel)))) rfl
theorem nc_44 : Cond.code ⟨"KeyStewardModel", "isOpen", "(I)Z"⟩ prog_15_method_177_code 2 (Option.some Jvm.ClassFile.FieldType.boolean) ∈ kw := kw_tab (tl_in (tb_14 (List.mem_of_getElem? (i := 169) rfl))) rfl
theorem nl_45 : Cond.methodLink "KeyStewardLaw" 45 ⟨"KeySteward", "out", "(I)I"⟩ ∈ kw := kw_tab (tl_in (tb_8 (List.mem_of_getElem? (i := 184) (by decide +kernel)))) rfl
theorem ni_45 : Cond.instanceMethod ⟨"KeySteward", "out", "(I)I"⟩ ∈ kw := kw_tab (tl_in (tb_8 (List.mem_of_getElem? (i := 185) (by decide +kernel)))) rfl
theorem ns_45 : Cond.selects "KeySteward" ⟨"KeySteward", "out", "(I)I"⟩ ⟨"KeySteward", "out", "(I)I"⟩ ∈ kw := kw_tab (tl_in (tb_8 (List.mem_of_getElem? (i := 186) (by decide +kernel)))) rfl
theorem nc_45 : Cond.code ⟨"KeySteward", "out", "(I)I"⟩ prog_1_method_7_code 3 (Option.some Jvm.ClassFile.FieldType.int) ∈ kw := kw_tab (tl_in (tb_8 (List.mem_of_getElem? (i := 187) rfl))) rfl
theorem nl_48 : Cond.methodLink "KeyStewardLaw" 48 ⟨"KeyStewardModel", "out", "(I)I"⟩ ∈ kw := kw_tab (tl_in (tb_14 (List.mem_of_getElem? (i := 170) (by decide +kernel)))) rfl
theorem ni_48 : Cond.instanceMethod ⟨"KeyStewardModel", "out", "(I)I"⟩ ∈ kw := kw_tab (tl_in (tb_14 (List.mem_of_getElem? (i := 171) (by decide +kernel)))) rfl
theorem ns_48 : Cond.selects "KeyStewardModel" ⟨"KeyStewardModel", "out", "(I)I"⟩ ⟨"KeyStewardModel", "out", "(I)I"⟩ ∈ kw := kw_tab (tl_in (tb_14 (List.mem_of_getElem? (i := 172) (by decide +kernel)))) rfl
theorem nc_48 : Cond.code ⟨"KeyStewardModel", "out", "(I)I"⟩ prog_15_method_178_code 2 (Option.some Jvm.ClassFile.FieldType.int) ∈ kw := kw_tab (tl_in (tb_14 (List.mem_of_getElem? (i := 173) rfl))) rfl
theorem nl_49 : Cond.methodLink "KeyStewardLaw" 49 ⟨"KeyStewardLaw", "outAt", "(LKeySteward;II[J)I"⟩ ∈ kw := kw_tab (tl_in (tb_9 (List.mem_of_getElem? (i := 36) (by decide +kernel)))) rfl
theorem nt_49 : Cond.static ⟨"KeyStewardLaw", "outAt", "(LKeySteward;II[J)I"⟩ ∈ kw := kw_tab (tl_in (tb_9 (List.mem_of_getElem? (i := 37) (by decide +kernel)))) rfl
theorem nc_49 : Cond.codeWith ⟨"KeyStewardLaw", "outAt", "(LKeySteward;II[J)I"⟩ method_3_code 5 (Option.some Jvm.ClassFile.FieldType.int) [(0, 10, 13, 13)] ∈ kw := kw_tab (tl_in (tb_9 (List.mem_of_getElem? (i := 38) rfl))) rfl
theorem nl_54 : Cond.methodLink "KeyStewardLaw" 54 ⟨"KeyStewardModel", "outAt", "(II)I"⟩ ∈ kw := kw_tab (tl_in (tb_14 (List.mem_of_getElem? (i := 174) (by decide +kernel)))) rfl
theorem ni_54 : Cond.instanceMethod ⟨"KeyStewardModel", "outAt", "(II)I"⟩ ∈ kw := kw_tab (tl_in (tb_14 (List.mem_of_getElem? (i := 175) (by decide +kernel)))) rfl
theorem ns_54 : Cond.selects "KeyStewardModel" ⟨"KeyStewardModel", "outAt", "(II)I"⟩ ⟨"KeyStewardModel", "outAt", "(II)I"⟩ ∈ kw := kw_tab (tl_in (tb_14 (List.mem_of_getElem? (i := 176) (by decide +kernel)))) rfl
theorem nc_54 : Cond.code ⟨"KeyStewardModel", "outAt", "(II)I"⟩ prog_15_method_179_code 3 (Option.some Jvm.ClassFile.FieldType.int) ∈ kw := kw_tab (tl_in (tb_14 (List.mem_of_getElem? (i := 177) rfl))) rfl
theorem nl_55 : Cond.methodLink "KeyStewardLaw" 55 ⟨"KeySteward", "take", "(II)Z"⟩ ∈ kw := kw_tab (tl_in (tb_8 (List.mem_of_getElem? (i := 188) (by decide +kernel)))) rfl
theorem ni_55 : Cond.instanceMethod ⟨"KeySteward", "take", "(II)Z"⟩ ∈ kw := kw_tab (tl_in (tb_8 (List.mem_of_getElem? (i := 189) (by decide +kernel)))) rfl
theorem ns_55 : Cond.selects "KeySteward" ⟨"KeySteward", "take", "(II)Z"⟩ ⟨"KeySteward", "take", "(II)Z"⟩ ∈ kw := kw_tab (tl_in (tb_8 (List.mem_of_getElem? (i := 190) (by decide +kernel)))) rfl
theorem nc_55 : Cond.code ⟨"KeySteward", "take", "(II)Z"⟩ prog_1_method_9_code 4 (Option.some Jvm.ClassFile.FieldType.boolean) ∈ kw := kw_tab (tl_in (tb_8 (List.mem_of_getElem? (i := 191) rfl))) rfl
theorem nl_59 : Cond.methodLink "KeyStewardLaw" 59 ⟨"KeyStewardModel", "take", "(II)Z"⟩ ∈ kw := kw_tab (tl_in (tb_14 (List.mem_of_getElem? (i := 178) (by decide +kernel)))) rfl
theorem ni_59 : Cond.instanceMethod ⟨"KeyStewardModel", "take", "(II)Z"⟩ ∈ kw := kw_tab (tl_in (tb_14 (List.mem_of_getElem? (i := 179) (by decide +kernel)))) rfl
theorem ns_59 : Cond.selects "KeyStewardModel" ⟨"KeyStewardModel", "take", "(II)Z"⟩ ⟨"KeyStewardModel", "take", "(II)Z"⟩ ∈ kw := kw_tab (tl_in (tb_14 (List.mem_of_getElem? (i := 180) (by decide +kernel)))) rfl
theorem nc_59 : Cond.code ⟨"KeyStewardModel", "take", "(II)Z"⟩ prog_15_method_180_code 5 (Option.some Jvm.ClassFile.FieldType.boolean) ∈ kw := kw_tab (tl_in (tb_14 (List.mem_of_getElem? (i := 181) rfl))) rfl
theorem nl_62 : Cond.methodLink "KeyStewardLaw" 62 ⟨"KeySteward", "pass", "(J)I"⟩ ∈ kw := kw_tab (tl_in (tb_8 (List.mem_of_getElem? (i := 192) (by decide +kernel)))) rfl
theorem ni_62 : Cond.instanceMethod ⟨"KeySteward", "pass", "(J)I"⟩ ∈ kw := kw_tab (tl_in (tb_8 (List.mem_of_getElem? (i := 193) (by decide +kernel)))) rfl
theorem ns_62 : Cond.selects "KeySteward" ⟨"KeySteward", "pass", "(J)I"⟩ ⟨"KeySteward", "pass", "(J)I"⟩ ∈ kw := kw_tab (tl_in (tb_8 (List.mem_of_getElem? (i := 194) (by decide +kernel)))) rfl
theorem nc_62 : Cond.code ⟨"KeySteward", "pass", "(J)I"⟩ prog_1_method_10_code 5 (Option.some Jvm.ClassFile.FieldType.int) ∈ kw := kw_tab (tl_in (tb_8 (List.mem_of_getElem? (i := 195) rfl))) rfl
theorem nl_66 : Cond.methodLink "KeyStewardLaw" 66 ⟨"KeyStewardModel", "pass", "(J)I"⟩ ∈ kw := kw_tab (tl_in (tb_14 (List.mem_of_getElem? (i := 182) (by decide +kernel)))) rfl
theorem ni_66 : Cond.instanceMethod ⟨"KeyStewardModel", "pass", "(J)I"⟩ ∈ kw := kw_tab (tl_in (tb_14 (List.mem_of_getElem? (i := 183) (by decide +kernel)))) rfl
theorem ns_66 : Cond.selects "KeyStewardModel" ⟨"KeyStewardModel", "pass", "(J)I"⟩ ⟨"KeyStewardModel", "pass", "(J)I"⟩ ∈ kw := kw_tab (tl_in (tb_14 (List.mem_of_getElem? (i := 184) (by decide +kernel)))) rfl
theorem nc_66 : Cond.code ⟨"KeyStewardModel", "pass", "(J)I"⟩ prog_15_method_182_code 3 (Option.some Jvm.ClassFile.FieldType.int) ∈ kw := kw_tab (tl_in (tb_14 (List.mem_of_getElem? (i := 185) rfl))) rfl
theorem nl_67 : Cond.methodLink "KeyStewardLaw" 67 ⟨"KeySteward", "now", "()J"⟩ ∈ kw := kw_tab (tl_in (tb_8 (List.mem_of_getElem? (i := 209) (by decide +kernel)))) rfl
theorem ni_67 : Cond.instanceMethod ⟨"KeySteward", "now", "()J"⟩ ∈ kw := kw_tab (tl_in (tb_8 (List.mem_of_getElem? (i := 210) (by decide +kernel)))) rfl
theorem ns_67 : Cond.selects "KeySteward" ⟨"KeySteward", "now", "()J"⟩ ⟨"KeySteward", "now", "()J"⟩ ∈ kw := kw_tab (tl_in (tb_8 (List.mem_of_getElem? (i := 211) (by decide +kernel)))) rfl
theorem nc_67 : Cond.code ⟨"KeySteward", "now", "()J"⟩ prog_1_method_11_code 1 (Option.some Jvm.ClassFile.FieldType.long) ∈ kw := kw_tab (tl_in (tb_8 (List.mem_of_getElem? (i := 212) rfl))) rfl
theorem nl_71 : Cond.methodLink "KeyStewardLaw" 71 ⟨"KeyStewardModel", "now", "()J"⟩ ∈ kw := kw_tab (tl_in (tb_14 (List.mem_of_getElem? (i := 192) (by decide +kernel)))) rfl
theorem ni_71 : Cond.instanceMethod ⟨"KeyStewardModel", "now", "()J"⟩ ∈ kw := kw_tab (tl_in (tb_14 (List.mem_of_getElem? (i := 193) (by decide +kernel)))) rfl
theorem ns_71 : Cond.selects "KeyStewardModel" ⟨"KeyStewardModel", "now", "()J"⟩ ⟨"KeyStewardModel", "now", "()J"⟩ ∈ kw := kw_tab (tl_in (tb_14 (List.mem_of_getElem? (i := 194) (by decide +kernel)))) rfl
theorem nc_71 : Cond.code ⟨"KeyStewardModel", "now", "()J"⟩ prog_15_method_183_code 1 (Option.some Jvm.ClassFile.FieldType.long) ∈ kw := kw_tab (tl_in (tb_14 (List.mem_of_getElem? (i := 195) rfl))) rfl
theorem nl_72 : Cond.methodLink "KeyStewardLaw" 72 ⟨"KeySteward", "fuse", "(I)V"⟩ ∈ kw := kw_tab (tl_in (tb_8 (List.mem_of_getElem? (i := 213) (by decide +kernel)))) rfl
theorem ni_72 : Cond.instanceMethod ⟨"KeySteward", "fuse", "(I)V"⟩ ∈ kw := kw_tab (tl_in (tb_8 (List.mem_of_getElem? (i := 214) (by decide +kernel)))) rfl
theorem ns_72 : Cond.selects "KeySteward" ⟨"KeySteward", "fuse", "(I)V"⟩ ⟨"KeySteward", "fuse", "(I)V"⟩ ∈ kw := kw_tab (tl_in (tb_8 (List.mem_of_getElem? (i := 215) (by decide +kernel)))) rfl
theorem nc_72 : Cond.code ⟨"KeySteward", "fuse", "(I)V"⟩ prog_1_method_12_code 2 (Option.none : Option Jvm.ClassFile.FieldType) ∈ kw := kw_tab (tl_in (tb_8 (List.mem_of_getElem? (i := 216) rfl))) rfl
theorem nl_76 : Cond.methodLink "KeyStewardLaw" 76 ⟨"KeyStewardModel", "fuse", "(I)V"⟩ ∈ kw := kw_tab (tl_in (tb_14 (List.mem_of_getElem? (i := 196) (by decide +kernel)))) rfl
theorem ni_76 : Cond.instanceMethod ⟨"KeyStewardModel", "fuse", "(I)V"⟩ ∈ kw := kw_tab (tl_in (tb_14 (List.mem_of_getElem? (i := 197) (by decide +kernel)))) rfl
theorem ns_76 : Cond.selects "KeyStewardModel" ⟨"KeyStewardModel", "fuse", "(I)V"⟩ ⟨"KeyStewardModel", "fuse", "(I)V"⟩ ∈ kw := kw_tab (tl_in (tb_14 (List.mem_of_getElem? (i := 198) (by decide +kernel)))) rfl
theorem nc_76 : Cond.code ⟨"KeyStewardModel", "fuse", "(I)V"⟩ prog_15_method_184_code 2 (Option.none : Option Jvm.ClassFile.FieldType) ∈ kw := kw_tab (tl_in (tb_14 (List.mem_of_getElem? (i := 199) rfl))) rfl
theorem nl_77 : Cond.methodLink "KeyStewardLaw" 77 ⟨"KeySteward", "crash", "()Z"⟩ ∈ kw := kw_tab (tl_in (tb_8 (List.mem_of_getElem? (i := 217) (by decide +kernel)))) rfl
theorem ni_77 : Cond.instanceMethod ⟨"KeySteward", "crash", "()Z"⟩ ∈ kw := kw_tab (tl_in (tb_8 (List.mem_of_getElem? (i := 218) (by decide +kernel)))) rfl
theorem ns_77 : Cond.selects "KeySteward" ⟨"KeySteward", "crash", "()Z"⟩ ⟨"KeySteward", "crash", "()Z"⟩ ∈ kw := kw_tab (tl_in (tb_8 (List.mem_of_getElem? (i := 219) (by decide +kernel)))) rfl
theorem nc_77 : Cond.code ⟨"KeySteward", "crash", "()Z"⟩ prog_1_method_13_code 1 (Option.some Jvm.ClassFile.FieldType.boolean) ∈ kw := kw_tab (tl_in (tb_8 (List.mem_of_getElem? (i := 220) rfl))) rfl
theorem nl_81 : Cond.methodLink "KeyStewardLaw" 81 ⟨"KeyStewardModel", "crash", "()Z"⟩ ∈ kw := kw_tab (tl_in (tb_14 (List.mem_of_getElem? (i := 200) (by decide +kernel)))) rfl
theorem ni_81 : Cond.instanceMethod ⟨"KeyStewardModel", "crash", "()Z"⟩ ∈ kw := kw_tab (tl_in (tb_14 (List.mem_of_getElem? (i := 201) (by decide +kernel)))) rfl
theorem ns_81 : Cond.selects "KeyStewardModel" ⟨"KeyStewardModel", "crash", "()Z"⟩ ⟨"KeyStewardModel", "crash", "()Z"⟩ ∈ kw := kw_tab (tl_in (tb_14 (List.mem_of_getElem? (i := 202) (by decide +kernel)))) rfl
theorem nc_81 : Cond.code ⟨"KeyStewardModel", "crash", "()Z"⟩ prog_15_method_185_code 1 (Option.some Jvm.ClassFile.FieldType.boolean) ∈ kw := kw_tab (tl_in (tb_14 (List.mem_of_getElem? (i := 203) rfl))) rfl
theorem nl_82 : Cond.methodLink "KeyStewardLaw" 82 ⟨"KeySteward", "restart", "()I"⟩ ∈ kw := kw_tab (tl_in (tb_8 (List.mem_of_getElem? (i := 221) (by decide +kernel)))) rfl
theorem ni_82 : Cond.instanceMethod ⟨"KeySteward", "restart", "()I"⟩ ∈ kw := kw_tab (tl_in (tb_8 (List.mem_of_getElem? (i := 222) (by decide +kernel)))) rfl
theorem ns_82 : Cond.selects "KeySteward" ⟨"KeySteward", "restart", "()I"⟩ ⟨"KeySteward", "restart", "()I"⟩ ∈ kw := kw_tab (tl_in (tb_8 (List.mem_of_getElem? (i := 223) (by decide +kernel)))) rfl
theorem nc_82 : Cond.code ⟨"KeySteward", "restart", "()I"⟩ prog_1_method_14_code 6 (Option.some Jvm.ClassFile.FieldType.int) ∈ kw := kw_tab (tl_in (tb_8 (List.mem_of_getElem? (i := 224) rfl))) rfl
theorem nl_86 : Cond.methodLink "KeyStewardLaw" 86 ⟨"KeyStewardModel", "restart", "()I"⟩ ∈ kw := kw_tab (tl_in (tb_14 (List.mem_of_getElem? (i := 204) (by decide +kernel)))) rfl
theorem ni_86 : Cond.instanceMethod ⟨"KeyStewardModel", "restart", "()I"⟩ ∈ kw := kw_tab (tl_in (tb_14 (List.mem_of_getElem? (i := 205) (by decide +kernel)))) rfl
theorem ns_86 : Cond.selects "KeyStewardModel" ⟨"KeyStewardModel", "restart", "()I"⟩ ⟨"KeyStewardModel", "restart", "()I"⟩ ∈ kw := kw_tab (tl_in (tb_14 (List.mem_of_getElem? (i := 206) (by decide +kernel)))) rfl
theorem nc_86 : Cond.code ⟨"KeyStewardModel", "restart", "()I"⟩ prog_15_method_190_code 5 (Option.some Jvm.ClassFile.FieldType.int) ∈ kw := kw_tab (tl_in (tb_14 (List.mem_of_getElem? (i := 207) rfl))) rfl
theorem nl_87 : Cond.methodLink "KeyStewardLaw" 87 ⟨"KeySteward", "rewrite", "()I"⟩ ∈ kw := kw_tab (tl_in (tb_8 (List.mem_of_getElem? (i := 239) (by decide +kernel)))) rfl
theorem ni_87 : Cond.instanceMethod ⟨"KeySteward", "rewrite", "()I"⟩ ∈ kw := kw_tab (tl_in (tb_9 (List.mem_of_getElem? (i := 0) (by decide +kernel)))) rfl
theorem ns_87 : Cond.selects "KeySteward" ⟨"KeySteward", "rewrite", "()I"⟩ ⟨"KeySteward", "rewrite", "()I"⟩ ∈ kw := kw_tab (tl_in (tb_9 (List.mem_of_getElem? (i := 1) (by decide +kernel)))) rfl
theorem nc_87 : Cond.code ⟨"KeySteward", "rewrite", "()I"⟩ prog_1_method_15_code 2 (Option.some Jvm.ClassFile.FieldType.int) ∈ kw := kw_tab (tl_in (tb_9 (List.mem_of_getElem? (i := 2) rfl))) rfl
theorem nl_90 : Cond.methodLink "KeyStewardLaw" 90 ⟨"KeyStewardModel", "rewrite", "()I"⟩ ∈ kw := kw_tab (tl_in (tb_14 (List.mem_of_getElem? (i := 223) (by decide +kernel)))) rfl
theorem ni_90 : Cond.instanceMethod ⟨"KeyStewardModel", "rewrite", "()I"⟩ ∈ kw := kw_tab (tl_in (tb_14 (List.mem_of_getElem? (i := 224) (by decide +kernel)))) rfl
theorem ns_90 : Cond.selects "KeyStewardModel" ⟨"KeyStewardModel", "rewrite", "()I"⟩ ⟨"KeyStewardModel", "rewrite", "()I"⟩ ∈ kw := kw_tab (tl_in (tb_14 (List.mem_of_getElem? (i := 225) (by decide +kernel)))) rfl
theorem nc_90 : Cond.code ⟨"KeyStewardModel", "rewrite", "()I"⟩ prog_15_method_192_code 10 (Option.some Jvm.ClassFile.FieldType.int) ∈ kw := kw_tab (tl_in (tb_14 (List.mem_of_getElem? (i := 226) rfl))) rfl
theorem nl_91 : Cond.methodLink "KeyStewardLaw" 91 ⟨"KeySteward", "log", "()I"⟩ ∈ kw := kw_tab (tl_in (tb_9 (List.mem_of_getElem? (i := 20) (by decide +kernel)))) rfl
theorem ni_91 : Cond.instanceMethod ⟨"KeySteward", "log", "()I"⟩ ∈ kw := kw_tab (tl_in (tb_9 (List.mem_of_getElem? (i := 21) (by decide +kernel)))) rfl
theorem ns_91 : Cond.selects "KeySteward" ⟨"KeySteward", "log", "()I"⟩ ⟨"KeySteward", "log", "()I"⟩ ∈ kw := kw_tab (tl_in (tb_9 (List.mem_of_getElem? (i := 22) (by decide +kernel)))) rfl
theorem nc_91 : Cond.code ⟨"KeySteward", "log", "()I"⟩ prog_1_method_16_code 1 (Option.some Jvm.ClassFile.FieldType.int) ∈ kw := kw_tab (tl_in (tb_9 (List.mem_of_getElem? (i := 23) rfl))) rfl
theorem nl_94 : Cond.methodLink "KeyStewardLaw" 94 ⟨"KeyStewardModel", "log", "()I"⟩ ∈ kw := kw_tab (tl_in (tb_14 (List.mem_of_getElem? (i := 231) (by decide +kernel)))) rfl
theorem ni_94 : Cond.instanceMethod ⟨"KeyStewardModel", "log", "()I"⟩ ∈ kw := kw_tab (tl_in (tb_14 (List.mem_of_getElem? (i := 232) (by decide +kernel)))) rfl
theorem ns_94 : Cond.selects "KeyStewardModel" ⟨"KeyStewardModel", "log", "()I"⟩ ⟨"KeyStewardModel", "log", "()I"⟩ ∈ kw := kw_tab (tl_in (tb_14 (List.mem_of_getElem? (i := 233) (by decide +kernel)))) rfl
theorem nc_94 : Cond.code ⟨"KeyStewardModel", "log", "()I"⟩ prog_15_method_193_code 1 (Option.some Jvm.ClassFile.FieldType.int) ∈ kw := kw_tab (tl_in (tb_14 (List.mem_of_getElem? (i := 234) rfl))) rfl
theorem nl_95 : Cond.methodLink "KeyStewardLaw" 95 ⟨"KeyStewardLaw", "logAt", "(LKeySteward;I[J)I"⟩ ∈ kw := kw_tab (tl_in (tb_9 (List.mem_of_getElem? (i := 105) (by decide +kernel)))) rfl
theorem nt_95 : Cond.static ⟨"KeyStewardLaw", "logAt", "(LKeySteward;I[J)I"⟩ ∈ kw := kw_tab (tl_in (tb_9 (List.mem_of_getElem? (i := 106) (by decide +kernel)))) rfl
theorem nc_95 : Cond.codeWith ⟨"KeyStewardLaw", "logAt", "(LKeySteward;I[J)I"⟩ method_4_code 4 (Option.some Jvm.ClassFile.FieldType.int) [(0, 9, 12, 13)] ∈ kw := kw_tab (tl_in (tb_9 (List.mem_of_getElem? (i := 107) rfl))) rfl
theorem nl_98 : Cond.methodLink "KeyStewardLaw" 98 ⟨"KeyStewardModel", "logAt", "(I)I"⟩ ∈ kw := kw_tab (tl_in (tb_14 (List.mem_of_getElem? (i := 235) (by decide +kernel)))) rfl
theorem ni_98 : Cond.instanceMethod ⟨"KeyStewardModel", "logAt", "(I)I"⟩ ∈ kw := kw_tab (tl_in (tb_14 (List.mem_of_getElem? (i := 236) (by decide +kernel)))) rfl
theorem ns_98 : Cond.selects "KeyStewardModel" ⟨"KeyStewardModel", "logAt", "(I)I"⟩ ⟨"KeyStewardModel", "logAt", "(I)I"⟩ ∈ kw := kw_tab (tl_in (tb_14 (List.mem_of_getElem? (i := 237) (by decide +kernel)))) rfl
theorem nc_98 : Cond.code ⟨"KeyStewardModel", "logAt", "(I)I"⟩ prog_15_method_194_code 2 (Option.some Jvm.ClassFile.FieldType.int) ∈ kw := kw_tab (tl_in (tb_14 (List.mem_of_getElem? (i := 238) rfl))) rfl
theorem nl_99 : Cond.methodLink "KeyStewardLaw" 99 ⟨"KeySteward", "tear", "(I)Z"⟩ ∈ kw := kw_tab (tl_in (tb_9 (List.mem_of_getElem? (i := 24) (by decide +kernel)))) rfl
theorem ni_99 : Cond.instanceMethod ⟨"KeySteward", "tear", "(I)Z"⟩ ∈ kw := kw_tab (tl_in (tb_9 (List.mem_of_getElem? (i := 25) (by decide +kernel)))) rfl
theorem ns_99 : Cond.selects "KeySteward" ⟨"KeySteward", "tear", "(I)Z"⟩ ⟨"KeySteward", "tear", "(I)Z"⟩ ∈ kw := kw_tab (tl_in (tb_9 (List.mem_of_getElem? (i := 26) (by decide +kernel)))) rfl
theorem nc_99 : Cond.code ⟨"KeySteward", "tear", "(I)Z"⟩ prog_1_method_18_code 2 (Option.some Jvm.ClassFile.FieldType.boolean) ∈ kw := kw_tab (tl_in (tb_9 (List.mem_of_getElem? (i := 27) rfl))) rfl
theorem nl_102 : Cond.methodLink "KeyStewardLaw" 102 ⟨"KeyStewardModel", "tear", "(I)Z"⟩ ∈ kw := kw_tab (tl_in (tb_14 (List.mem_of_getElem? (i := 239) (by decide +kernel)))) rfl
theorem ni_102 : Cond.instanceMethod ⟨"KeyStewardModel", "tear", "(I)Z"⟩ ∈ kw := kw_tab (tl_in (tb_15 (List.mem_of_getElem? (i := 0) (by decide +kernel)))) rfl
theorem ns_102 : Cond.selects "KeyStewardModel" ⟨"KeyStewardModel", "tear", "(I)Z"⟩ ⟨"KeyStewardModel", "tear", "(I)Z"⟩ ∈ kw := kw_tab (tl_in (tb_15 (List.mem_of_getElem? (i := 1) (by decide +kernel)))) rfl
theorem nc_102 : Cond.code ⟨"KeyStewardModel", "tear", "(I)Z"⟩ prog_15_method_195_code 2 (Option.some Jvm.ClassFile.FieldType.boolean) ∈ kw := kw_tab (tl_in (tb_15 (List.mem_of_getElem? (i := 2) rfl))) rfl
theorem nl_103 : Cond.methodLink "KeyStewardLaw" 103 ⟨"KeySteward", "isUp", "()Z"⟩ ∈ kw := kw_tab (tl_in (tb_9 (List.mem_of_getElem? (i := 28) (by decide +kernel)))) rfl
theorem ni_103 : Cond.instanceMethod ⟨"KeySteward", "isUp", "()Z"⟩ ∈ kw := kw_tab (tl_in (tb_9 (List.mem_of_getElem? (i := 29) (by decide +kernel)))) rfl
theorem ns_103 : Cond.selects "KeySteward" ⟨"KeySteward", "isUp", "()Z"⟩ ⟨"KeySteward", "isUp", "()Z"⟩ ∈ kw := kw_tab (tl_in (tb_9 (List.mem_of_getElem? (i := 30) (by decide +kernel)))) rfl
theorem nc_103 : Cond.code ⟨"KeySteward", "isUp", "()Z"⟩ prog_1_method_19_code 1 (Option.some Jvm.ClassFile.FieldType.boolean) ∈ kw := kw_tab (tl_in (tb_9 (List.mem_of_getElem? (i := 31) rfl))) rfl
theorem nl_106 : Cond.methodLink "KeyStewardLaw" 106 ⟨"KeyStewardModel", "isUp", "()Z"⟩ ∈ kw := kw_tab (tl_in (tb_15 (List.mem_of_getElem? (i := 3) (by decide +kernel)))) rfl
theorem ni_106 : Cond.instanceMethod ⟨"KeyStewardModel", "isUp", "()Z"⟩ ∈ kw := kw_tab (tl_in (tb_15 (List.mem_of_getElem? (i := 4) (by decide +kernel)))) rfl
theorem ns_106 : Cond.selects "KeyStewardModel" ⟨"KeyStewardModel", "isUp", "()Z"⟩ ⟨"KeyStewardModel", "isUp", "()Z"⟩ ∈ kw := kw_tab (tl_in (tb_15 (List.mem_of_getElem? (i := 5) (by decide +kernel)))) rfl
theorem nc_106 : Cond.code ⟨"KeyStewardModel", "isUp", "()Z"⟩ prog_15_method_196_code 1 (Option.some Jvm.ClassFile.FieldType.boolean) ∈ kw := kw_tab (tl_in (tb_15 (List.mem_of_getElem? (i := 6) rfl))) rfl
theorem nl_107 : Cond.methodLink "KeyStewardLaw" 107 ⟨"KeySteward", "total", "(I)I"⟩ ∈ kw := kw_tab (tl_in (tb_9 (List.mem_of_getElem? (i := 32) (by decide +kernel)))) rfl
theorem ni_107 : Cond.instanceMethod ⟨"KeySteward", "total", "(I)I"⟩ ∈ kw := kw_tab (tl_in (tb_9 (List.mem_of_getElem? (i := 33) (by decide +kernel)))) rfl
theorem ns_107 : Cond.selects "KeySteward" ⟨"KeySteward", "total", "(I)I"⟩ ⟨"KeySteward", "total", "(I)I"⟩ ∈ kw := kw_tab (tl_in (tb_9 (List.mem_of_getElem? (i := 34) (by decide +kernel)))) rfl
theorem nc_107 : Cond.code ⟨"KeySteward", "total", "(I)I"⟩ prog_1_method_20_code 2 (Option.some Jvm.ClassFile.FieldType.int) ∈ kw := kw_tab (tl_in (tb_9 (List.mem_of_getElem? (i := 35) rfl))) rfl
theorem nl_110 : Cond.methodLink "KeyStewardLaw" 110 ⟨"KeyStewardModel", "total", "(I)I"⟩ ∈ kw := kw_tab (tl_in (tb_15 (List.mem_of_getElem? (i := 7) (by decide +kernel)))) rfl
theorem ni_110 : Cond.instanceMethod ⟨"KeyStewardModel", "total", "(I)I"⟩ ∈ kw := kw_tab (tl_in (tb_15 (List.mem_of_getElem? (i := 8) (by decide +kernel)))) rfl
theorem ns_110 : Cond.selects "KeyStewardModel" ⟨"KeyStewardModel", "total", "(I)I"⟩ ⟨"KeyStewardModel", "total", "(I)I"⟩ ∈ kw := kw_tab (tl_in (tb_15 (List.mem_of_getElem? (i := 9) (by decide +kernel)))) rfl
theorem nc_110 : Cond.code ⟨"KeyStewardModel", "total", "(I)I"⟩ prog_15_method_197_code 4 (Option.some Jvm.ClassFile.FieldType.int) ∈ kw := kw_tab (tl_in (tb_15 (List.mem_of_getElem? (i := 10) rfl))) rfl
theorem nk_0 : Cond.classLink "KeyStewardLaw" 13 "java/util/NoSuchElementException" ∈ kw := kw_tab (tl_in (tb_9 (List.mem_of_getElem? (i := 39) (by decide +kernel)))) rfl
theorem nk_1 : Cond.classLink "KeyStewardLaw" 8 "KeySteward" ∈ kw := kw_tab (tl_in (tb_1 (List.mem_of_getElem? (i := 28) (by decide +kernel)))) rfl
theorem nk_2 : Cond.classLink "KeyStewardLaw" 20 "KeyStewardModel" ∈ kw := kw_tab (tl_in (tb_9 (List.mem_of_getElem? (i := 112) (by decide +kernel)))) rfl
theorem nk_3 : Cond.classLink "KeySteward" 175 "java/util/NoSuchElementException" ∈ kw := kw_tab (tl_in (tb_9 (List.mem_of_getElem? (i := 44) (by decide +kernel)))) rfl
theorem nw_al : Cond.arrayClass Jvm.ClassFile.FieldType.long ∈ kw := kw_tab (tl_in (tb_2 (List.mem_of_getElem? (i := 80) (by decide +kernel)))) rfl
theorem nf_106 : Cond.fieldLink "KeySteward" 106 "KeySteward$Bytes" "size" "I" ∈ kw := kw_tab (tl_in (tb_1 (List.mem_of_getElem? (i := 49) (by decide +kernel)))) rfl
theorem nf_172 : Cond.fieldLink "KeySteward" 172 "KeySteward$Connection" "output" "LKeySteward$Bytes;" ∈ kw := kw_tab (tl_in (tb_1 (List.mem_of_getElem? (i := 82) (by decide +kernel)))) rfl
theorem nf_25 : Cond.fieldLink "KeySteward" 25 "KeySteward" "journal" "LKeySteward$Bytes;" ∈ kw := kw_tab (tl_in (tb_2 (List.mem_of_getElem? (i := 198) (by decide +kernel)))) rfl
